theorem dX0_init_0 : decode cX0_init 0 = .ok (.aload_n 0, 1) := by decide +kernel
theorem dX0_init_1 : decode cX0_init 1 = .ok (.invokespecial 3, 3) := by decide +kernel
theorem dX0_init_4 : decode cX0_init 4 = .ok (.aload_n 0, 1) := by decide +kernel
theorem dX0_init_5 : decode cX0_init 5 = .ok (.iconst 4, 1) := by decide +kernel
theorem dX0_init_6 : decode cX0_init 6 = .ok (.newarray .int, 2) := by decide +kernel
theorem dX0_init_8 : decode cX0_init 8 = .ok (.putfield 9, 3) := by decide +kernel
theorem dX0_init_11 : decode cX0_init 11 = .ok (.aload_n 0, 1) := by decide +kernel
theorem dX0_init_12 : decode cX0_init 12 = .ok (.iconst 4, 1) := by decide +kernel
theorem dX0_init_13 : decode cX0_init 13 = .ok (.newarray .int, 2) := by decide +kernel
theorem dX0_init_15 : decode cX0_init 15 = .ok (.putfield 15, 3) := by decide +kernel
theorem dX0_init_18 : decode cX0_init 18 = .ok (.aload_n 0, 1) := by decide +kernel
theorem dX0_init_19 : decode cX0_init 19 = .ok (.iconst 0, 1) := by decide +kernel
theorem dX0_init_20 : decode cX0_init 20 = .ok (.putfield 18, 3) := by decide +kernel
theorem dX0_init_23 : decode cX0_init 23 = .ok (.return_, 1) := by decide +kernel
theorem dX0_solve_0 : decode cX0_solve 0 = .ok (.aload_n 0, 1) := by decide +kernel
theorem dX0_solve_1 : decode cX0_solve 1 = .ok (.aload_n 0, 1) := by decide +kernel
theorem dX0_solve_2 : decode cX0_solve 2 = .ok (.getfield 9, 3) := by decide +kernel
theorem dX0_solve_5 : decode cX0_solve 5 = .ok (.iconst 0, 1) := by decide +kernel
theorem dX0_solve_6 : decode cX0_solve 6 = .ok (.iconst 0, 1) := by decide +kernel
theorem dX0_solve_7 : decode cX0_solve 7 = .ok (.invokestatic 22, 3) := by decide +kernel
theorem dX0_solve_10 : decode cX0_solve 10 = .ok (.putfield 18, 3) := by decide +kernel
theorem dX0_solve_13 : decode cX0_solve 13 = .ok (.iconst 0, 1) := by decide +kernel
theorem dX0_solve_14 : decode cX0_solve 14 = .ok (.istore_n 1, 1) := by decide +kernel
theorem dX0_solve_15 : decode cX0_solve 15 = .ok (.iconst 0, 1) := by decide +kernel
theorem dX0_solve_16 : decode cX0_solve 16 = .ok (.istore_n 2, 1) := by decide +kernel
theorem dX0_solve_17 : decode cX0_solve 17 = .ok (.iload_n 2, 1) := by decide +kernel
theorem dX0_solve_18 : decode cX0_solve 18 = .ok (.iconst 4, 1) := by decide +kernel
theorem dX0_solve_19 : decode cX0_solve 19 = .ok (.if_icmp .ge 42, 3) := by decide +kernel
theorem dX0_solve_22 : decode cX0_solve 22 = .ok (.aload_n 0, 1) := by decide +kernel
theorem dX0_solve_23 : decode cX0_solve 23 = .ok (.getfield 15, 3) := by decide +kernel
theorem dX0_solve_26 : decode cX0_solve 26 = .ok (.iload_n 2, 1) := by decide +kernel
theorem dX0_solve_27 : decode cX0_solve 27 = .ok (.aload_n 0, 1) := by decide +kernel
theorem dX0_solve_28 : decode cX0_solve 28 = .ok (.iload_n 2, 1) := by decide +kernel
theorem dX0_solve_29 : decode cX0_solve 29 = .ok (.iload_n 1, 1) := by decide +kernel
theorem dX0_solve_30 : decode cX0_solve 30 = .ok (.invokevirtual 26, 3) := by decide +kernel
theorem dX0_solve_33 : decode cX0_solve 33 = .ok (.iastore, 1) := by decide +kernel
theorem dX0_solve_34 : decode cX0_solve 34 = .ok (.aload_n 0, 1) := by decide +kernel
theorem dX0_solve_35 : decode cX0_solve 35 = .ok (.getfield 15, 3) := by decide +kernel
theorem dX0_solve_38 : decode cX0_solve 38 = .ok (.iload_n 2, 1) := by decide +kernel
theorem dX0_solve_39 : decode cX0_solve 39 = .ok (.iaload, 1) := by decide +kernel
theorem dX0_solve_40 : decode cX0_solve 40 = .ok (.iconst (-1), 1) := by decide +kernel
theorem dX0_solve_41 : decode cX0_solve 41 = .ok (.if_icmp .eq 14, 3) := by decide +kernel
theorem dX0_solve_44 : decode cX0_solve 44 = .ok (.iload_n 1, 1) := by decide +kernel
theorem dX0_solve_45 : decode cX0_solve 45 = .ok (.iconst 1, 1) := by decide +kernel
theorem dX0_solve_46 : decode cX0_solve 46 = .ok (.aload_n 0, 1) := by decide +kernel
theorem dX0_solve_47 : decode cX0_solve 47 = .ok (.getfield 15, 3) := by decide +kernel
theorem dX0_solve_50 : decode cX0_solve 50 = .ok (.iload_n 2, 1) := by decide +kernel
theorem dX0_solve_51 : decode cX0_solve 51 = .ok (.iaload, 1) := by decide +kernel
theorem dX0_solve_52 : decode cX0_solve 52 = .ok (.ishl, 1) := by decide +kernel
theorem dX0_solve_53 : decode cX0_solve 53 = .ok (.ior, 1) := by decide +kernel
theorem dX0_solve_54 : decode cX0_solve 54 = .ok (.istore_n 1, 1) := by decide +kernel
theorem dX0_solve_55 : decode cX0_solve 55 = .ok (.iinc 2 1, 3) := by decide +kernel
theorem dX0_solve_58 : decode cX0_solve 58 = .ok (.goto (-41), 3) := by decide +kernel
theorem dX0_solve_61 : decode cX0_solve 61 = .ok (.return_, 1) := by decide +kernel
theorem dX0_firstBestPick_0 : decode cX0_firstBestPick 0 = .ok (.aload_n 0, 1) := by decide +kernel
theorem dX0_firstBestPick_1 : decode cX0_firstBestPick 1 = .ok (.getfield 9, 3) := by decide +kernel
theorem dX0_firstBestPick_4 : decode cX0_firstBestPick 4 = .ok (.iload_n 1, 1) := by decide +kernel
theorem dX0_firstBestPick_5 : decode cX0_firstBestPick 5 = .ok (.iload_n 2, 1) := by decide +kernel
theorem dX0_firstBestPick_6 : decode cX0_firstBestPick 6 = .ok (.invokestatic 22, 3) := by decide +kernel
theorem dX0_firstBestPick_9 : decode cX0_firstBestPick 9 = .ok (.istore_n 3, 1) := by decide +kernel
theorem dX0_firstBestPick_10 : decode cX0_firstBestPick 10 = .ok (.aload_n 0, 1) := by decide +kernel
theorem dX0_firstBestPick_11 : decode cX0_firstBestPick 11 = .ok (.getfield 9, 3) := by decide +kernel
theorem dX0_firstBestPick_14 : decode cX0_firstBestPick 14 = .ok (.iload_n 1, 1) := by decide +kernel
theorem dX0_firstBestPick_15 : decode cX0_firstBestPick 15 = .ok (.iconst 1, 1) := by decide +kernel
theorem dX0_firstBestPick_16 : decode cX0_firstBestPick 16 = .ok (.iadd, 1) := by decide +kernel
theorem dX0_firstBestPick_17 : decode cX0_firstBestPick 17 = .ok (.iload_n 2, 1) := by decide +kernel
theorem dX0_firstBestPick_18 : decode cX0_firstBestPick 18 = .ok (.invokestatic 22, 3) := by decide +kernel
theorem dX0_firstBestPick_21 : decode cX0_firstBestPick 21 = .ok (.iload_n 3, 1) := by decide +kernel
theorem dX0_firstBestPick_22 : decode cX0_firstBestPick 22 = .ok (.if_icmp .ne 5, 3) := by decide +kernel
theorem dX0_firstBestPick_25 : decode cX0_firstBestPick 25 = .ok (.iconst (-1), 1) := by decide +kernel
theorem dX0_firstBestPick_26 : decode cX0_firstBestPick 26 = .ok (.ireturn, 1) := by decide +kernel
theorem dX0_firstBestPick_27 : decode cX0_firstBestPick 27 = .ok (.aload_n 0, 1) := by decide +kernel
theorem dX0_firstBestPick_28 : decode cX0_firstBestPick 28 = .ok (.getfield 9, 3) := by decide +kernel
theorem dX0_firstBestPick_31 : decode cX0_firstBestPick 31 = .ok (.iload_n 1, 1) := by decide +kernel
theorem dX0_firstBestPick_32 : decode cX0_firstBestPick 32 = .ok (.iaload, 1) := by decide +kernel
theorem dX0_firstBestPick_33 : decode cX0_firstBestPick 33 = .ok (.iload_n 2, 1) := by decide +kernel
theorem dX0_firstBestPick_34 : decode cX0_firstBestPick 34 = .ok (.iconst (-1), 1) := by decide +kernel
theorem dX0_firstBestPick_35 : decode cX0_firstBestPick 35 = .ok (.ixor, 1) := by decide +kernel
theorem dX0_firstBestPick_36 : decode cX0_firstBestPick 36 = .ok (.iand, 1) := by decide +kernel
theorem dX0_firstBestPick_37 : decode cX0_firstBestPick 37 = .ok (.istore 4, 2) := by decide +kernel
theorem dX0_firstBestPick_39 : decode cX0_firstBestPick 39 = .ok (.iconst 0, 1) := by decide +kernel
theorem dX0_firstBestPick_40 : decode cX0_firstBestPick 40 = .ok (.istore 5, 2) := by decide +kernel
theorem dX0_firstBestPick_42 : decode cX0_firstBestPick 42 = .ok (.iload 5, 2) := by decide +kernel
theorem dX0_firstBestPick_44 : decode cX0_firstBestPick 44 = .ok (.bipush 8, 2) := by decide +kernel
theorem dX0_firstBestPick_46 : decode cX0_firstBestPick 46 = .ok (.if_icmp .ge 44, 3) := by decide +kernel
theorem dX0_firstBestPick_49 : decode cX0_firstBestPick 49 = .ok (.iload 4, 2) := by decide +kernel
theorem dX0_firstBestPick_51 : decode cX0_firstBestPick 51 = .ok (.iload 5, 2) := by decide +kernel
theorem dX0_firstBestPick_53 : decode cX0_firstBestPick 53 = .ok (.invokestatic 30, 3) := by decide +kernel
theorem dX0_firstBestPick_56 : decode cX0_firstBestPick 56 = .ok (.ifCond .eq 28, 3) := by decide +kernel
theorem dX0_firstBestPick_59 : decode cX0_firstBestPick 59 = .ok (.iconst 1, 1) := by decide +kernel
theorem dX0_firstBestPick_60 : decode cX0_firstBestPick 60 = .ok (.aload_n 0, 1) := by decide +kernel
theorem dX0_firstBestPick_61 : decode cX0_firstBestPick 61 = .ok (.getfield 9, 3) := by decide +kernel
theorem dX0_firstBestPick_64 : decode cX0_firstBestPick 64 = .ok (.iload_n 1, 1) := by decide +kernel
theorem dX0_firstBestPick_65 : decode cX0_firstBestPick 65 = .ok (.iconst 1, 1) := by decide +kernel
theorem dX0_firstBestPick_66 : decode cX0_firstBestPick 66 = .ok (.iadd, 1) := by decide +kernel
theorem dX0_firstBestPick_67 : decode cX0_firstBestPick 67 = .ok (.iload_n 2, 1) := by decide +kernel
theorem dX0_firstBestPick_68 : decode cX0_firstBestPick 68 = .ok (.iconst 1, 1) := by decide +kernel
theorem dX0_firstBestPick_69 : decode cX0_firstBestPick 69 = .ok (.iload 5, 2) := by decide +kernel
theorem dX0_firstBestPick_71 : decode cX0_firstBestPick 71 = .ok (.ishl, 1) := by decide +kernel
theorem dX0_firstBestPick_72 : decode cX0_firstBestPick 72 = .ok (.ior, 1) := by decide +kernel
theorem dX0_firstBestPick_73 : decode cX0_firstBestPick 73 = .ok (.invokestatic 22, 3) := by decide +kernel
theorem dX0_firstBestPick_76 : decode cX0_firstBestPick 76 = .ok (.iadd, 1) := by decide +kernel
theorem dX0_firstBestPick_77 : decode cX0_firstBestPick 77 = .ok (.iload_n 3, 1) := by decide +kernel
theorem dX0_firstBestPick_78 : decode cX0_firstBestPick 78 = .ok (.if_icmp .ne 6, 3) := by decide +kernel
theorem dX0_firstBestPick_81 : decode cX0_firstBestPick 81 = .ok (.iload 5, 2) := by decide +kernel
theorem dX0_firstBestPick_83 : decode cX0_firstBestPick 83 = .ok (.ireturn, 1) := by decide +kernel
theorem dX0_firstBestPick_84 : decode cX0_firstBestPick 84 = .ok (.iinc 5 1, 3) := by decide +kernel
theorem dX0_firstBestPick_87 : decode cX0_firstBestPick 87 = .ok (.goto (-45), 3) := by decide +kernel
theorem dX0_firstBestPick_90 : decode cX0_firstBestPick 90 = .ok (.iconst (-1), 1) := by decide +kernel
theorem dX0_firstBestPick_91 : decode cX0_firstBestPick 91 = .ok (.ireturn, 1) := by decide +kernel
theorem dX0_mostFrom_0 : decode cX0_mostFrom 0 = .ok (.iload_n 1, 1) := by decide +kernel
theorem dX0_mostFrom_1 : decode cX0_mostFrom 1 = .ok (.ifCond .lt 9, 3) := by decide +kernel
theorem dX0_mostFrom_4 : decode cX0_mostFrom 4 = .ok (.iload_n 1, 1) := by decide +kernel
theorem dX0_mostFrom_5 : decode cX0_mostFrom 5 = .ok (.aload_n 0, 1) := by decide +kernel
theorem dX0_mostFrom_6 : decode cX0_mostFrom 6 = .ok (.arraylength, 1) := by decide +kernel
theorem dX0_mostFrom_7 : decode cX0_mostFrom 7 = .ok (.if_icmp .lt 5, 3) := by decide +kernel
theorem dX0_mostFrom_10 : decode cX0_mostFrom 10 = .ok (.iconst 0, 1) := by decide +kernel
theorem dX0_mostFrom_11 : decode cX0_mostFrom 11 = .ok (.ireturn, 1) := by decide +kernel
theorem dX0_mostFrom_12 : decode cX0_mostFrom 12 = .ok (.aload_n 0, 1) := by decide +kernel
theorem dX0_mostFrom_13 : decode cX0_mostFrom 13 = .ok (.iload_n 1, 1) := by decide +kernel
theorem dX0_mostFrom_14 : decode cX0_mostFrom 14 = .ok (.iconst 1, 1) := by decide +kernel
theorem dX0_mostFrom_15 : decode cX0_mostFrom 15 = .ok (.iadd, 1) := by decide +kernel
theorem dX0_mostFrom_16 : decode cX0_mostFrom 16 = .ok (.iload_n 2, 1) := by decide +kernel
theorem dX0_mostFrom_17 : decode cX0_mostFrom 17 = .ok (.invokestatic 22, 3) := by decide +kernel
theorem dX0_mostFrom_20 : decode cX0_mostFrom 20 = .ok (.istore_n 3, 1) := by decide +kernel
theorem dX0_mostFrom_21 : decode cX0_mostFrom 21 = .ok (.aload_n 0, 1) := by decide +kernel
theorem dX0_mostFrom_22 : decode cX0_mostFrom 22 = .ok (.iload_n 1, 1) := by decide +kernel
theorem dX0_mostFrom_23 : decode cX0_mostFrom 23 = .ok (.iaload, 1) := by decide +kernel
theorem dX0_mostFrom_24 : decode cX0_mostFrom 24 = .ok (.iload_n 2, 1) := by decide +kernel
theorem dX0_mostFrom_25 : decode cX0_mostFrom 25 = .ok (.iconst (-1), 1) := by decide +kernel
theorem dX0_mostFrom_26 : decode cX0_mostFrom 26 = .ok (.ixor, 1) := by decide +kernel
theorem dX0_mostFrom_27 : decode cX0_mostFrom 27 = .ok (.iand, 1) := by decide +kernel
theorem dX0_mostFrom_28 : decode cX0_mostFrom 28 = .ok (.istore 4, 2) := by decide +kernel
theorem dX0_mostFrom_30 : decode cX0_mostFrom 30 = .ok (.iconst 0, 1) := by decide +kernel
theorem dX0_mostFrom_31 : decode cX0_mostFrom 31 = .ok (.istore 5, 2) := by decide +kernel
theorem dX0_mostFrom_33 : decode cX0_mostFrom 33 = .ok (.iload 5, 2) := by decide +kernel
theorem dX0_mostFrom_35 : decode cX0_mostFrom 35 = .ok (.bipush 8, 2) := by decide +kernel
theorem dX0_mostFrom_37 : decode cX0_mostFrom 37 = .ok (.if_icmp .ge 39, 3) := by decide +kernel
theorem dX0_mostFrom_40 : decode cX0_mostFrom 40 = .ok (.iload 4, 2) := by decide +kernel
theorem dX0_mostFrom_42 : decode cX0_mostFrom 42 = .ok (.iload 5, 2) := by decide +kernel
theorem dX0_mostFrom_44 : decode cX0_mostFrom 44 = .ok (.invokestatic 30, 3) := by decide +kernel
theorem dX0_mostFrom_47 : decode cX0_mostFrom 47 = .ok (.ifCond .eq 23, 3) := by decide +kernel
theorem dX0_mostFrom_50 : decode cX0_mostFrom 50 = .ok (.iload_n 3, 1) := by decide +kernel
theorem dX0_mostFrom_51 : decode cX0_mostFrom 51 = .ok (.iconst 1, 1) := by decide +kernel
theorem dX0_mostFrom_52 : decode cX0_mostFrom 52 = .ok (.aload_n 0, 1) := by decide +kernel
theorem dX0_mostFrom_53 : decode cX0_mostFrom 53 = .ok (.iload_n 1, 1) := by decide +kernel
theorem dX0_mostFrom_54 : decode cX0_mostFrom 54 = .ok (.iconst 1, 1) := by decide +kernel
theorem dX0_mostFrom_55 : decode cX0_mostFrom 55 = .ok (.iadd, 1) := by decide +kernel
theorem dX0_mostFrom_56 : decode cX0_mostFrom 56 = .ok (.iload_n 2, 1) := by decide +kernel
theorem dX0_mostFrom_57 : decode cX0_mostFrom 57 = .ok (.iconst 1, 1) := by decide +kernel
theorem dX0_mostFrom_58 : decode cX0_mostFrom 58 = .ok (.iload 5, 2) := by decide +kernel
theorem dX0_mostFrom_60 : decode cX0_mostFrom 60 = .ok (.ishl, 1) := by decide +kernel
theorem dX0_mostFrom_61 : decode cX0_mostFrom 61 = .ok (.ior, 1) := by decide +kernel
theorem dX0_mostFrom_62 : decode cX0_mostFrom 62 = .ok (.invokestatic 22, 3) := by decide +kernel
theorem dX0_mostFrom_65 : decode cX0_mostFrom 65 = .ok (.iadd, 1) := by decide +kernel
theorem dX0_mostFrom_66 : decode cX0_mostFrom 66 = .ok (.invokestatic 34, 3) := by decide +kernel
theorem dX0_mostFrom_69 : decode cX0_mostFrom 69 = .ok (.istore_n 3, 1) := by decide +kernel
theorem dX0_mostFrom_70 : decode cX0_mostFrom 70 = .ok (.iinc 5 1, 3) := by decide +kernel
theorem dX0_mostFrom_73 : decode cX0_mostFrom 73 = .ok (.goto (-40), 3) := by decide +kernel
theorem dX0_mostFrom_76 : decode cX0_mostFrom 76 = .ok (.iload_n 3, 1) := by decide +kernel
theorem dX0_mostFrom_77 : decode cX0_mostFrom 77 = .ok (.ireturn, 1) := by decide +kernel
theorem dX1_init_0 : decode cX1_init 0 = .ok (.aload_n 0, 1) := by decide +kernel
theorem dX1_init_1 : decode cX1_init 1 = .ok (.invokespecial 3, 3) := by decide +kernel
theorem dX1_init_4 : decode cX1_init 4 = .ok (.aload_n 0, 1) := by decide +kernel
theorem dX1_init_5 : decode cX1_init 5 = .ok (.bipush 30, 2) := by decide +kernel
theorem dX1_init_7 : decode cX1_init 7 = .ok (.newarray .int, 2) := by decide +kernel
theorem dX1_init_9 : decode cX1_init 9 = .ok (.putfield 9, 3) := by decide +kernel
theorem dX1_init_12 : decode cX1_init 12 = .ok (.aload_n 0, 1) := by decide +kernel
theorem dX1_init_13 : decode cX1_init 13 = .ok (.iconst 0, 1) := by decide +kernel
theorem dX1_init_14 : decode cX1_init 14 = .ok (.putfield 15, 3) := by decide +kernel
theorem dX1_init_17 : decode cX1_init 17 = .ok (.return_, 1) := by decide +kernel
theorem dX1_add_0 : decode cX1_add 0 = .ok (.aload_n 0, 1) := by decide +kernel
theorem dX1_add_1 : decode cX1_add 1 = .ok (.getfield 15, 3) := by decide +kernel
theorem dX1_add_4 : decode cX1_add 4 = .ok (.bipush 30, 2) := by decide +kernel
theorem dX1_add_6 : decode cX1_add 6 = .ok (.if_icmp .ge 23, 3) := by decide +kernel
theorem dX1_add_9 : decode cX1_add 9 = .ok (.aload_n 0, 1) := by decide +kernel
theorem dX1_add_10 : decode cX1_add 10 = .ok (.getfield 9, 3) := by decide +kernel
theorem dX1_add_13 : decode cX1_add 13 = .ok (.aload_n 0, 1) := by decide +kernel
theorem dX1_add_14 : decode cX1_add 14 = .ok (.getfield 15, 3) := by decide +kernel
theorem dX1_add_17 : decode cX1_add 17 = .ok (.iload_n 1, 1) := by decide +kernel
theorem dX1_add_18 : decode cX1_add 18 = .ok (.iastore, 1) := by decide +kernel
theorem dX1_add_19 : decode cX1_add 19 = .ok (.aload_n 0, 1) := by decide +kernel
theorem dX1_add_20 : decode cX1_add 20 = .ok (.dup, 1) := by decide +kernel
theorem dX1_add_21 : decode cX1_add 21 = .ok (.getfield 15, 3) := by decide +kernel
theorem dX1_add_24 : decode cX1_add 24 = .ok (.iconst 1, 1) := by decide +kernel
theorem dX1_add_25 : decode cX1_add 25 = .ok (.iadd, 1) := by decide +kernel
theorem dX1_add_26 : decode cX1_add 26 = .ok (.putfield 15, 3) := by decide +kernel
theorem dX1_add_29 : decode cX1_add 29 = .ok (.return_, 1) := by decide +kernel
theorem dX2_init_0 : decode cX2_init 0 = .ok (.aload_n 0, 1) := by decide +kernel
theorem dX2_init_1 : decode cX2_init 1 = .ok (.invokespecial 3, 3) := by decide +kernel
theorem dX2_init_4 : decode cX2_init 4 = .ok (.aload_n 0, 1) := by decide +kernel
theorem dX2_init_5 : decode cX2_init 5 = .ok (.new 9, 3) := by decide +kernel
theorem dX2_init_8 : decode cX2_init 8 = .ok (.dup, 1) := by decide +kernel
theorem dX2_init_9 : decode cX2_init 9 = .ok (.invokespecial 11, 3) := by decide +kernel
theorem dX2_init_12 : decode cX2_init 12 = .ok (.putfield 12, 3) := by decide +kernel
theorem dX2_init_15 : decode cX2_init 15 = .ok (.aload_n 0, 1) := by decide +kernel
theorem dX2_init_16 : decode cX2_init 16 = .ok (.iconst 0, 1) := by decide +kernel
theorem dX2_init_17 : decode cX2_init 17 = .ok (.putfield 18, 3) := by decide +kernel
theorem dX2_init_20 : decode cX2_init 20 = .ok (.aload_n 0, 1) := by decide +kernel
theorem dX2_init_21 : decode cX2_init 21 = .ok (.iconst 0, 1) := by decide +kernel
theorem dX2_init_22 : decode cX2_init 22 = .ok (.putfield 22, 3) := by decide +kernel
theorem dX2_init_25 : decode cX2_init 25 = .ok (.aload_n 0, 1) := by decide +kernel
theorem dX2_init_26 : decode cX2_init 26 = .ok (.iconst 0, 1) := by decide +kernel
theorem dX2_init_27 : decode cX2_init 27 = .ok (.putfield 25, 3) := by decide +kernel
theorem dX2_init_30 : decode cX2_init 30 = .ok (.return_, 1) := by decide +kernel
theorem dX2_read_0 : decode cX2_read 0 = .ok (.aload_n 0, 1) := by decide +kernel
theorem dX2_read_1 : decode cX2_read 1 = .ok (.getfield 12, 3) := by decide +kernel
theorem dX2_read_4 : decode cX2_read 4 = .ok (.invokevirtual 28, 3) := by decide +kernel
theorem dX2_read_7 : decode cX2_read 7 = .ok (.aload_n 0, 1) := by decide +kernel
theorem dX2_read_8 : decode cX2_read 8 = .ok (.iconst 0, 1) := by decide +kernel
theorem dX2_read_9 : decode cX2_read 9 = .ok (.putfield 18, 3) := by decide +kernel
theorem dX2_read_12 : decode cX2_read 12 = .ok (.aload_n 0, 1) := by decide +kernel
theorem dX2_read_13 : decode cX2_read 13 = .ok (.invokevirtual 31, 3) := by decide +kernel
theorem dX2_read_16 : decode cX2_read 16 = .ok (.iconst 0, 1) := by decide +kernel
theorem dX2_read_17 : decode cX2_read 17 = .ok (.istore_n 2, 1) := by decide +kernel
theorem dX2_read_18 : decode cX2_read 18 = .ok (.iload_n 2, 1) := by decide +kernel
theorem dX2_read_19 : decode cX2_read 19 = .ok (.aload_n 1, 1) := by decide +kernel
theorem dX2_read_20 : decode cX2_read 20 = .ok (.getfield 34, 3) := by decide +kernel
theorem dX2_read_23 : decode cX2_read 23 = .ok (.if_icmp .ge 24, 3) := by decide +kernel
theorem dX2_read_26 : decode cX2_read 26 = .ok (.aload_n 0, 1) := by decide +kernel
theorem dX2_read_27 : decode cX2_read 27 = .ok (.aload_n 1, 1) := by decide +kernel
theorem dX2_read_28 : decode cX2_read 28 = .ok (.getfield 39, 3) := by decide +kernel
theorem dX2_read_31 : decode cX2_read 31 = .ok (.iload_n 2, 1) := by decide +kernel
theorem dX2_read_32 : decode cX2_read 32 = .ok (.iaload, 1) := by decide +kernel
theorem dX2_read_33 : decode cX2_read 33 = .ok (.invokevirtual 43, 3) := by decide +kernel
theorem dX2_read_36 : decode cX2_read 36 = .ok (.ifCond .ne 5, 3) := by decide +kernel
theorem dX2_read_39 : decode cX2_read 39 = .ok (.iload_n 2, 1) := by decide +kernel
theorem dX2_read_40 : decode cX2_read 40 = .ok (.ireturn, 1) := by decide +kernel
theorem dX2_read_41 : decode cX2_read 41 = .ok (.iinc 2 1, 3) := by decide +kernel
theorem dX2_read_44 : decode cX2_read 44 = .ok (.goto (-26), 3) := by decide +kernel
theorem dX2_read_47 : decode cX2_read 47 = .ok (.aload_n 1, 1) := by decide +kernel
theorem dX2_read_48 : decode cX2_read 48 = .ok (.getfield 34, 3) := by decide +kernel
theorem dX2_read_51 : decode cX2_read 51 = .ok (.ireturn, 1) := by decide +kernel
theorem dX2_hasWholeRoom_0 : decode cX2_hasWholeRoom 0 = .ok (.aload_n 0, 1) := by decide +kernel
theorem dX2_hasWholeRoom_1 : decode cX2_hasWholeRoom 1 = .ok (.getfield 12, 3) := by decide +kernel
theorem dX2_hasWholeRoom_4 : decode cX2_hasWholeRoom 4 = .ok (.getfield 47, 3) := by decide +kernel
theorem dX2_hasWholeRoom_7 : decode cX2_hasWholeRoom 7 = .ok (.iconst 2, 1) := by decide +kernel
theorem dX2_hasWholeRoom_8 : decode cX2_hasWholeRoom 8 = .ok (.if_icmp .lt 15, 3) := by decide +kernel
theorem dX2_hasWholeRoom_11 : decode cX2_hasWholeRoom 11 = .ok (.aload_n 0, 1) := by decide +kernel
theorem dX2_hasWholeRoom_12 : decode cX2_hasWholeRoom 12 = .ok (.getfield 22, 3) := by decide +kernel
theorem dX2_hasWholeRoom_15 : decode cX2_hasWholeRoom 15 = .ok (.iconst 2, 1) := by decide +kernel
theorem dX2_hasWholeRoom_16 : decode cX2_hasWholeRoom 16 = .ok (.if_icmp .ne 7, 3) := by decide +kernel
theorem dX2_hasWholeRoom_19 : decode cX2_hasWholeRoom 19 = .ok (.iconst 1, 1) := by decide +kernel
theorem dX2_hasWholeRoom_20 : decode cX2_hasWholeRoom 20 = .ok (.goto 4, 3) := by decide +kernel
theorem dX2_hasWholeRoom_23 : decode cX2_hasWholeRoom 23 = .ok (.iconst 0, 1) := by decide +kernel
theorem dX2_hasWholeRoom_24 : decode cX2_hasWholeRoom 24 = .ok (.ireturn, 1) := by decide +kernel
theorem dX2_takes_0 : decode cX2_takes 0 = .ok (.aload_n 0, 1) := by decide +kernel
theorem dX2_takes_1 : decode cX2_takes 1 = .ok (.getfield 18, 3) := by decide +kernel
theorem dX2_takes_4 : decode cX2_takes 4 = .ok (.iconst 4, 1) := by decide +kernel
theorem dX2_takes_5 : decode cX2_takes 5 = .ok (.if_icmp .ge 11, 3) := by decide +kernel
theorem dX2_takes_8 : decode cX2_takes 8 = .ok (.aload_n 0, 1) := by decide +kernel
theorem dX2_takes_9 : decode cX2_takes 9 = .ok (.iload_n 1, 1) := by decide +kernel
theorem dX2_takes_10 : decode cX2_takes 10 = .ok (.invokevirtual 50, 3) := by decide +kernel
theorem dX2_takes_13 : decode cX2_takes 13 = .ok (.goto 8, 3) := by decide +kernel
theorem dX2_takes_16 : decode cX2_takes 16 = .ok (.aload_n 0, 1) := by decide +kernel
theorem dX2_takes_17 : decode cX2_takes 17 = .ok (.iload_n 1, 1) := by decide +kernel
theorem dX2_takes_18 : decode cX2_takes 18 = .ok (.invokevirtual 53, 3) := by decide +kernel
theorem dX2_takes_21 : decode cX2_takes 21 = .ok (.ireturn, 1) := by decide +kernel
theorem dX2_takesInOpening_0 : decode cX2_takesInOpening 0 = .ok (.aload_n 0, 1) := by decide +kernel
theorem dX2_takesInOpening_1 : decode cX2_takesInOpening 1 = .ok (.getfield 18, 3) := by decide +kernel
theorem dX2_takesInOpening_4 : decode cX2_takesInOpening 4 = .ok (.iconst 3, 1) := by decide +kernel
theorem dX2_takesInOpening_5 : decode cX2_takesInOpening 5 = .ok (.if_icmp .ge 8, 3) := by decide +kernel
theorem dX2_takesInOpening_8 : decode cX2_takesInOpening 8 = .ok (.bipush 44, 2) := by decide +kernel
theorem dX2_takesInOpening_10 : decode cX2_takesInOpening 10 = .ok (.goto 5, 3) := by decide +kernel
theorem dX2_takesInOpening_13 : decode cX2_takesInOpening 13 = .ok (.bipush 59, 2) := by decide +kernel
theorem dX2_takesInOpening_15 : decode cX2_takesInOpening 15 = .ok (.istore_n 2, 1) := by decide +kernel
theorem dX2_takesInOpening_16 : decode cX2_takesInOpening 16 = .ok (.aload_n 0, 1) := by decide +kernel
theorem dX2_takesInOpening_17 : decode cX2_takesInOpening 17 = .ok (.getfield 22, 3) := by decide +kernel
theorem dX2_takesInOpening_20 : decode cX2_takesInOpening 20 = .ok (.ifCond .le 24, 3) := by decide +kernel
theorem dX2_takesInOpening_23 : decode cX2_takesInOpening 23 = .ok (.iload_n 1, 1) := by decide +kernel
theorem dX2_takesInOpening_24 : decode cX2_takesInOpening 24 = .ok (.iload_n 2, 1) := by decide +kernel
theorem dX2_takesInOpening_25 : decode cX2_takesInOpening 25 = .ok (.if_icmp .ne 19, 3) := by decide +kernel
theorem dX2_takesInOpening_28 : decode cX2_takesInOpening 28 = .ok (.aload_n 0, 1) := by decide +kernel
theorem dX2_takesInOpening_29 : decode cX2_takesInOpening 29 = .ok (.dup, 1) := by decide +kernel
theorem dX2_takesInOpening_30 : decode cX2_takesInOpening 30 = .ok (.getfield 18, 3) := by decide +kernel
theorem dX2_takesInOpening_33 : decode cX2_takesInOpening 33 = .ok (.iconst 1, 1) := by decide +kernel
theorem dX2_takesInOpening_34 : decode cX2_takesInOpening 34 = .ok (.iadd, 1) := by decide +kernel
theorem dX2_takesInOpening_35 : decode cX2_takesInOpening 35 = .ok (.putfield 18, 3) := by decide +kernel
theorem dX2_takesInOpening_38 : decode cX2_takesInOpening 38 = .ok (.aload_n 0, 1) := by decide +kernel
theorem dX2_takesInOpening_39 : decode cX2_takesInOpening 39 = .ok (.invokevirtual 31, 3) := by decide +kernel
theorem dX2_takesInOpening_42 : decode cX2_takesInOpening 42 = .ok (.iconst 1, 1) := by decide +kernel
theorem dX2_takesInOpening_43 : decode cX2_takesInOpening 43 = .ok (.ireturn, 1) := by decide +kernel
theorem dX2_takesInOpening_44 : decode cX2_takesInOpening 44 = .ok (.aload_n 0, 1) := by decide +kernel
theorem dX2_takesInOpening_45 : decode cX2_takesInOpening 45 = .ok (.getfield 22, 3) := by decide +kernel
theorem dX2_takesInOpening_48 : decode cX2_takesInOpening 48 = .ok (.iconst 3, 1) := by decide +kernel
theorem dX2_takesInOpening_49 : decode cX2_takesInOpening 49 = .ok (.if_icmp .ge 21, 3) := by decide +kernel
theorem dX2_takesInOpening_52 : decode cX2_takesInOpening 52 = .ok (.iload_n 1, 1) := by decide +kernel
theorem dX2_takesInOpening_53 : decode cX2_takesInOpening 53 = .ok (.bipush 97, 2) := by decide +kernel
theorem dX2_takesInOpening_55 : decode cX2_takesInOpening 55 = .ok (.isub, 1) := by decide +kernel
theorem dX2_takesInOpening_56 : decode cX2_takesInOpening 56 = .ok (.invokestatic 56, 3) := by decide +kernel
theorem dX2_takesInOpening_59 : decode cX2_takesInOpening 59 = .ok (.ifCond .eq 11, 3) := by decide +kernel
theorem dX2_takesInOpening_62 : decode cX2_takesInOpening 62 = .ok (.iload_n 1, 1) := by decide +kernel
theorem dX2_takesInOpening_63 : decode cX2_takesInOpening 63 = .ok (.aload_n 0, 1) := by decide +kernel
theorem dX2_takesInOpening_64 : decode cX2_takesInOpening 64 = .ok (.getfield 25, 3) := by decide +kernel
theorem dX2_takesInOpening_67 : decode cX2_takesInOpening 67 = .ok (.if_icmp .gt 5, 3) := by decide +kernel
theorem dX2_takesInOpening_70 : decode cX2_takesInOpening 70 = .ok (.iconst 0, 1) := by decide +kernel
theorem dX2_takesInOpening_71 : decode cX2_takesInOpening 71 = .ok (.ireturn, 1) := by decide +kernel
theorem dX2_takesInOpening_72 : decode cX2_takesInOpening 72 = .ok (.aload_n 0, 1) := by decide +kernel
theorem dX2_takesInOpening_73 : decode cX2_takesInOpening 73 = .ok (.getfield 12, 3) := by decide +kernel
theorem dX2_takesInOpening_76 : decode cX2_takesInOpening 76 = .ok (.getfield 59, 3) := by decide +kernel
theorem dX2_takesInOpening_79 : decode cX2_takesInOpening 79 = .ok (.aload_n 0, 1) := by decide +kernel
theorem dX2_takesInOpening_80 : decode cX2_takesInOpening 80 = .ok (.getfield 18, 3) := by decide +kernel
theorem dX2_takesInOpening_83 : decode cX2_takesInOpening 83 = .ok (.dup2, 1) := by decide +kernel
theorem dX2_takesInOpening_84 : decode cX2_takesInOpening 84 = .ok (.iaload, 1) := by decide +kernel
theorem dX2_takesInOpening_85 : decode cX2_takesInOpening 85 = .ok (.iconst 1, 1) := by decide +kernel
theorem dX2_takesInOpening_86 : decode cX2_takesInOpening 86 = .ok (.iload_n 1, 1) := by decide +kernel
theorem dX2_takesInOpening_87 : decode cX2_takesInOpening 87 = .ok (.bipush 97, 2) := by decide +kernel
theorem dX2_takesInOpening_89 : decode cX2_takesInOpening 89 = .ok (.isub, 1) := by decide +kernel
theorem dX2_takesInOpening_90 : decode cX2_takesInOpening 90 = .ok (.ishl, 1) := by decide +kernel
theorem dX2_takesInOpening_91 : decode cX2_takesInOpening 91 = .ok (.ior, 1) := by decide +kernel
theorem dX2_takesInOpening_92 : decode cX2_takesInOpening 92 = .ok (.iastore, 1) := by decide +kernel
theorem dX2_takesInOpening_93 : decode cX2_takesInOpening 93 = .ok (.aload_n 0, 1) := by decide +kernel
theorem dX2_takesInOpening_94 : decode cX2_takesInOpening 94 = .ok (.dup, 1) := by decide +kernel
theorem dX2_takesInOpening_95 : decode cX2_takesInOpening 95 = .ok (.getfield 22, 3) := by decide +kernel
theorem dX2_takesInOpening_98 : decode cX2_takesInOpening 98 = .ok (.iconst 1, 1) := by decide +kernel
theorem dX2_takesInOpening_99 : decode cX2_takesInOpening 99 = .ok (.iadd, 1) := by decide +kernel
theorem dX2_takesInOpening_100 : decode cX2_takesInOpening 100 = .ok (.putfield 22, 3) := by decide +kernel
theorem dX2_takesInOpening_103 : decode cX2_takesInOpening 103 = .ok (.aload_n 0, 1) := by decide +kernel
theorem dX2_takesInOpening_104 : decode cX2_takesInOpening 104 = .ok (.iload_n 1, 1) := by decide +kernel
theorem dX2_takesInOpening_105 : decode cX2_takesInOpening 105 = .ok (.putfield 25, 3) := by decide +kernel
theorem dX2_takesInOpening_108 : decode cX2_takesInOpening 108 = .ok (.iconst 1, 1) := by decide +kernel
theorem dX2_takesInOpening_109 : decode cX2_takesInOpening 109 = .ok (.ireturn, 1) := by decide +kernel
theorem dX2_takesInSpeaker_0 : decode cX2_takesInSpeaker 0 = .ok (.aload_n 0, 1) := by decide +kernel
theorem dX2_takesInSpeaker_1 : decode cX2_takesInSpeaker 1 = .ok (.getfield 22, 3) := by decide +kernel
theorem dX2_takesInSpeaker_4 : decode cX2_takesInSpeaker 4 = .ok (.lookupswitch 49 #[(0, 28), (1, 40)], 28) := by decide +kernel
theorem dX2_takesInSpeaker_32 : decode cX2_takesInSpeaker 32 = .ok (.aload_n 0, 1) := by decide +kernel
theorem dX2_takesInSpeaker_33 : decode cX2_takesInSpeaker 33 = .ok (.ldc 62, 2) := by decide +kernel
theorem dX2_takesInSpeaker_35 : decode cX2_takesInSpeaker 35 = .ok (.iload_n 1, 1) := by decide +kernel
theorem dX2_takesInSpeaker_36 : decode cX2_takesInSpeaker 36 = .ok (.i2c, 1) := by decide +kernel
theorem dX2_takesInSpeaker_37 : decode cX2_takesInSpeaker 37 = .ok (.invokevirtual 64, 3) := by decide +kernel
theorem dX2_takesInSpeaker_40 : decode cX2_takesInSpeaker 40 = .ok (.invokevirtual 70, 3) := by decide +kernel
theorem dX2_takesInSpeaker_43 : decode cX2_takesInSpeaker 43 = .ok (.ireturn, 1) := by decide +kernel
theorem dX2_takesInSpeaker_44 : decode cX2_takesInSpeaker 44 = .ok (.aload_n 0, 1) := by decide +kernel
theorem dX2_takesInSpeaker_45 : decode cX2_takesInSpeaker 45 = .ok (.iload_n 1, 1) := by decide +kernel
theorem dX2_takesInSpeaker_46 : decode cX2_takesInSpeaker 46 = .ok (.bipush 97, 2) := by decide +kernel
theorem dX2_takesInSpeaker_48 : decode cX2_takesInSpeaker 48 = .ok (.isub, 1) := by decide +kernel
theorem dX2_takesInSpeaker_49 : decode cX2_takesInSpeaker 49 = .ok (.invokevirtual 73, 3) := by decide +kernel
theorem dX2_takesInSpeaker_52 : decode cX2_takesInSpeaker 52 = .ok (.ireturn, 1) := by decide +kernel
theorem dX2_takesInSpeaker_53 : decode cX2_takesInSpeaker 53 = .ok (.aload_n 0, 1) := by decide +kernel
theorem dX2_takesInSpeaker_54 : decode cX2_takesInSpeaker 54 = .ok (.iload_n 1, 1) := by decide +kernel
theorem dX2_takesInSpeaker_55 : decode cX2_takesInSpeaker 55 = .ok (.invokevirtual 76, 3) := by decide +kernel
theorem dX2_takesInSpeaker_58 : decode cX2_takesInSpeaker 58 = .ok (.ireturn, 1) := by decide +kernel
theorem dX2_takesKind_0 : decode cX2_takesKind 0 = .ok (.iload_n 1, 1) := by decide +kernel
theorem dX2_takesKind_1 : decode cX2_takesKind 1 = .ok (.ifCond .lt 14, 3) := by decide +kernel
theorem dX2_takesKind_4 : decode cX2_takesKind 4 = .ok (.aload_n 0, 1) := by decide +kernel
theorem dX2_takesKind_5 : decode cX2_takesKind 5 = .ok (.getfield 12, 3) := by decide +kernel
theorem dX2_takesKind_8 : decode cX2_takesKind 8 = .ok (.getfield 47, 3) := by decide +kernel
theorem dX2_takesKind_11 : decode cX2_takesKind 11 = .ok (.iconst 4, 1) := by decide +kernel
theorem dX2_takesKind_12 : decode cX2_takesKind 12 = .ok (.if_icmp .lt 5, 3) := by decide +kernel
theorem dX2_takesKind_15 : decode cX2_takesKind 15 = .ok (.iconst 0, 1) := by decide +kernel
theorem dX2_takesKind_16 : decode cX2_takesKind 16 = .ok (.ireturn, 1) := by decide +kernel
theorem dX2_takesKind_17 : decode cX2_takesKind 17 = .ok (.aload_n 0, 1) := by decide +kernel
theorem dX2_takesKind_18 : decode cX2_takesKind 18 = .ok (.getfield 12, 3) := by decide +kernel
theorem dX2_takesKind_21 : decode cX2_takesKind 21 = .ok (.getfield 79, 3) := by decide +kernel
theorem dX2_takesKind_24 : decode cX2_takesKind 24 = .ok (.aload_n 0, 1) := by decide +kernel
theorem dX2_takesKind_25 : decode cX2_takesKind 25 = .ok (.getfield 12, 3) := by decide +kernel
theorem dX2_takesKind_28 : decode cX2_takesKind 28 = .ok (.getfield 47, 3) := by decide +kernel
theorem dX2_takesKind_31 : decode cX2_takesKind 31 = .ok (.iload_n 1, 1) := by decide +kernel
theorem dX2_takesKind_32 : decode cX2_takesKind 32 = .ok (.iastore, 1) := by decide +kernel
theorem dX2_takesKind_33 : decode cX2_takesKind 33 = .ok (.aload_n 0, 1) := by decide +kernel
theorem dX2_takesKind_34 : decode cX2_takesKind 34 = .ok (.dup, 1) := by decide +kernel
theorem dX2_takesKind_35 : decode cX2_takesKind 35 = .ok (.getfield 22, 3) := by decide +kernel
theorem dX2_takesKind_38 : decode cX2_takesKind 38 = .ok (.iconst 1, 1) := by decide +kernel
theorem dX2_takesKind_39 : decode cX2_takesKind 39 = .ok (.iadd, 1) := by decide +kernel
theorem dX2_takesKind_40 : decode cX2_takesKind 40 = .ok (.putfield 22, 3) := by decide +kernel
theorem dX2_takesKind_43 : decode cX2_takesKind 43 = .ok (.iconst 1, 1) := by decide +kernel
theorem dX2_takesKind_44 : decode cX2_takesKind 44 = .ok (.ireturn, 1) := by decide +kernel
theorem dX2_takesWant_0 : decode cX2_takesWant 0 = .ok (.iload_n 1, 1) := by decide +kernel
theorem dX2_takesWant_1 : decode cX2_takesWant 1 = .ok (.invokestatic 56, 3) := by decide +kernel
theorem dX2_takesWant_4 : decode cX2_takesWant 4 = .ok (.ifCond .eq 14, 3) := by decide +kernel
theorem dX2_takesWant_7 : decode cX2_takesWant 7 = .ok (.aload_n 0, 1) := by decide +kernel
theorem dX2_takesWant_8 : decode cX2_takesWant 8 = .ok (.getfield 12, 3) := by decide +kernel
theorem dX2_takesWant_11 : decode cX2_takesWant 11 = .ok (.getfield 47, 3) := by decide +kernel
theorem dX2_takesWant_14 : decode cX2_takesWant 14 = .ok (.iconst 4, 1) := by decide +kernel
theorem dX2_takesWant_15 : decode cX2_takesWant 15 = .ok (.if_icmp .lt 5, 3) := by decide +kernel
theorem dX2_takesWant_18 : decode cX2_takesWant 18 = .ok (.iconst 0, 1) := by decide +kernel
theorem dX2_takesWant_19 : decode cX2_takesWant 19 = .ok (.ireturn, 1) := by decide +kernel
theorem dX2_takesWant_20 : decode cX2_takesWant 20 = .ok (.aload_n 0, 1) := by decide +kernel
theorem dX2_takesWant_21 : decode cX2_takesWant 21 = .ok (.getfield 12, 3) := by decide +kernel
theorem dX2_takesWant_24 : decode cX2_takesWant 24 = .ok (.getfield 82, 3) := by decide +kernel
theorem dX2_takesWant_27 : decode cX2_takesWant 27 = .ok (.aload_n 0, 1) := by decide +kernel
theorem dX2_takesWant_28 : decode cX2_takesWant 28 = .ok (.getfield 12, 3) := by decide +kernel
theorem dX2_takesWant_31 : decode cX2_takesWant 31 = .ok (.getfield 47, 3) := by decide +kernel
theorem dX2_takesWant_34 : decode cX2_takesWant 34 = .ok (.iload_n 1, 1) := by decide +kernel
theorem dX2_takesWant_35 : decode cX2_takesWant 35 = .ok (.iastore, 1) := by decide +kernel
theorem dX2_takesWant_36 : decode cX2_takesWant 36 = .ok (.aload_n 0, 1) := by decide +kernel
theorem dX2_takesWant_37 : decode cX2_takesWant 37 = .ok (.getfield 12, 3) := by decide +kernel
theorem dX2_takesWant_40 : decode cX2_takesWant 40 = .ok (.dup, 1) := by decide +kernel
theorem dX2_takesWant_41 : decode cX2_takesWant 41 = .ok (.getfield 47, 3) := by decide +kernel
theorem dX2_takesWant_44 : decode cX2_takesWant 44 = .ok (.iconst 1, 1) := by decide +kernel
theorem dX2_takesWant_45 : decode cX2_takesWant 45 = .ok (.iadd, 1) := by decide +kernel
theorem dX2_takesWant_46 : decode cX2_takesWant 46 = .ok (.putfield 47, 3) := by decide +kernel
theorem dX2_takesWant_49 : decode cX2_takesWant 49 = .ok (.aload_n 0, 1) := by decide +kernel
theorem dX2_takesWant_50 : decode cX2_takesWant 50 = .ok (.dup, 1) := by decide +kernel
theorem dX2_takesWant_51 : decode cX2_takesWant 51 = .ok (.getfield 22, 3) := by decide +kernel
theorem dX2_takesWant_54 : decode cX2_takesWant 54 = .ok (.iconst 1, 1) := by decide +kernel
theorem dX2_takesWant_55 : decode cX2_takesWant 55 = .ok (.iadd, 1) := by decide +kernel
theorem dX2_takesWant_56 : decode cX2_takesWant 56 = .ok (.putfield 22, 3) := by decide +kernel
theorem dX2_takesWant_59 : decode cX2_takesWant 59 = .ok (.iconst 1, 1) := by decide +kernel
theorem dX2_takesWant_60 : decode cX2_takesWant 60 = .ok (.ireturn, 1) := by decide +kernel
theorem dX2_takesNextSpeaker_0 : decode cX2_takesNextSpeaker 0 = .ok (.iload_n 1, 1) := by decide +kernel
theorem dX2_takesNextSpeaker_1 : decode cX2_takesNextSpeaker 1 = .ok (.bipush 44, 2) := by decide +kernel
theorem dX2_takesNextSpeaker_3 : decode cX2_takesNextSpeaker 3 = .ok (.if_icmp .ne 14, 3) := by decide +kernel
theorem dX2_takesNextSpeaker_6 : decode cX2_takesNextSpeaker 6 = .ok (.aload_n 0, 1) := by decide +kernel
theorem dX2_takesNextSpeaker_7 : decode cX2_takesNextSpeaker 7 = .ok (.getfield 12, 3) := by decide +kernel
theorem dX2_takesNextSpeaker_10 : decode cX2_takesNextSpeaker 10 = .ok (.getfield 47, 3) := by decide +kernel
theorem dX2_takesNextSpeaker_13 : decode cX2_takesNextSpeaker 13 = .ok (.iconst 4, 1) := by decide +kernel
theorem dX2_takesNextSpeaker_14 : decode cX2_takesNextSpeaker 14 = .ok (.if_icmp .lt 5, 3) := by decide +kernel
theorem dX2_takesNextSpeaker_17 : decode cX2_takesNextSpeaker 17 = .ok (.iconst 0, 1) := by decide +kernel
theorem dX2_takesNextSpeaker_18 : decode cX2_takesNextSpeaker 18 = .ok (.ireturn, 1) := by decide +kernel
theorem dX2_takesNextSpeaker_19 : decode cX2_takesNextSpeaker 19 = .ok (.aload_n 0, 1) := by decide +kernel
theorem dX2_takesNextSpeaker_20 : decode cX2_takesNextSpeaker 20 = .ok (.invokevirtual 31, 3) := by decide +kernel
theorem dX2_takesNextSpeaker_23 : decode cX2_takesNextSpeaker 23 = .ok (.iconst 1, 1) := by decide +kernel
theorem dX2_takesNextSpeaker_24 : decode cX2_takesNextSpeaker 24 = .ok (.ireturn, 1) := by decide +kernel
theorem dX2_startPart_0 : decode cX2_startPart 0 = .ok (.aload_n 0, 1) := by decide +kernel
theorem dX2_startPart_1 : decode cX2_startPart 1 = .ok (.iconst 0, 1) := by decide +kernel
theorem dX2_startPart_2 : decode cX2_startPart 2 = .ok (.putfield 22, 3) := by decide +kernel
theorem dX2_startPart_5 : decode cX2_startPart 5 = .ok (.aload_n 0, 1) := by decide +kernel
theorem dX2_startPart_6 : decode cX2_startPart 6 = .ok (.iconst 0, 1) := by decide +kernel
theorem dX2_startPart_7 : decode cX2_startPart 7 = .ok (.putfield 25, 3) := by decide +kernel
theorem dX2_startPart_10 : decode cX2_startPart 10 = .ok (.return_, 1) := by decide +kernel
theorem dX3_init_0 : decode cX3_init 0 = .ok (.aload_n 0, 1) := by decide +kernel
theorem dX3_init_1 : decode cX3_init 1 = .ok (.invokespecial 3, 3) := by decide +kernel
theorem dX3_init_4 : decode cX3_init 4 = .ok (.aload_n 0, 1) := by decide +kernel
theorem dX3_init_5 : decode cX3_init 5 = .ok (.iconst 4, 1) := by decide +kernel
theorem dX3_init_6 : decode cX3_init 6 = .ok (.newarray .int, 2) := by decide +kernel
theorem dX3_init_8 : decode cX3_init 8 = .ok (.putfield 9, 3) := by decide +kernel
theorem dX3_init_11 : decode cX3_init 11 = .ok (.aload_n 0, 1) := by decide +kernel
theorem dX3_init_12 : decode cX3_init 12 = .ok (.iconst 4, 1) := by decide +kernel
theorem dX3_init_13 : decode cX3_init 13 = .ok (.newarray .int, 2) := by decide +kernel
theorem dX3_init_15 : decode cX3_init 15 = .ok (.putfield 15, 3) := by decide +kernel
theorem dX3_init_18 : decode cX3_init 18 = .ok (.aload_n 0, 1) := by decide +kernel
theorem dX3_init_19 : decode cX3_init 19 = .ok (.iconst 4, 1) := by decide +kernel
theorem dX3_init_20 : decode cX3_init 20 = .ok (.newarray .int, 2) := by decide +kernel
theorem dX3_init_22 : decode cX3_init 22 = .ok (.putfield 18, 3) := by decide +kernel
theorem dX3_init_25 : decode cX3_init 25 = .ok (.aload_n 0, 1) := by decide +kernel
theorem dX3_init_26 : decode cX3_init 26 = .ok (.iconst 0, 1) := by decide +kernel
theorem dX3_init_27 : decode cX3_init 27 = .ok (.putfield 21, 3) := by decide +kernel
theorem dX3_init_30 : decode cX3_init 30 = .ok (.return_, 1) := by decide +kernel
theorem dX3_clear_0 : decode cX3_clear 0 = .ok (.iconst 0, 1) := by decide +kernel
theorem dX3_clear_1 : decode cX3_clear 1 = .ok (.istore_n 1, 1) := by decide +kernel
theorem dX3_clear_2 : decode cX3_clear 2 = .ok (.iload_n 1, 1) := by decide +kernel
theorem dX3_clear_3 : decode cX3_clear 3 = .ok (.iconst 4, 1) := by decide +kernel
theorem dX3_clear_4 : decode cX3_clear 4 = .ok (.if_icmp .ge 16, 3) := by decide +kernel
theorem dX3_clear_7 : decode cX3_clear 7 = .ok (.aload_n 0, 1) := by decide +kernel
theorem dX3_clear_8 : decode cX3_clear 8 = .ok (.getfield 9, 3) := by decide +kernel
theorem dX3_clear_11 : decode cX3_clear 11 = .ok (.iload_n 1, 1) := by decide +kernel
theorem dX3_clear_12 : decode cX3_clear 12 = .ok (.iconst 0, 1) := by decide +kernel
theorem dX3_clear_13 : decode cX3_clear 13 = .ok (.iastore, 1) := by decide +kernel
theorem dX3_clear_14 : decode cX3_clear 14 = .ok (.iinc 1 1, 3) := by decide +kernel
theorem dX3_clear_17 : decode cX3_clear 17 = .ok (.goto (-15), 3) := by decide +kernel
theorem dX3_clear_20 : decode cX3_clear 20 = .ok (.aload_n 0, 1) := by decide +kernel
theorem dX3_clear_21 : decode cX3_clear 21 = .ok (.iconst 0, 1) := by decide +kernel
theorem dX3_clear_22 : decode cX3_clear 22 = .ok (.putfield 21, 3) := by decide +kernel
theorem dX3_clear_25 : decode cX3_clear 25 = .ok (.return_, 1) := by decide +kernel
theorem dX3_copyFrom_0 : decode cX3_copyFrom 0 = .ok (.aload_n 1, 1) := by decide +kernel
theorem dX3_copyFrom_1 : decode cX3_copyFrom 1 = .ok (.getfield 9, 3) := by decide +kernel
theorem dX3_copyFrom_4 : decode cX3_copyFrom 4 = .ok (.iconst 0, 1) := by decide +kernel
theorem dX3_copyFrom_5 : decode cX3_copyFrom 5 = .ok (.aload_n 0, 1) := by decide +kernel
theorem dX3_copyFrom_6 : decode cX3_copyFrom 6 = .ok (.getfield 9, 3) := by decide +kernel
theorem dX3_copyFrom_9 : decode cX3_copyFrom 9 = .ok (.iconst 0, 1) := by decide +kernel
theorem dX3_copyFrom_10 : decode cX3_copyFrom 10 = .ok (.iconst 4, 1) := by decide +kernel
theorem dX3_copyFrom_11 : decode cX3_copyFrom 11 = .ok (.invokestatic 25, 3) := by decide +kernel
theorem dX3_copyFrom_14 : decode cX3_copyFrom 14 = .ok (.aload_n 1, 1) := by decide +kernel
theorem dX3_copyFrom_15 : decode cX3_copyFrom 15 = .ok (.getfield 15, 3) := by decide +kernel
theorem dX3_copyFrom_18 : decode cX3_copyFrom 18 = .ok (.iconst 0, 1) := by decide +kernel
theorem dX3_copyFrom_19 : decode cX3_copyFrom 19 = .ok (.aload_n 0, 1) := by decide +kernel
theorem dX3_copyFrom_20 : decode cX3_copyFrom 20 = .ok (.getfield 15, 3) := by decide +kernel
theorem dX3_copyFrom_23 : decode cX3_copyFrom 23 = .ok (.iconst 0, 1) := by decide +kernel
theorem dX3_copyFrom_24 : decode cX3_copyFrom 24 = .ok (.iconst 4, 1) := by decide +kernel
theorem dX3_copyFrom_25 : decode cX3_copyFrom 25 = .ok (.invokestatic 25, 3) := by decide +kernel
theorem dX3_copyFrom_28 : decode cX3_copyFrom 28 = .ok (.aload_n 1, 1) := by decide +kernel
theorem dX3_copyFrom_29 : decode cX3_copyFrom 29 = .ok (.getfield 18, 3) := by decide +kernel
theorem dX3_copyFrom_32 : decode cX3_copyFrom 32 = .ok (.iconst 0, 1) := by decide +kernel
theorem dX3_copyFrom_33 : decode cX3_copyFrom 33 = .ok (.aload_n 0, 1) := by decide +kernel
theorem dX3_copyFrom_34 : decode cX3_copyFrom 34 = .ok (.getfield 18, 3) := by decide +kernel
theorem dX3_copyFrom_37 : decode cX3_copyFrom 37 = .ok (.iconst 0, 1) := by decide +kernel
theorem dX3_copyFrom_38 : decode cX3_copyFrom 38 = .ok (.iconst 4, 1) := by decide +kernel
theorem dX3_copyFrom_39 : decode cX3_copyFrom 39 = .ok (.invokestatic 25, 3) := by decide +kernel
theorem dX3_copyFrom_42 : decode cX3_copyFrom 42 = .ok (.aload_n 0, 1) := by decide +kernel
theorem dX3_copyFrom_43 : decode cX3_copyFrom 43 = .ok (.aload_n 1, 1) := by decide +kernel
theorem dX3_copyFrom_44 : decode cX3_copyFrom 44 = .ok (.getfield 21, 3) := by decide +kernel
theorem dX3_copyFrom_47 : decode cX3_copyFrom 47 = .ok (.putfield 21, 3) := by decide +kernel
theorem dX3_copyFrom_50 : decode cX3_copyFrom 50 = .ok (.return_, 1) := by decide +kernel
theorem dX4_init_0 : decode cX4_init 0 = .ok (.aload_n 0, 1) := by decide +kernel
theorem dX4_init_1 : decode cX4_init 1 = .ok (.invokespecial 3, 3) := by decide +kernel
theorem dX4_init_4 : decode cX4_init 4 = .ok (.aload_n 0, 1) := by decide +kernel
theorem dX4_init_5 : decode cX4_init 5 = .ok (.iconst 4, 1) := by decide +kernel
theorem dX4_init_6 : decode cX4_init 6 = .ok (.newarray .int, 2) := by decide +kernel
theorem dX4_init_8 : decode cX4_init 8 = .ok (.putfield 9, 3) := by decide +kernel
theorem dX4_init_11 : decode cX4_init 11 = .ok (.aload_n 0, 1) := by decide +kernel
theorem dX4_init_12 : decode cX4_init 12 = .ok (.bipush 8, 2) := by decide +kernel
theorem dX4_init_14 : decode cX4_init 14 = .ok (.newarray .int, 2) := by decide +kernel
theorem dX4_init_16 : decode cX4_init 16 = .ok (.putfield 15, 3) := by decide +kernel
theorem dX4_init_19 : decode cX4_init 19 = .ok (.aload_n 0, 1) := by decide +kernel
theorem dX4_init_20 : decode cX4_init 20 = .ok (.bipush 8, 2) := by decide +kernel
theorem dX4_init_22 : decode cX4_init 22 = .ok (.newarray .int, 2) := by decide +kernel
theorem dX4_init_24 : decode cX4_init 24 = .ok (.putfield 18, 3) := by decide +kernel
theorem dX4_init_27 : decode cX4_init 27 = .ok (.aload_n 0, 1) := by decide +kernel
theorem dX4_init_28 : decode cX4_init 28 = .ok (.bipush 8, 2) := by decide +kernel
theorem dX4_init_30 : decode cX4_init 30 = .ok (.newarray .int, 2) := by decide +kernel
theorem dX4_init_32 : decode cX4_init 32 = .ok (.putfield 21, 3) := by decide +kernel
theorem dX4_init_35 : decode cX4_init 35 = .ok (.aload_n 0, 1) := by decide +kernel
theorem dX4_init_36 : decode cX4_init 36 = .ok (.bipush 8, 2) := by decide +kernel
theorem dX4_init_38 : decode cX4_init 38 = .ok (.newarray .int, 2) := by decide +kernel
theorem dX4_init_40 : decode cX4_init 40 = .ok (.putfield 24, 3) := by decide +kernel
theorem dX4_init_43 : decode cX4_init 43 = .ok (.aload_n 0, 1) := by decide +kernel
theorem dX4_init_44 : decode cX4_init 44 = .ok (.iconst 0, 1) := by decide +kernel
theorem dX4_init_45 : decode cX4_init 45 = .ok (.putfield 27, 3) := by decide +kernel
theorem dX4_init_48 : decode cX4_init 48 = .ok (.aload_n 0, 1) := by decide +kernel
theorem dX4_init_49 : decode cX4_init 49 = .ok (.bipush 8, 2) := by decide +kernel
theorem dX4_init_51 : decode cX4_init 51 = .ok (.newarray .int, 2) := by decide +kernel
theorem dX4_init_53 : decode cX4_init 53 = .ok (.putfield 31, 3) := by decide +kernel
theorem dX4_init_56 : decode cX4_init 56 = .ok (.aload_n 0, 1) := by decide +kernel
theorem dX4_init_57 : decode cX4_init 57 = .ok (.bipush 8, 2) := by decide +kernel
theorem dX4_init_59 : decode cX4_init 59 = .ok (.newarray .int, 2) := by decide +kernel
theorem dX4_init_61 : decode cX4_init 61 = .ok (.putfield 34, 3) := by decide +kernel
theorem dX4_init_64 : decode cX4_init 64 = .ok (.aload_n 0, 1) := by decide +kernel
theorem dX4_init_65 : decode cX4_init 65 = .ok (.bipush 8, 2) := by decide +kernel
theorem dX4_init_67 : decode cX4_init 67 = .ok (.newarray .int, 2) := by decide +kernel
theorem dX4_init_69 : decode cX4_init 69 = .ok (.putfield 37, 3) := by decide +kernel
theorem dX4_init_72 : decode cX4_init 72 = .ok (.aload_n 0, 1) := by decide +kernel
theorem dX4_init_73 : decode cX4_init 73 = .ok (.iconst 0, 1) := by decide +kernel
theorem dX4_init_74 : decode cX4_init 74 = .ok (.putfield 40, 3) := by decide +kernel
theorem dX4_init_77 : decode cX4_init 77 = .ok (.aload_n 0, 1) := by decide +kernel
theorem dX4_init_78 : decode cX4_init 78 = .ok (.iconst 0, 1) := by decide +kernel
theorem dX4_init_79 : decode cX4_init 79 = .ok (.putfield 43, 3) := by decide +kernel
theorem dX4_init_82 : decode cX4_init 82 = .ok (.return_, 1) := by decide +kernel
theorem dX4_start_0 : decode cX4_start 0 = .ok (.aload_n 1, 1) := by decide +kernel
theorem dX4_start_1 : decode cX4_start 1 = .ok (.iconst 0, 1) := by decide +kernel
theorem dX4_start_2 : decode cX4_start 2 = .ok (.aload_n 0, 1) := by decide +kernel
theorem dX4_start_3 : decode cX4_start 3 = .ok (.getfield 9, 3) := by decide +kernel
theorem dX4_start_6 : decode cX4_start 6 = .ok (.iconst 0, 1) := by decide +kernel
theorem dX4_start_7 : decode cX4_start 7 = .ok (.iconst 4, 1) := by decide +kernel
theorem dX4_start_8 : decode cX4_start 8 = .ok (.invokestatic 46, 3) := by decide +kernel
theorem dX4_start_11 : decode cX4_start 11 = .ok (.aload_n 0, 1) := by decide +kernel
theorem dX4_start_12 : decode cX4_start 12 = .ok (.iconst 0, 1) := by decide +kernel
theorem dX4_start_13 : decode cX4_start 13 = .ok (.putfield 27, 3) := by decide +kernel
theorem dX4_start_16 : decode cX4_start 16 = .ok (.aload_n 0, 1) := by decide +kernel
theorem dX4_start_17 : decode cX4_start 17 = .ok (.iconst 0, 1) := by decide +kernel
theorem dX4_start_18 : decode cX4_start 18 = .ok (.putfield 40, 3) := by decide +kernel
theorem dX4_start_21 : decode cX4_start 21 = .ok (.aload_n 0, 1) := by decide +kernel
theorem dX4_start_22 : decode cX4_start 22 = .ok (.iconst 0, 1) := by decide +kernel
theorem dX4_start_23 : decode cX4_start 23 = .ok (.putfield 43, 3) := by decide +kernel
theorem dX4_start_26 : decode cX4_start 26 = .ok (.return_, 1) := by decide +kernel
theorem dX4_copyFrom_0 : decode cX4_copyFrom 0 = .ok (.aload_n 1, 1) := by decide +kernel
theorem dX4_copyFrom_1 : decode cX4_copyFrom 1 = .ok (.getfield 9, 3) := by decide +kernel
theorem dX4_copyFrom_4 : decode cX4_copyFrom 4 = .ok (.iconst 0, 1) := by decide +kernel
theorem dX4_copyFrom_5 : decode cX4_copyFrom 5 = .ok (.aload_n 0, 1) := by decide +kernel
theorem dX4_copyFrom_6 : decode cX4_copyFrom 6 = .ok (.getfield 9, 3) := by decide +kernel
theorem dX4_copyFrom_9 : decode cX4_copyFrom 9 = .ok (.iconst 0, 1) := by decide +kernel
theorem dX4_copyFrom_10 : decode cX4_copyFrom 10 = .ok (.iconst 4, 1) := by decide +kernel
theorem dX4_copyFrom_11 : decode cX4_copyFrom 11 = .ok (.invokestatic 46, 3) := by decide +kernel
theorem dX4_copyFrom_14 : decode cX4_copyFrom 14 = .ok (.aload_n 1, 1) := by decide +kernel
theorem dX4_copyFrom_15 : decode cX4_copyFrom 15 = .ok (.getfield 15, 3) := by decide +kernel
theorem dX4_copyFrom_18 : decode cX4_copyFrom 18 = .ok (.iconst 0, 1) := by decide +kernel
theorem dX4_copyFrom_19 : decode cX4_copyFrom 19 = .ok (.aload_n 0, 1) := by decide +kernel
theorem dX4_copyFrom_20 : decode cX4_copyFrom 20 = .ok (.getfield 15, 3) := by decide +kernel
theorem dX4_copyFrom_23 : decode cX4_copyFrom 23 = .ok (.iconst 0, 1) := by decide +kernel
theorem dX4_copyFrom_24 : decode cX4_copyFrom 24 = .ok (.bipush 8, 2) := by decide +kernel
theorem dX4_copyFrom_26 : decode cX4_copyFrom 26 = .ok (.invokestatic 46, 3) := by decide +kernel
theorem dX4_copyFrom_29 : decode cX4_copyFrom 29 = .ok (.aload_n 1, 1) := by decide +kernel
theorem dX4_copyFrom_30 : decode cX4_copyFrom 30 = .ok (.getfield 18, 3) := by decide +kernel
theorem dX4_copyFrom_33 : decode cX4_copyFrom 33 = .ok (.iconst 0, 1) := by decide +kernel
theorem dX4_copyFrom_34 : decode cX4_copyFrom 34 = .ok (.aload_n 0, 1) := by decide +kernel
theorem dX4_copyFrom_35 : decode cX4_copyFrom 35 = .ok (.getfield 18, 3) := by decide +kernel
theorem dX4_copyFrom_38 : decode cX4_copyFrom 38 = .ok (.iconst 0, 1) := by decide +kernel
theorem dX4_copyFrom_39 : decode cX4_copyFrom 39 = .ok (.bipush 8, 2) := by decide +kernel
theorem dX4_copyFrom_41 : decode cX4_copyFrom 41 = .ok (.invokestatic 46, 3) := by decide +kernel
theorem dX4_copyFrom_44 : decode cX4_copyFrom 44 = .ok (.aload_n 1, 1) := by decide +kernel
theorem dX4_copyFrom_45 : decode cX4_copyFrom 45 = .ok (.getfield 21, 3) := by decide +kernel
theorem dX4_copyFrom_48 : decode cX4_copyFrom 48 = .ok (.iconst 0, 1) := by decide +kernel
theorem dX4_copyFrom_49 : decode cX4_copyFrom 49 = .ok (.aload_n 0, 1) := by decide +kernel
theorem dX4_copyFrom_50 : decode cX4_copyFrom 50 = .ok (.getfield 21, 3) := by decide +kernel
theorem dX4_copyFrom_53 : decode cX4_copyFrom 53 = .ok (.iconst 0, 1) := by decide +kernel
theorem dX4_copyFrom_54 : decode cX4_copyFrom 54 = .ok (.bipush 8, 2) := by decide +kernel
theorem dX4_copyFrom_56 : decode cX4_copyFrom 56 = .ok (.invokestatic 46, 3) := by decide +kernel
theorem dX4_copyFrom_59 : decode cX4_copyFrom 59 = .ok (.aload_n 1, 1) := by decide +kernel
theorem dX4_copyFrom_60 : decode cX4_copyFrom 60 = .ok (.getfield 24, 3) := by decide +kernel
theorem dX4_copyFrom_63 : decode cX4_copyFrom 63 = .ok (.iconst 0, 1) := by decide +kernel
theorem dX4_copyFrom_64 : decode cX4_copyFrom 64 = .ok (.aload_n 0, 1) := by decide +kernel
theorem dX4_copyFrom_65 : decode cX4_copyFrom 65 = .ok (.getfield 24, 3) := by decide +kernel
theorem dX4_copyFrom_68 : decode cX4_copyFrom 68 = .ok (.iconst 0, 1) := by decide +kernel
theorem dX4_copyFrom_69 : decode cX4_copyFrom 69 = .ok (.bipush 8, 2) := by decide +kernel
theorem dX4_copyFrom_71 : decode cX4_copyFrom 71 = .ok (.invokestatic 46, 3) := by decide +kernel
theorem dX4_copyFrom_74 : decode cX4_copyFrom 74 = .ok (.aload_n 1, 1) := by decide +kernel
theorem dX4_copyFrom_75 : decode cX4_copyFrom 75 = .ok (.getfield 31, 3) := by decide +kernel
theorem dX4_copyFrom_78 : decode cX4_copyFrom 78 = .ok (.iconst 0, 1) := by decide +kernel
theorem dX4_copyFrom_79 : decode cX4_copyFrom 79 = .ok (.aload_n 0, 1) := by decide +kernel
theorem dX4_copyFrom_80 : decode cX4_copyFrom 80 = .ok (.getfield 31, 3) := by decide +kernel
theorem dX4_copyFrom_83 : decode cX4_copyFrom 83 = .ok (.iconst 0, 1) := by decide +kernel
theorem dX4_copyFrom_84 : decode cX4_copyFrom 84 = .ok (.bipush 8, 2) := by decide +kernel
theorem dX4_copyFrom_86 : decode cX4_copyFrom 86 = .ok (.invokestatic 46, 3) := by decide +kernel
theorem dX4_copyFrom_89 : decode cX4_copyFrom 89 = .ok (.aload_n 1, 1) := by decide +kernel
theorem dX4_copyFrom_90 : decode cX4_copyFrom 90 = .ok (.getfield 34, 3) := by decide +kernel
theorem dX4_copyFrom_93 : decode cX4_copyFrom 93 = .ok (.iconst 0, 1) := by decide +kernel
theorem dX4_copyFrom_94 : decode cX4_copyFrom 94 = .ok (.aload_n 0, 1) := by decide +kernel
theorem dX4_copyFrom_95 : decode cX4_copyFrom 95 = .ok (.getfield 34, 3) := by decide +kernel
theorem dX4_copyFrom_98 : decode cX4_copyFrom 98 = .ok (.iconst 0, 1) := by decide +kernel
theorem dX4_copyFrom_99 : decode cX4_copyFrom 99 = .ok (.bipush 8, 2) := by decide +kernel
theorem dX4_copyFrom_101 : decode cX4_copyFrom 101 = .ok (.invokestatic 46, 3) := by decide +kernel
theorem dX4_copyFrom_104 : decode cX4_copyFrom 104 = .ok (.aload_n 1, 1) := by decide +kernel
theorem dX4_copyFrom_105 : decode cX4_copyFrom 105 = .ok (.getfield 37, 3) := by decide +kernel
theorem dX4_copyFrom_108 : decode cX4_copyFrom 108 = .ok (.iconst 0, 1) := by decide +kernel
theorem dX4_copyFrom_109 : decode cX4_copyFrom 109 = .ok (.aload_n 0, 1) := by decide +kernel
theorem dX4_copyFrom_110 : decode cX4_copyFrom 110 = .ok (.getfield 37, 3) := by decide +kernel
theorem dX4_copyFrom_113 : decode cX4_copyFrom 113 = .ok (.iconst 0, 1) := by decide +kernel
theorem dX4_copyFrom_114 : decode cX4_copyFrom 114 = .ok (.bipush 8, 2) := by decide +kernel
theorem dX4_copyFrom_116 : decode cX4_copyFrom 116 = .ok (.invokestatic 46, 3) := by decide +kernel
theorem dX4_copyFrom_119 : decode cX4_copyFrom 119 = .ok (.aload_n 0, 1) := by decide +kernel
theorem dX4_copyFrom_120 : decode cX4_copyFrom 120 = .ok (.aload_n 1, 1) := by decide +kernel
theorem dX4_copyFrom_121 : decode cX4_copyFrom 121 = .ok (.getfield 27, 3) := by decide +kernel
theorem dX4_copyFrom_124 : decode cX4_copyFrom 124 = .ok (.putfield 27, 3) := by decide +kernel
theorem dX4_copyFrom_127 : decode cX4_copyFrom 127 = .ok (.aload_n 0, 1) := by decide +kernel
theorem dX4_copyFrom_128 : decode cX4_copyFrom 128 = .ok (.aload_n 1, 1) := by decide +kernel
theorem dX4_copyFrom_129 : decode cX4_copyFrom 129 = .ok (.getfield 40, 3) := by decide +kernel
theorem dX4_copyFrom_132 : decode cX4_copyFrom 132 = .ok (.putfield 40, 3) := by decide +kernel
theorem dX4_copyFrom_135 : decode cX4_copyFrom 135 = .ok (.aload_n 0, 1) := by decide +kernel
theorem dX4_copyFrom_136 : decode cX4_copyFrom 136 = .ok (.aload_n 1, 1) := by decide +kernel
theorem dX4_copyFrom_137 : decode cX4_copyFrom 137 = .ok (.getfield 43, 3) := by decide +kernel
theorem dX4_copyFrom_140 : decode cX4_copyFrom 140 = .ok (.putfield 43, 3) := by decide +kernel
theorem dX4_copyFrom_143 : decode cX4_copyFrom 143 = .ok (.return_, 1) := by decide +kernel
theorem dX4_addSentence_0 : decode cX4_addSentence 0 = .ok (.aload_n 0, 1) := by decide +kernel
theorem dX4_addSentence_1 : decode cX4_addSentence 1 = .ok (.getfield 27, 3) := by decide +kernel
theorem dX4_addSentence_4 : decode cX4_addSentence 4 = .ok (.istore_n 3, 1) := by decide +kernel
theorem dX4_addSentence_5 : decode cX4_addSentence 5 = .ok (.iload_n 3, 1) := by decide +kernel
theorem dX4_addSentence_6 : decode cX4_addSentence 6 = .ok (.bipush 8, 2) := by decide +kernel
theorem dX4_addSentence_8 : decode cX4_addSentence 8 = .ok (.if_icmp .ge 41, 3) := by decide +kernel
theorem dX4_addSentence_11 : decode cX4_addSentence 11 = .ok (.aload_n 0, 1) := by decide +kernel
theorem dX4_addSentence_12 : decode cX4_addSentence 12 = .ok (.getfield 15, 3) := by decide +kernel
theorem dX4_addSentence_15 : decode cX4_addSentence 15 = .ok (.iload_n 3, 1) := by decide +kernel
theorem dX4_addSentence_16 : decode cX4_addSentence 16 = .ok (.iload_n 1, 1) := by decide +kernel
theorem dX4_addSentence_17 : decode cX4_addSentence 17 = .ok (.iastore, 1) := by decide +kernel
theorem dX4_addSentence_18 : decode cX4_addSentence 18 = .ok (.aload_n 0, 1) := by decide +kernel
theorem dX4_addSentence_19 : decode cX4_addSentence 19 = .ok (.getfield 18, 3) := by decide +kernel
theorem dX4_addSentence_22 : decode cX4_addSentence 22 = .ok (.iload_n 3, 1) := by decide +kernel
theorem dX4_addSentence_23 : decode cX4_addSentence 23 = .ok (.iload_n 2, 1) := by decide +kernel
theorem dX4_addSentence_24 : decode cX4_addSentence 24 = .ok (.iastore, 1) := by decide +kernel
theorem dX4_addSentence_25 : decode cX4_addSentence 25 = .ok (.aload_n 0, 1) := by decide +kernel
theorem dX4_addSentence_26 : decode cX4_addSentence 26 = .ok (.getfield 21, 3) := by decide +kernel
theorem dX4_addSentence_29 : decode cX4_addSentence 29 = .ok (.iload_n 3, 1) := by decide +kernel
theorem dX4_addSentence_30 : decode cX4_addSentence 30 = .ok (.iconst (-1), 1) := by decide +kernel
theorem dX4_addSentence_31 : decode cX4_addSentence 31 = .ok (.iastore, 1) := by decide +kernel
theorem dX4_addSentence_32 : decode cX4_addSentence 32 = .ok (.aload_n 0, 1) := by decide +kernel
theorem dX4_addSentence_33 : decode cX4_addSentence 33 = .ok (.getfield 24, 3) := by decide +kernel
theorem dX4_addSentence_36 : decode cX4_addSentence 36 = .ok (.iload_n 3, 1) := by decide +kernel
theorem dX4_addSentence_37 : decode cX4_addSentence 37 = .ok (.iconst (-1), 1) := by decide +kernel
theorem dX4_addSentence_38 : decode cX4_addSentence 38 = .ok (.iastore, 1) := by decide +kernel
theorem dX4_addSentence_39 : decode cX4_addSentence 39 = .ok (.aload_n 0, 1) := by decide +kernel
theorem dX4_addSentence_40 : decode cX4_addSentence 40 = .ok (.dup, 1) := by decide +kernel
theorem dX4_addSentence_41 : decode cX4_addSentence 41 = .ok (.getfield 27, 3) := by decide +kernel
theorem dX4_addSentence_44 : decode cX4_addSentence 44 = .ok (.iconst 1, 1) := by decide +kernel
theorem dX4_addSentence_45 : decode cX4_addSentence 45 = .ok (.iadd, 1) := by decide +kernel
theorem dX4_addSentence_46 : decode cX4_addSentence 46 = .ok (.putfield 27, 3) := by decide +kernel
theorem dX4_addSentence_49 : decode cX4_addSentence 49 = .ok (.iload_n 3, 1) := by decide +kernel
theorem dX4_addSentence_50 : decode cX4_addSentence 50 = .ok (.ireturn, 1) := by decide +kernel
theorem dX4_addHeard_0 : decode cX4_addHeard 0 = .ok (.aload_n 0, 1) := by decide +kernel
theorem dX4_addHeard_1 : decode cX4_addHeard 1 = .ok (.getfield 40, 3) := by decide +kernel
theorem dX4_addHeard_4 : decode cX4_addHeard 4 = .ok (.bipush 8, 2) := by decide +kernel
theorem dX4_addHeard_6 : decode cX4_addHeard 6 = .ok (.if_icmp .ge 43, 3) := by decide +kernel
theorem dX4_addHeard_9 : decode cX4_addHeard 9 = .ok (.aload_n 0, 1) := by decide +kernel
theorem dX4_addHeard_10 : decode cX4_addHeard 10 = .ok (.getfield 31, 3) := by decide +kernel
theorem dX4_addHeard_13 : decode cX4_addHeard 13 = .ok (.aload_n 0, 1) := by decide +kernel
theorem dX4_addHeard_14 : decode cX4_addHeard 14 = .ok (.getfield 40, 3) := by decide +kernel
theorem dX4_addHeard_17 : decode cX4_addHeard 17 = .ok (.iload_n 1, 1) := by decide +kernel
theorem dX4_addHeard_18 : decode cX4_addHeard 18 = .ok (.iastore, 1) := by decide +kernel
theorem dX4_addHeard_19 : decode cX4_addHeard 19 = .ok (.aload_n 0, 1) := by decide +kernel
theorem dX4_addHeard_20 : decode cX4_addHeard 20 = .ok (.getfield 34, 3) := by decide +kernel
theorem dX4_addHeard_23 : decode cX4_addHeard 23 = .ok (.aload_n 0, 1) := by decide +kernel
theorem dX4_addHeard_24 : decode cX4_addHeard 24 = .ok (.getfield 40, 3) := by decide +kernel
theorem dX4_addHeard_27 : decode cX4_addHeard 27 = .ok (.iload_n 2, 1) := by decide +kernel
theorem dX4_addHeard_28 : decode cX4_addHeard 28 = .ok (.iastore, 1) := by decide +kernel
theorem dX4_addHeard_29 : decode cX4_addHeard 29 = .ok (.aload_n 0, 1) := by decide +kernel
theorem dX4_addHeard_30 : decode cX4_addHeard 30 = .ok (.getfield 37, 3) := by decide +kernel
theorem dX4_addHeard_33 : decode cX4_addHeard 33 = .ok (.aload_n 0, 1) := by decide +kernel
theorem dX4_addHeard_34 : decode cX4_addHeard 34 = .ok (.getfield 40, 3) := by decide +kernel
theorem dX4_addHeard_37 : decode cX4_addHeard 37 = .ok (.iload_n 3, 1) := by decide +kernel
theorem dX4_addHeard_38 : decode cX4_addHeard 38 = .ok (.iastore, 1) := by decide +kernel
theorem dX4_addHeard_39 : decode cX4_addHeard 39 = .ok (.aload_n 0, 1) := by decide +kernel
theorem dX4_addHeard_40 : decode cX4_addHeard 40 = .ok (.dup, 1) := by decide +kernel
theorem dX4_addHeard_41 : decode cX4_addHeard 41 = .ok (.getfield 40, 3) := by decide +kernel
theorem dX4_addHeard_44 : decode cX4_addHeard 44 = .ok (.iconst 1, 1) := by decide +kernel
theorem dX4_addHeard_45 : decode cX4_addHeard 45 = .ok (.iadd, 1) := by decide +kernel
theorem dX4_addHeard_46 : decode cX4_addHeard 46 = .ok (.putfield 40, 3) := by decide +kernel
theorem dX4_addHeard_49 : decode cX4_addHeard 49 = .ok (.return_, 1) := by decide +kernel
theorem dX4_isOpen_0 : decode cX4_isOpen 0 = .ok (.aload_n 0, 1) := by decide +kernel
theorem dX4_isOpen_1 : decode cX4_isOpen 1 = .ok (.getfield 21, 3) := by decide +kernel
theorem dX4_isOpen_4 : decode cX4_isOpen 4 = .ok (.iload_n 1, 1) := by decide +kernel
theorem dX4_isOpen_5 : decode cX4_isOpen 5 = .ok (.iaload, 1) := by decide +kernel
theorem dX4_isOpen_6 : decode cX4_isOpen 6 = .ok (.iconst (-1), 1) := by decide +kernel
theorem dX4_isOpen_7 : decode cX4_isOpen 7 = .ok (.if_icmp .ne 7, 3) := by decide +kernel
theorem dX4_isOpen_10 : decode cX4_isOpen 10 = .ok (.iconst 1, 1) := by decide +kernel
theorem dX4_isOpen_11 : decode cX4_isOpen 11 = .ok (.goto 4, 3) := by decide +kernel
theorem dX4_isOpen_14 : decode cX4_isOpen 14 = .ok (.iconst 0, 1) := by decide +kernel
theorem dX4_isOpen_15 : decode cX4_isOpen 15 = .ok (.ireturn, 1) := by decide +kernel
theorem dX4_isAsWanted_0 : decode cX4_isAsWanted 0 = .ok (.aload_n 0, 1) := by decide +kernel
theorem dX4_isAsWanted_1 : decode cX4_isAsWanted 1 = .ok (.iload_n 1, 1) := by decide +kernel
theorem dX4_isAsWanted_2 : decode cX4_isAsWanted 2 = .ok (.invokevirtual 52, 3) := by decide +kernel
theorem dX4_isAsWanted_5 : decode cX4_isAsWanted 5 = .ok (.ifCond .ne 27, 3) := by decide +kernel
theorem dX4_isAsWanted_8 : decode cX4_isAsWanted 8 = .ok (.aload_n 0, 1) := by decide +kernel
theorem dX4_isAsWanted_9 : decode cX4_isAsWanted 9 = .ok (.getfield 24, 3) := by decide +kernel
theorem dX4_isAsWanted_12 : decode cX4_isAsWanted 12 = .ok (.iload_n 1, 1) := by decide +kernel
theorem dX4_isAsWanted_13 : decode cX4_isAsWanted 13 = .ok (.iaload, 1) := by decide +kernel
theorem dX4_isAsWanted_14 : decode cX4_isAsWanted 14 = .ok (.aload_n 0, 1) := by decide +kernel
theorem dX4_isAsWanted_15 : decode cX4_isAsWanted 15 = .ok (.getfield 9, 3) := by decide +kernel
theorem dX4_isAsWanted_18 : decode cX4_isAsWanted 18 = .ok (.aload_n 0, 1) := by decide +kernel
theorem dX4_isAsWanted_19 : decode cX4_isAsWanted 19 = .ok (.getfield 15, 3) := by decide +kernel
theorem dX4_isAsWanted_22 : decode cX4_isAsWanted 22 = .ok (.iload_n 1, 1) := by decide +kernel
theorem dX4_isAsWanted_23 : decode cX4_isAsWanted 23 = .ok (.iaload, 1) := by decide +kernel
theorem dX4_isAsWanted_24 : decode cX4_isAsWanted 24 = .ok (.iaload, 1) := by decide +kernel
theorem dX4_isAsWanted_25 : decode cX4_isAsWanted 25 = .ok (.if_icmp .ne 7, 3) := by decide +kernel
theorem dX4_isAsWanted_28 : decode cX4_isAsWanted 28 = .ok (.iconst 1, 1) := by decide +kernel
theorem dX4_isAsWanted_29 : decode cX4_isAsWanted 29 = .ok (.goto 4, 3) := by decide +kernel
theorem dX4_isAsWanted_32 : decode cX4_isAsWanted 32 = .ok (.iconst 0, 1) := by decide +kernel
theorem dX4_isAsWanted_33 : decode cX4_isAsWanted 33 = .ok (.ireturn, 1) := by decide +kernel
theorem dX4_openOf_0 : decode cX4_openOf 0 = .ok (.iconst 0, 1) := by decide +kernel
theorem dX4_openOf_1 : decode cX4_openOf 1 = .ok (.istore_n 2, 1) := by decide +kernel
theorem dX4_openOf_2 : decode cX4_openOf 2 = .ok (.iload_n 2, 1) := by decide +kernel
theorem dX4_openOf_3 : decode cX4_openOf 3 = .ok (.aload_n 0, 1) := by decide +kernel
theorem dX4_openOf_4 : decode cX4_openOf 4 = .ok (.getfield 27, 3) := by decide +kernel
theorem dX4_openOf_7 : decode cX4_openOf 7 = .ok (.if_icmp .ge 29, 3) := by decide +kernel
theorem dX4_openOf_10 : decode cX4_openOf 10 = .ok (.aload_n 0, 1) := by decide +kernel
theorem dX4_openOf_11 : decode cX4_openOf 11 = .ok (.getfield 15, 3) := by decide +kernel
theorem dX4_openOf_14 : decode cX4_openOf 14 = .ok (.iload_n 2, 1) := by decide +kernel
theorem dX4_openOf_15 : decode cX4_openOf 15 = .ok (.iaload, 1) := by decide +kernel
theorem dX4_openOf_16 : decode cX4_openOf 16 = .ok (.iload_n 1, 1) := by decide +kernel
theorem dX4_openOf_17 : decode cX4_openOf 17 = .ok (.if_icmp .ne 13, 3) := by decide +kernel
theorem dX4_openOf_20 : decode cX4_openOf 20 = .ok (.aload_n 0, 1) := by decide +kernel
theorem dX4_openOf_21 : decode cX4_openOf 21 = .ok (.iload_n 2, 1) := by decide +kernel
theorem dX4_openOf_22 : decode cX4_openOf 22 = .ok (.invokevirtual 52, 3) := by decide +kernel
theorem dX4_openOf_25 : decode cX4_openOf 25 = .ok (.ifCond .eq 5, 3) := by decide +kernel
theorem dX4_openOf_28 : decode cX4_openOf 28 = .ok (.iload_n 2, 1) := by decide +kernel
theorem dX4_openOf_29 : decode cX4_openOf 29 = .ok (.ireturn, 1) := by decide +kernel
theorem dX4_openOf_30 : decode cX4_openOf 30 = .ok (.iinc 2 1, 3) := by decide +kernel
theorem dX4_openOf_33 : decode cX4_openOf 33 = .ok (.goto (-31), 3) := by decide +kernel
theorem dX4_openOf_36 : decode cX4_openOf 36 = .ok (.iconst (-1), 1) := by decide +kernel
theorem dX4_openOf_37 : decode cX4_openOf 37 = .ok (.ireturn, 1) := by decide +kernel
theorem dX4_usedBy_0 : decode cX4_usedBy 0 = .ok (.iconst 0, 1) := by decide +kernel
theorem dX4_usedBy_1 : decode cX4_usedBy 1 = .ok (.istore_n 2, 1) := by decide +kernel
theorem dX4_usedBy_2 : decode cX4_usedBy 2 = .ok (.iconst 0, 1) := by decide +kernel
theorem dX4_usedBy_3 : decode cX4_usedBy 3 = .ok (.istore_n 3, 1) := by decide +kernel
theorem dX4_usedBy_4 : decode cX4_usedBy 4 = .ok (.iload_n 3, 1) := by decide +kernel
theorem dX4_usedBy_5 : decode cX4_usedBy 5 = .ok (.aload_n 0, 1) := by decide +kernel
theorem dX4_usedBy_6 : decode cX4_usedBy 6 = .ok (.getfield 27, 3) := by decide +kernel
theorem dX4_usedBy_9 : decode cX4_usedBy 9 = .ok (.if_icmp .ge 30, 3) := by decide +kernel
theorem dX4_usedBy_12 : decode cX4_usedBy 12 = .ok (.aload_n 0, 1) := by decide +kernel
theorem dX4_usedBy_13 : decode cX4_usedBy 13 = .ok (.getfield 21, 3) := by decide +kernel
theorem dX4_usedBy_16 : decode cX4_usedBy 16 = .ok (.iload_n 3, 1) := by decide +kernel
theorem dX4_usedBy_17 : decode cX4_usedBy 17 = .ok (.iaload, 1) := by decide +kernel
theorem dX4_usedBy_18 : decode cX4_usedBy 18 = .ok (.iload_n 1, 1) := by decide +kernel
theorem dX4_usedBy_19 : decode cX4_usedBy 19 = .ok (.if_icmp .ne 14, 3) := by decide +kernel
theorem dX4_usedBy_22 : decode cX4_usedBy 22 = .ok (.iload_n 2, 1) := by decide +kernel
theorem dX4_usedBy_23 : decode cX4_usedBy 23 = .ok (.iconst 1, 1) := by decide +kernel
theorem dX4_usedBy_24 : decode cX4_usedBy 24 = .ok (.aload_n 0, 1) := by decide +kernel
theorem dX4_usedBy_25 : decode cX4_usedBy 25 = .ok (.getfield 24, 3) := by decide +kernel
theorem dX4_usedBy_28 : decode cX4_usedBy 28 = .ok (.iload_n 3, 1) := by decide +kernel
theorem dX4_usedBy_29 : decode cX4_usedBy 29 = .ok (.iaload, 1) := by decide +kernel
theorem dX4_usedBy_30 : decode cX4_usedBy 30 = .ok (.ishl, 1) := by decide +kernel
theorem dX4_usedBy_31 : decode cX4_usedBy 31 = .ok (.ior, 1) := by decide +kernel
theorem dX4_usedBy_32 : decode cX4_usedBy 32 = .ok (.istore_n 2, 1) := by decide +kernel
theorem dX4_usedBy_33 : decode cX4_usedBy 33 = .ok (.iinc 3 1, 3) := by decide +kernel
theorem dX4_usedBy_36 : decode cX4_usedBy 36 = .ok (.goto (-32), 3) := by decide +kernel
theorem dX4_usedBy_39 : decode cX4_usedBy 39 = .ok (.iload_n 2, 1) := by decide +kernel
theorem dX4_usedBy_40 : decode cX4_usedBy 40 = .ok (.ireturn, 1) := by decide +kernel
theorem dX4_howManyBegunBy_0 : decode cX4_howManyBegunBy 0 = .ok (.iconst 0, 1) := by decide +kernel
theorem dX4_howManyBegunBy_1 : decode cX4_howManyBegunBy 1 = .ok (.istore_n 2, 1) := by decide +kernel
theorem dX4_howManyBegunBy_2 : decode cX4_howManyBegunBy 2 = .ok (.iconst 0, 1) := by decide +kernel
theorem dX4_howManyBegunBy_3 : decode cX4_howManyBegunBy 3 = .ok (.istore_n 3, 1) := by decide +kernel
theorem dX4_howManyBegunBy_4 : decode cX4_howManyBegunBy 4 = .ok (.iload_n 3, 1) := by decide +kernel
theorem dX4_howManyBegunBy_5 : decode cX4_howManyBegunBy 5 = .ok (.aload_n 0, 1) := by decide +kernel
theorem dX4_howManyBegunBy_6 : decode cX4_howManyBegunBy 6 = .ok (.getfield 27, 3) := by decide +kernel
theorem dX4_howManyBegunBy_9 : decode cX4_howManyBegunBy 9 = .ok (.if_icmp .ge 27, 3) := by decide +kernel
theorem dX4_howManyBegunBy_12 : decode cX4_howManyBegunBy 12 = .ok (.iload_n 2, 1) := by decide +kernel
theorem dX4_howManyBegunBy_13 : decode cX4_howManyBegunBy 13 = .ok (.aload_n 0, 1) := by decide +kernel
theorem dX4_howManyBegunBy_14 : decode cX4_howManyBegunBy 14 = .ok (.getfield 15, 3) := by decide +kernel
theorem dX4_howManyBegunBy_17 : decode cX4_howManyBegunBy 17 = .ok (.iload_n 3, 1) := by decide +kernel
theorem dX4_howManyBegunBy_18 : decode cX4_howManyBegunBy 18 = .ok (.iaload, 1) := by decide +kernel
theorem dX4_howManyBegunBy_19 : decode cX4_howManyBegunBy 19 = .ok (.iload_n 1, 1) := by decide +kernel
theorem dX4_howManyBegunBy_20 : decode cX4_howManyBegunBy 20 = .ok (.if_icmp .ne 7, 3) := by decide +kernel
theorem dX4_howManyBegunBy_23 : decode cX4_howManyBegunBy 23 = .ok (.iconst 1, 1) := by decide +kernel
theorem dX4_howManyBegunBy_24 : decode cX4_howManyBegunBy 24 = .ok (.goto 4, 3) := by decide +kernel
theorem dX4_howManyBegunBy_27 : decode cX4_howManyBegunBy 27 = .ok (.iconst 0, 1) := by decide +kernel
theorem dX4_howManyBegunBy_28 : decode cX4_howManyBegunBy 28 = .ok (.iadd, 1) := by decide +kernel
theorem dX4_howManyBegunBy_29 : decode cX4_howManyBegunBy 29 = .ok (.istore_n 2, 1) := by decide +kernel
theorem dX4_howManyBegunBy_30 : decode cX4_howManyBegunBy 30 = .ok (.iinc 3 1, 3) := by decide +kernel
theorem dX4_howManyBegunBy_33 : decode cX4_howManyBegunBy 33 = .ok (.goto (-29), 3) := by decide +kernel
theorem dX4_howManyBegunBy_36 : decode cX4_howManyBegunBy 36 = .ok (.iload_n 2, 1) := by decide +kernel
theorem dX4_howManyBegunBy_37 : decode cX4_howManyBegunBy 37 = .ok (.ireturn, 1) := by decide +kernel
theorem dX4_howManyEndedBy_0 : decode cX4_howManyEndedBy 0 = .ok (.iconst 0, 1) := by decide +kernel
theorem dX4_howManyEndedBy_1 : decode cX4_howManyEndedBy 1 = .ok (.istore_n 2, 1) := by decide +kernel
theorem dX4_howManyEndedBy_2 : decode cX4_howManyEndedBy 2 = .ok (.iconst 0, 1) := by decide +kernel
theorem dX4_howManyEndedBy_3 : decode cX4_howManyEndedBy 3 = .ok (.istore_n 3, 1) := by decide +kernel
theorem dX4_howManyEndedBy_4 : decode cX4_howManyEndedBy 4 = .ok (.iload_n 3, 1) := by decide +kernel
theorem dX4_howManyEndedBy_5 : decode cX4_howManyEndedBy 5 = .ok (.aload_n 0, 1) := by decide +kernel
theorem dX4_howManyEndedBy_6 : decode cX4_howManyEndedBy 6 = .ok (.getfield 27, 3) := by decide +kernel
theorem dX4_howManyEndedBy_9 : decode cX4_howManyEndedBy 9 = .ok (.if_icmp .ge 27, 3) := by decide +kernel
theorem dX4_howManyEndedBy_12 : decode cX4_howManyEndedBy 12 = .ok (.iload_n 2, 1) := by decide +kernel
theorem dX4_howManyEndedBy_13 : decode cX4_howManyEndedBy 13 = .ok (.aload_n 0, 1) := by decide +kernel
theorem dX4_howManyEndedBy_14 : decode cX4_howManyEndedBy 14 = .ok (.getfield 21, 3) := by decide +kernel
theorem dX4_howManyEndedBy_17 : decode cX4_howManyEndedBy 17 = .ok (.iload_n 3, 1) := by decide +kernel
theorem dX4_howManyEndedBy_18 : decode cX4_howManyEndedBy 18 = .ok (.iaload, 1) := by decide +kernel
theorem dX4_howManyEndedBy_19 : decode cX4_howManyEndedBy 19 = .ok (.iload_n 1, 1) := by decide +kernel
theorem dX4_howManyEndedBy_20 : decode cX4_howManyEndedBy 20 = .ok (.if_icmp .ne 7, 3) := by decide +kernel
theorem dX4_howManyEndedBy_23 : decode cX4_howManyEndedBy 23 = .ok (.iconst 1, 1) := by decide +kernel
theorem dX4_howManyEndedBy_24 : decode cX4_howManyEndedBy 24 = .ok (.goto 4, 3) := by decide +kernel
theorem dX4_howManyEndedBy_27 : decode cX4_howManyEndedBy 27 = .ok (.iconst 0, 1) := by decide +kernel
theorem dX4_howManyEndedBy_28 : decode cX4_howManyEndedBy 28 = .ok (.iadd, 1) := by decide +kernel
theorem dX4_howManyEndedBy_29 : decode cX4_howManyEndedBy 29 = .ok (.istore_n 2, 1) := by decide +kernel
theorem dX4_howManyEndedBy_30 : decode cX4_howManyEndedBy 30 = .ok (.iinc 3 1, 3) := by decide +kernel
theorem dX4_howManyEndedBy_33 : decode cX4_howManyEndedBy 33 = .ok (.goto (-29), 3) := by decide +kernel
theorem dX4_howManyEndedBy_36 : decode cX4_howManyEndedBy 36 = .ok (.iload_n 2, 1) := by decide +kernel
theorem dX4_howManyEndedBy_37 : decode cX4_howManyEndedBy 37 = .ok (.ireturn, 1) := by decide +kernel
theorem dX4_howManyOpen_0 : decode cX4_howManyOpen 0 = .ok (.aload_n 0, 1) := by decide +kernel
theorem dX4_howManyOpen_1 : decode cX4_howManyOpen 1 = .ok (.iconst (-1), 1) := by decide +kernel
theorem dX4_howManyOpen_2 : decode cX4_howManyOpen 2 = .ok (.invokevirtual 56, 3) := by decide +kernel
theorem dX4_howManyOpen_5 : decode cX4_howManyOpen 5 = .ok (.ireturn, 1) := by decide +kernel
theorem dX4_howManyAsWanted_0 : decode cX4_howManyAsWanted 0 = .ok (.iconst 0, 1) := by decide +kernel
theorem dX4_howManyAsWanted_1 : decode cX4_howManyAsWanted 1 = .ok (.istore_n 1, 1) := by decide +kernel
theorem dX4_howManyAsWanted_2 : decode cX4_howManyAsWanted 2 = .ok (.iconst 0, 1) := by decide +kernel
theorem dX4_howManyAsWanted_3 : decode cX4_howManyAsWanted 3 = .ok (.istore_n 2, 1) := by decide +kernel
theorem dX4_howManyAsWanted_4 : decode cX4_howManyAsWanted 4 = .ok (.iload_n 2, 1) := by decide +kernel
theorem dX4_howManyAsWanted_5 : decode cX4_howManyAsWanted 5 = .ok (.aload_n 0, 1) := by decide +kernel
theorem dX4_howManyAsWanted_6 : decode cX4_howManyAsWanted 6 = .ok (.getfield 27, 3) := by decide +kernel
theorem dX4_howManyAsWanted_9 : decode cX4_howManyAsWanted 9 = .ok (.if_icmp .ge 25, 3) := by decide +kernel
theorem dX4_howManyAsWanted_12 : decode cX4_howManyAsWanted 12 = .ok (.iload_n 1, 1) := by decide +kernel
theorem dX4_howManyAsWanted_13 : decode cX4_howManyAsWanted 13 = .ok (.aload_n 0, 1) := by decide +kernel
theorem dX4_howManyAsWanted_14 : decode cX4_howManyAsWanted 14 = .ok (.iload_n 2, 1) := by decide +kernel
theorem dX4_howManyAsWanted_15 : decode cX4_howManyAsWanted 15 = .ok (.invokevirtual 60, 3) := by decide +kernel
theorem dX4_howManyAsWanted_18 : decode cX4_howManyAsWanted 18 = .ok (.ifCond .eq 7, 3) := by decide +kernel
theorem dX4_howManyAsWanted_21 : decode cX4_howManyAsWanted 21 = .ok (.iconst 1, 1) := by decide +kernel
theorem dX4_howManyAsWanted_22 : decode cX4_howManyAsWanted 22 = .ok (.goto 4, 3) := by decide +kernel
theorem dX4_howManyAsWanted_25 : decode cX4_howManyAsWanted 25 = .ok (.iconst 0, 1) := by decide +kernel
theorem dX4_howManyAsWanted_26 : decode cX4_howManyAsWanted 26 = .ok (.iadd, 1) := by decide +kernel
theorem dX4_howManyAsWanted_27 : decode cX4_howManyAsWanted 27 = .ok (.istore_n 1, 1) := by decide +kernel
theorem dX4_howManyAsWanted_28 : decode cX4_howManyAsWanted 28 = .ok (.iinc 2 1, 3) := by decide +kernel
theorem dX4_howManyAsWanted_31 : decode cX4_howManyAsWanted 31 = .ok (.goto (-27), 3) := by decide +kernel
theorem dX4_howManyAsWanted_34 : decode cX4_howManyAsWanted 34 = .ok (.iload_n 1, 1) := by decide +kernel
theorem dX4_howManyAsWanted_35 : decode cX4_howManyAsWanted 35 = .ok (.ireturn, 1) := by decide +kernel
theorem dX4_howManyUnlikeEndings_0 : decode cX4_howManyUnlikeEndings 0 = .ok (.iconst 0, 1) := by decide +kernel
theorem dX4_howManyUnlikeEndings_1 : decode cX4_howManyUnlikeEndings 1 = .ok (.istore_n 1, 1) := by decide +kernel
theorem dX4_howManyUnlikeEndings_2 : decode cX4_howManyUnlikeEndings 2 = .ok (.iconst 0, 1) := by decide +kernel
theorem dX4_howManyUnlikeEndings_3 : decode cX4_howManyUnlikeEndings 3 = .ok (.istore_n 2, 1) := by decide +kernel
theorem dX4_howManyUnlikeEndings_4 : decode cX4_howManyUnlikeEndings 4 = .ok (.iload_n 2, 1) := by decide +kernel
theorem dX4_howManyUnlikeEndings_5 : decode cX4_howManyUnlikeEndings 5 = .ok (.iconst 4, 1) := by decide +kernel
theorem dX4_howManyUnlikeEndings_6 : decode cX4_howManyUnlikeEndings 6 = .ok (.if_icmp .ge 17, 3) := by decide +kernel
theorem dX4_howManyUnlikeEndings_9 : decode cX4_howManyUnlikeEndings 9 = .ok (.iload_n 1, 1) := by decide +kernel
theorem dX4_howManyUnlikeEndings_10 : decode cX4_howManyUnlikeEndings 10 = .ok (.aload_n 0, 1) := by decide +kernel
theorem dX4_howManyUnlikeEndings_11 : decode cX4_howManyUnlikeEndings 11 = .ok (.iload_n 2, 1) := by decide +kernel
theorem dX4_howManyUnlikeEndings_12 : decode cX4_howManyUnlikeEndings 12 = .ok (.invokevirtual 63, 3) := by decide +kernel
theorem dX4_howManyUnlikeEndings_15 : decode cX4_howManyUnlikeEndings 15 = .ok (.ior, 1) := by decide +kernel
theorem dX4_howManyUnlikeEndings_16 : decode cX4_howManyUnlikeEndings 16 = .ok (.istore_n 1, 1) := by decide +kernel
theorem dX4_howManyUnlikeEndings_17 : decode cX4_howManyUnlikeEndings 17 = .ok (.iinc 2 1, 3) := by decide +kernel
theorem dX4_howManyUnlikeEndings_20 : decode cX4_howManyUnlikeEndings 20 = .ok (.goto (-16), 3) := by decide +kernel
theorem dX4_howManyUnlikeEndings_23 : decode cX4_howManyUnlikeEndings 23 = .ok (.iload_n 1, 1) := by decide +kernel
theorem dX4_howManyUnlikeEndings_24 : decode cX4_howManyUnlikeEndings 24 = .ok (.invokestatic 66, 3) := by decide +kernel
theorem dX4_howManyUnlikeEndings_27 : decode cX4_howManyUnlikeEndings 27 = .ok (.ireturn, 1) := by decide +kernel
theorem dX5_init_0 : decode cX5_init 0 = .ok (.aload_n 0, 1) := by decide +kernel
theorem dX5_init_1 : decode cX5_init 1 = .ok (.invokespecial 3, 3) := by decide +kernel
theorem dX5_init_4 : decode cX5_init 4 = .ok (.aload_n 0, 1) := by decide +kernel
theorem dX5_init_5 : decode cX5_init 5 = .ok (.iconst 4, 1) := by decide +kernel
theorem dX5_init_6 : decode cX5_init 6 = .ok (.newarray .int, 2) := by decide +kernel
theorem dX5_init_8 : decode cX5_init 8 = .ok (.putfield 9, 3) := by decide +kernel
theorem dX5_init_11 : decode cX5_init 11 = .ok (.aload_n 0, 1) := by decide +kernel
theorem dX5_init_12 : decode cX5_init 12 = .ok (.lconst 0, 1) := by decide +kernel
theorem dX5_init_13 : decode cX5_init 13 = .ok (.putfield 15, 3) := by decide +kernel
theorem dX5_init_16 : decode cX5_init 16 = .ok (.aload_n 0, 1) := by decide +kernel
theorem dX5_init_17 : decode cX5_init 17 = .ok (.iconst 0, 1) := by decide +kernel
theorem dX5_init_18 : decode cX5_init 18 = .ok (.putfield 19, 3) := by decide +kernel
theorem dX5_init_21 : decode cX5_init 21 = .ok (.aload_n 0, 1) := by decide +kernel
theorem dX5_init_22 : decode cX5_init 22 = .ok (.iconst 0, 1) := by decide +kernel
theorem dX5_init_23 : decode cX5_init 23 = .ok (.putfield 23, 3) := by decide +kernel
theorem dX5_init_26 : decode cX5_init 26 = .ok (.return_, 1) := by decide +kernel
theorem dX5_run_0 : decode cX5_run 0 = .ok (.aload_n 0, 1) := by decide +kernel
theorem dX5_run_1 : decode cX5_run 1 = .ok (.iload 4, 2) := by decide +kernel
theorem dX5_run_3 : decode cX5_run 3 = .ok (.i2l, 1) := by decide +kernel
theorem dX5_run_4 : decode cX5_run 4 = .ok (.putfield 15, 3) := by decide +kernel
theorem dX5_run_7 : decode cX5_run 7 = .ok (.aload_n 0, 1) := by decide +kernel
theorem dX5_run_8 : decode cX5_run 8 = .ok (.iconst 0, 1) := by decide +kernel
theorem dX5_run_9 : decode cX5_run 9 = .ok (.putfield 19, 3) := by decide +kernel
theorem dX5_run_12 : decode cX5_run 12 = .ok (.aload_n 0, 1) := by decide +kernel
theorem dX5_run_13 : decode cX5_run 13 = .ok (.iconst 0, 1) := by decide +kernel
theorem dX5_run_14 : decode cX5_run 14 = .ok (.putfield 23, 3) := by decide +kernel
theorem dX5_run_17 : decode cX5_run 17 = .ok (.iconst 0, 1) := by decide +kernel
theorem dX5_run_18 : decode cX5_run 18 = .ok (.istore 5, 2) := by decide +kernel
theorem dX5_run_20 : decode cX5_run 20 = .ok (.iload 5, 2) := by decide +kernel
theorem dX5_run_22 : decode cX5_run 22 = .ok (.iconst 4, 1) := by decide +kernel
theorem dX5_run_23 : decode cX5_run 23 = .ok (.if_icmp .ge 22, 3) := by decide +kernel
theorem dX5_run_26 : decode cX5_run 26 = .ok (.aload_n 0, 1) := by decide +kernel
theorem dX5_run_27 : decode cX5_run 27 = .ok (.getfield 9, 3) := by decide +kernel
theorem dX5_run_30 : decode cX5_run 30 = .ok (.iload 5, 2) := by decide +kernel
theorem dX5_run_32 : decode cX5_run 32 = .ok (.aload_n 2, 1) := by decide +kernel
theorem dX5_run_33 : decode cX5_run 33 = .ok (.iload 5, 2) := by decide +kernel
theorem dX5_run_35 : decode cX5_run 35 = .ok (.invokevirtual 26, 3) := by decide +kernel
theorem dX5_run_38 : decode cX5_run 38 = .ok (.iastore, 1) := by decide +kernel
theorem dX5_run_39 : decode cX5_run 39 = .ok (.iinc 5 1, 3) := by decide +kernel
theorem dX5_run_42 : decode cX5_run 42 = .ok (.goto (-22), 3) := by decide +kernel
theorem dX5_run_45 : decode cX5_run 45 = .ok (.iconst 0, 1) := by decide +kernel
theorem dX5_run_46 : decode cX5_run 46 = .ok (.istore 5, 2) := by decide +kernel
theorem dX5_run_48 : decode cX5_run 48 = .ok (.iload 5, 2) := by decide +kernel
theorem dX5_run_50 : decode cX5_run 50 = .ok (.iload_n 3, 1) := by decide +kernel
theorem dX5_run_51 : decode cX5_run 51 = .ok (.if_icmp .ge 15, 3) := by decide +kernel
theorem dX5_run_54 : decode cX5_run 54 = .ok (.aload_n 0, 1) := by decide +kernel
theorem dX5_run_55 : decode cX5_run 55 = .ok (.aload_n 1, 1) := by decide +kernel
theorem dX5_run_56 : decode cX5_run 56 = .ok (.aload_n 2, 1) := by decide +kernel
theorem dX5_run_57 : decode cX5_run 57 = .ok (.invokevirtual 32, 3) := by decide +kernel
theorem dX5_run_60 : decode cX5_run 60 = .ok (.iinc 5 1, 3) := by decide +kernel
theorem dX5_run_63 : decode cX5_run 63 = .ok (.goto (-15), 3) := by decide +kernel
theorem dX5_run_66 : decode cX5_run 66 = .ok (.return_, 1) := by decide +kernel
theorem dX5_talkOnce_0 : decode cX5_talkOnce 0 = .ok (.aload_n 0, 1) := by decide +kernel
theorem dX5_talkOnce_1 : decode cX5_talkOnce 1 = .ok (.aload_n 1, 1) := by decide +kernel
theorem dX5_talkOnce_2 : decode cX5_talkOnce 2 = .ok (.getfield 36, 3) := by decide +kernel
theorem dX5_talkOnce_5 : decode cX5_talkOnce 5 = .ok (.invokevirtual 41, 3) := by decide +kernel
theorem dX5_talkOnce_8 : decode cX5_talkOnce 8 = .ok (.istore_n 3, 1) := by decide +kernel
theorem dX5_talkOnce_9 : decode cX5_talkOnce 9 = .ok (.aload_n 0, 1) := by decide +kernel
theorem dX5_talkOnce_10 : decode cX5_talkOnce 10 = .ok (.iconst 4, 1) := by decide +kernel
theorem dX5_talkOnce_11 : decode cX5_talkOnce 11 = .ok (.invokevirtual 41, 3) := by decide +kernel
theorem dX5_talkOnce_14 : decode cX5_talkOnce 14 = .ok (.istore 4, 2) := by decide +kernel
theorem dX5_talkOnce_16 : decode cX5_talkOnce 16 = .ok (.aload_n 0, 1) := by decide +kernel
theorem dX5_talkOnce_17 : decode cX5_talkOnce 17 = .ok (.aload_n 1, 1) := by decide +kernel
theorem dX5_talkOnce_18 : decode cX5_talkOnce 18 = .ok (.getfield 36, 3) := by decide +kernel
theorem dX5_talkOnce_21 : decode cX5_talkOnce 21 = .ok (.invokevirtual 41, 3) := by decide +kernel
theorem dX5_talkOnce_24 : decode cX5_talkOnce 24 = .ok (.istore 5, 2) := by decide +kernel
theorem dX5_talkOnce_26 : decode cX5_talkOnce 26 = .ok (.iload 5, 2) := by decide +kernel
theorem dX5_talkOnce_28 : decode cX5_talkOnce 28 = .ok (.iload_n 3, 1) := by decide +kernel
theorem dX5_talkOnce_29 : decode cX5_talkOnce 29 = .ok (.if_icmp .ne 4, 3) := by decide +kernel
theorem dX5_talkOnce_32 : decode cX5_talkOnce 32 = .ok (.return_, 1) := by decide +kernel
theorem dX5_talkOnce_33 : decode cX5_talkOnce 33 = .ok (.aload_n 1, 1) := by decide +kernel
theorem dX5_talkOnce_34 : decode cX5_talkOnce 34 = .ok (.getfield 44, 3) := by decide +kernel
theorem dX5_talkOnce_37 : decode cX5_talkOnce 37 = .ok (.iload 5, 2) := by decide +kernel
theorem dX5_talkOnce_39 : decode cX5_talkOnce 39 = .ok (.iaload, 1) := by decide +kernel
theorem dX5_talkOnce_40 : decode cX5_talkOnce 40 = .ok (.aload_n 1, 1) := by decide +kernel
theorem dX5_talkOnce_41 : decode cX5_talkOnce 41 = .ok (.getfield 47, 3) := by decide +kernel
theorem dX5_talkOnce_44 : decode cX5_talkOnce 44 = .ok (.iload 4, 2) := by decide +kernel
theorem dX5_talkOnce_46 : decode cX5_talkOnce 46 = .ok (.iaload, 1) := by decide +kernel
theorem dX5_talkOnce_47 : decode cX5_talkOnce 47 = .ok (.aload_n 2, 1) := by decide +kernel
theorem dX5_talkOnce_48 : decode cX5_talkOnce 48 = .ok (.getfield 50, 3) := by decide +kernel
theorem dX5_talkOnce_51 : decode cX5_talkOnce 51 = .ok (.iload 5, 2) := by decide +kernel
theorem dX5_talkOnce_53 : decode cX5_talkOnce 53 = .ok (.iaload, 1) := by decide +kernel
theorem dX5_talkOnce_54 : decode cX5_talkOnce 54 = .ok (.aload_n 0, 1) := by decide +kernel
theorem dX5_talkOnce_55 : decode cX5_talkOnce 55 = .ok (.getfield 9, 3) := by decide +kernel
theorem dX5_talkOnce_58 : decode cX5_talkOnce 58 = .ok (.iload 5, 2) := by decide +kernel
theorem dX5_talkOnce_60 : decode cX5_talkOnce 60 = .ok (.iaload, 1) := by decide +kernel
theorem dX5_talkOnce_61 : decode cX5_talkOnce 61 = .ok (.invokestatic 53, 3) := by decide +kernel
theorem dX5_talkOnce_64 : decode cX5_talkOnce 64 = .ok (.istore 6, 2) := by decide +kernel
theorem dX5_talkOnce_66 : decode cX5_talkOnce 66 = .ok (.iload 6, 2) := by decide +kernel
theorem dX5_talkOnce_68 : decode cX5_talkOnce 68 = .ok (.iconst (-1), 1) := by decide +kernel
theorem dX5_talkOnce_69 : decode cX5_talkOnce 69 = .ok (.if_icmp .ne 4, 3) := by decide +kernel
theorem dX5_talkOnce_72 : decode cX5_talkOnce 72 = .ok (.return_, 1) := by decide +kernel
theorem dX5_talkOnce_73 : decode cX5_talkOnce 73 = .ok (.aload_n 0, 1) := by decide +kernel
theorem dX5_talkOnce_74 : decode cX5_talkOnce 74 = .ok (.getfield 9, 3) := by decide +kernel
theorem dX5_talkOnce_77 : decode cX5_talkOnce 77 = .ok (.iload 5, 2) := by decide +kernel
theorem dX5_talkOnce_79 : decode cX5_talkOnce 79 = .ok (.dup2, 1) := by decide +kernel
theorem dX5_talkOnce_80 : decode cX5_talkOnce 80 = .ok (.iaload, 1) := by decide +kernel
theorem dX5_talkOnce_81 : decode cX5_talkOnce 81 = .ok (.iconst 1, 1) := by decide +kernel
theorem dX5_talkOnce_82 : decode cX5_talkOnce 82 = .ok (.iload 6, 2) := by decide +kernel
theorem dX5_talkOnce_84 : decode cX5_talkOnce 84 = .ok (.ishl, 1) := by decide +kernel
theorem dX5_talkOnce_85 : decode cX5_talkOnce 85 = .ok (.ior, 1) := by decide +kernel
theorem dX5_talkOnce_86 : decode cX5_talkOnce 86 = .ok (.iastore, 1) := by decide +kernel
theorem dX5_talkOnce_87 : decode cX5_talkOnce 87 = .ok (.aload_n 0, 1) := by decide +kernel
theorem dX5_talkOnce_88 : decode cX5_talkOnce 88 = .ok (.dup, 1) := by decide +kernel
theorem dX5_talkOnce_89 : decode cX5_talkOnce 89 = .ok (.getfield 19, 3) := by decide +kernel
theorem dX5_talkOnce_92 : decode cX5_talkOnce 92 = .ok (.iconst 1, 1) := by decide +kernel
theorem dX5_talkOnce_93 : decode cX5_talkOnce 93 = .ok (.iadd, 1) := by decide +kernel
theorem dX5_talkOnce_94 : decode cX5_talkOnce 94 = .ok (.putfield 19, 3) := by decide +kernel
theorem dX5_talkOnce_97 : decode cX5_talkOnce 97 = .ok (.aload_n 0, 1) := by decide +kernel
theorem dX5_talkOnce_98 : decode cX5_talkOnce 98 = .ok (.dup, 1) := by decide +kernel
theorem dX5_talkOnce_99 : decode cX5_talkOnce 99 = .ok (.getfield 23, 3) := by decide +kernel
theorem dX5_talkOnce_102 : decode cX5_talkOnce 102 = .ok (.iload 6, 2) := by decide +kernel
theorem dX5_talkOnce_104 : decode cX5_talkOnce 104 = .ok (.aload_n 2, 1) := by decide +kernel
theorem dX5_talkOnce_105 : decode cX5_talkOnce 105 = .ok (.getfield 50, 3) := by decide +kernel
theorem dX5_talkOnce_108 : decode cX5_talkOnce 108 = .ok (.iload_n 3, 1) := by decide +kernel
theorem dX5_talkOnce_109 : decode cX5_talkOnce 109 = .ok (.iaload, 1) := by decide +kernel
theorem dX5_talkOnce_110 : decode cX5_talkOnce 110 = .ok (.if_icmp .ne 7, 3) := by decide +kernel
theorem dX5_talkOnce_113 : decode cX5_talkOnce 113 = .ok (.iconst 1, 1) := by decide +kernel
theorem dX5_talkOnce_114 : decode cX5_talkOnce 114 = .ok (.goto 4, 3) := by decide +kernel
theorem dX5_talkOnce_117 : decode cX5_talkOnce 117 = .ok (.iconst 0, 1) := by decide +kernel
theorem dX5_talkOnce_118 : decode cX5_talkOnce 118 = .ok (.iadd, 1) := by decide +kernel
theorem dX5_talkOnce_119 : decode cX5_talkOnce 119 = .ok (.putfield 23, 3) := by decide +kernel
theorem dX5_talkOnce_122 : decode cX5_talkOnce 122 = .ok (.return_, 1) := by decide +kernel
theorem dX5_draw_0 : decode cX5_draw 0 = .ok (.aload_n 0, 1) := by decide +kernel
theorem dX5_draw_1 : decode cX5_draw 1 = .ok (.ldc2_w 57, 3) := by decide +kernel
theorem dX5_draw_4 : decode cX5_draw 4 = .ok (.aload_n 0, 1) := by decide +kernel
theorem dX5_draw_5 : decode cX5_draw 5 = .ok (.getfield 15, 3) := by decide +kernel
theorem dX5_draw_8 : decode cX5_draw 8 = .ok (.lmul, 1) := by decide +kernel
theorem dX5_draw_9 : decode cX5_draw 9 = .ok (.ldc2_w 59, 3) := by decide +kernel
theorem dX5_draw_12 : decode cX5_draw 12 = .ok (.ladd, 1) := by decide +kernel
theorem dX5_draw_13 : decode cX5_draw 13 = .ok (.ldc2_w 61, 3) := by decide +kernel
theorem dX5_draw_16 : decode cX5_draw 16 = .ok (.lrem, 1) := by decide +kernel
theorem dX5_draw_17 : decode cX5_draw 17 = .ok (.putfield 15, 3) := by decide +kernel
theorem dX5_draw_20 : decode cX5_draw 20 = .ok (.iload_n 1, 1) := by decide +kernel
theorem dX5_draw_21 : decode cX5_draw 21 = .ok (.iconst 1, 1) := by decide +kernel
theorem dX5_draw_22 : decode cX5_draw 22 = .ok (.if_icmp .ge 7, 3) := by decide +kernel
theorem dX5_draw_25 : decode cX5_draw 25 = .ok (.iconst 0, 1) := by decide +kernel
theorem dX5_draw_26 : decode cX5_draw 26 = .ok (.goto 15, 3) := by decide +kernel
theorem dX5_draw_29 : decode cX5_draw 29 = .ok (.aload_n 0, 1) := by decide +kernel
theorem dX5_draw_30 : decode cX5_draw 30 = .ok (.getfield 15, 3) := by decide +kernel
theorem dX5_draw_33 : decode cX5_draw 33 = .ok (.ldc2_w 63, 3) := by decide +kernel
theorem dX5_draw_36 : decode cX5_draw 36 = .ok (.ldiv, 1) := by decide +kernel
theorem dX5_draw_37 : decode cX5_draw 37 = .ok (.iload_n 1, 1) := by decide +kernel
theorem dX5_draw_38 : decode cX5_draw 38 = .ok (.i2l, 1) := by decide +kernel
theorem dX5_draw_39 : decode cX5_draw 39 = .ok (.lrem, 1) := by decide +kernel
theorem dX5_draw_40 : decode cX5_draw 40 = .ok (.l2i, 1) := by decide +kernel
theorem dX5_draw_41 : decode cX5_draw 41 = .ok (.ireturn, 1) := by decide +kernel
theorem dX6_init_0 : decode cX6_init 0 = .ok (.aload_n 0, 1) := by decide +kernel
theorem dX6_init_1 : decode cX6_init 1 = .ok (.invokespecial 1, 3) := by decide +kernel
theorem dX6_init_4 : decode cX6_init 4 = .ok (.aload_n 0, 1) := by decide +kernel
theorem dX6_init_5 : decode cX6_init 5 = .ok (.new 7, 3) := by decide +kernel
theorem dX6_init_8 : decode cX6_init 8 = .ok (.dup, 1) := by decide +kernel
theorem dX6_init_9 : decode cX6_init 9 = .ok (.invokespecial 9, 3) := by decide +kernel
theorem dX6_init_12 : decode cX6_init 12 = .ok (.putfield 10, 3) := by decide +kernel
theorem dX6_init_15 : decode cX6_init 15 = .ok (.aload_n 0, 1) := by decide +kernel
theorem dX6_init_16 : decode cX6_init 16 = .ok (.new 16, 3) := by decide +kernel
theorem dX6_init_19 : decode cX6_init 19 = .ok (.dup, 1) := by decide +kernel
theorem dX6_init_20 : decode cX6_init 20 = .ok (.invokespecial 18, 3) := by decide +kernel
theorem dX6_init_23 : decode cX6_init 23 = .ok (.putfield 19, 3) := by decide +kernel
theorem dX6_init_26 : decode cX6_init 26 = .ok (.aload_n 0, 1) := by decide +kernel
theorem dX6_init_27 : decode cX6_init 27 = .ok (.new 23, 3) := by decide +kernel
theorem dX6_init_30 : decode cX6_init 30 = .ok (.dup, 1) := by decide +kernel
theorem dX6_init_31 : decode cX6_init 31 = .ok (.invokespecial 25, 3) := by decide +kernel
theorem dX6_init_34 : decode cX6_init 34 = .ok (.putfield 26, 3) := by decide +kernel
theorem dX6_init_37 : decode cX6_init 37 = .ok (.aload_n 0, 1) := by decide +kernel
theorem dX6_init_38 : decode cX6_init 38 = .ok (.new 30, 3) := by decide +kernel
theorem dX6_init_41 : decode cX6_init 41 = .ok (.dup, 1) := by decide +kernel
theorem dX6_init_42 : decode cX6_init 42 = .ok (.invokespecial 32, 3) := by decide +kernel
theorem dX6_init_45 : decode cX6_init 45 = .ok (.putfield 33, 3) := by decide +kernel
theorem dX6_init_48 : decode cX6_init 48 = .ok (.aload_n 0, 1) := by decide +kernel
theorem dX6_init_49 : decode cX6_init 49 = .ok (.new 30, 3) := by decide +kernel
theorem dX6_init_52 : decode cX6_init 52 = .ok (.dup, 1) := by decide +kernel
theorem dX6_init_53 : decode cX6_init 53 = .ok (.invokespecial 32, 3) := by decide +kernel
theorem dX6_init_56 : decode cX6_init 56 = .ok (.putfield 37, 3) := by decide +kernel
theorem dX6_init_59 : decode cX6_init 59 = .ok (.aload_n 0, 1) := by decide +kernel
theorem dX6_init_60 : decode cX6_init 60 = .ok (.new 40, 3) := by decide +kernel
theorem dX6_init_63 : decode cX6_init 63 = .ok (.dup, 1) := by decide +kernel
theorem dX6_init_64 : decode cX6_init 64 = .ok (.invokespecial 42, 3) := by decide +kernel
theorem dX6_init_67 : decode cX6_init 67 = .ok (.putfield 43, 3) := by decide +kernel
theorem dX6_init_70 : decode cX6_init 70 = .ok (.aload_n 0, 1) := by decide +kernel
theorem dX6_init_71 : decode cX6_init 71 = .ok (.new 47, 3) := by decide +kernel
theorem dX6_init_74 : decode cX6_init 74 = .ok (.dup, 1) := by decide +kernel
theorem dX6_init_75 : decode cX6_init 75 = .ok (.invokespecial 49, 3) := by decide +kernel
theorem dX6_init_78 : decode cX6_init 78 = .ok (.putfield 50, 3) := by decide +kernel
theorem dX6_init_81 : decode cX6_init 81 = .ok (.aload_n 0, 1) := by decide +kernel
theorem dX6_init_82 : decode cX6_init 82 = .ok (.iconst 0, 1) := by decide +kernel
theorem dX6_init_83 : decode cX6_init 83 = .ok (.putfield 54, 3) := by decide +kernel
theorem dX6_init_86 : decode cX6_init 86 = .ok (.aload_n 0, 1) := by decide +kernel
theorem dX6_init_87 : decode cX6_init 87 = .ok (.iconst 0, 1) := by decide +kernel
theorem dX6_init_88 : decode cX6_init 88 = .ok (.putfield 58, 3) := by decide +kernel
theorem dX6_init_91 : decode cX6_init 91 = .ok (.return_, 1) := by decide +kernel
theorem dX6_letter_0 : decode cX6_letter 0 = .ok (.iload_n 1, 1) := by decide +kernel
theorem dX6_letter_1 : decode cX6_letter 1 = .ok (.iconst 1, 1) := by decide +kernel
theorem dX6_letter_2 : decode cX6_letter 2 = .ok (.if_icmp .lt 9, 3) := by decide +kernel
theorem dX6_letter_5 : decode cX6_letter 5 = .ok (.iload_n 1, 1) := by decide +kernel
theorem dX6_letter_6 : decode cX6_letter 6 = .ok (.bipush 126, 2) := by decide +kernel
theorem dX6_letter_8 : decode cX6_letter 8 = .ok (.if_icmp .le 6, 3) := by decide +kernel
theorem dX6_letter_11 : decode cX6_letter 11 = .ok (.bipush (-102), 2) := by decide +kernel
theorem dX6_letter_13 : decode cX6_letter 13 = .ok (.ireturn, 1) := by decide +kernel
theorem dX6_letter_14 : decode cX6_letter 14 = .ok (.aload_n 0, 1) := by decide +kernel
theorem dX6_letter_15 : decode cX6_letter 15 = .ok (.getfield 10, 3) := by decide +kernel
theorem dX6_letter_18 : decode cX6_letter 18 = .ok (.getfield 62, 3) := by decide +kernel
theorem dX6_letter_21 : decode cX6_letter 21 = .ok (.bipush 30, 2) := by decide +kernel
theorem dX6_letter_23 : decode cX6_letter 23 = .ok (.if_icmp .lt 6, 3) := by decide +kernel
theorem dX6_letter_26 : decode cX6_letter 26 = .ok (.bipush (-104), 2) := by decide +kernel
theorem dX6_letter_28 : decode cX6_letter 28 = .ok (.ireturn, 1) := by decide +kernel
theorem dX6_letter_29 : decode cX6_letter 29 = .ok (.aload_n 0, 1) := by decide +kernel
theorem dX6_letter_30 : decode cX6_letter 30 = .ok (.getfield 10, 3) := by decide +kernel
theorem dX6_letter_33 : decode cX6_letter 33 = .ok (.iload_n 1, 1) := by decide +kernel
theorem dX6_letter_34 : decode cX6_letter 34 = .ok (.invokevirtual 65, 3) := by decide +kernel
theorem dX6_letter_37 : decode cX6_letter 37 = .ok (.aload_n 0, 1) := by decide +kernel
theorem dX6_letter_38 : decode cX6_letter 38 = .ok (.getfield 10, 3) := by decide +kernel
theorem dX6_letter_41 : decode cX6_letter 41 = .ok (.getfield 62, 3) := by decide +kernel
theorem dX6_letter_44 : decode cX6_letter 44 = .ok (.ireturn, 1) := by decide +kernel
theorem dX6_blank_0 : decode cX6_blank 0 = .ok (.aload_n 0, 1) := by decide +kernel
theorem dX6_blank_1 : decode cX6_blank 1 = .ok (.getfield 10, 3) := by decide +kernel
theorem dX6_blank_4 : decode cX6_blank 4 = .ok (.getfield 62, 3) := by decide +kernel
theorem dX6_blank_7 : decode cX6_blank 7 = .ok (.istore_n 1, 1) := by decide +kernel
theorem dX6_blank_8 : decode cX6_blank 8 = .ok (.aload_n 0, 1) := by decide +kernel
theorem dX6_blank_9 : decode cX6_blank 9 = .ok (.getfield 10, 3) := by decide +kernel
theorem dX6_blank_12 : decode cX6_blank 12 = .ok (.iconst 0, 1) := by decide +kernel
theorem dX6_blank_13 : decode cX6_blank 13 = .ok (.putfield 62, 3) := by decide +kernel
theorem dX6_blank_16 : decode cX6_blank 16 = .ok (.iload_n 1, 1) := by decide +kernel
theorem dX6_blank_17 : decode cX6_blank 17 = .ok (.ireturn, 1) := by decide +kernel
theorem dX6_fault_0 : decode cX6_fault 0 = .ok (.aload_n 0, 1) := by decide +kernel
theorem dX6_fault_1 : decode cX6_fault 1 = .ok (.getfield 19, 3) := by decide +kernel
theorem dX6_fault_4 : decode cX6_fault 4 = .ok (.aload_n 0, 1) := by decide +kernel
theorem dX6_fault_5 : decode cX6_fault 5 = .ok (.getfield 10, 3) := by decide +kernel
theorem dX6_fault_8 : decode cX6_fault 8 = .ok (.invokevirtual 69, 3) := by decide +kernel
theorem dX6_fault_11 : decode cX6_fault 11 = .ok (.ireturn, 1) := by decide +kernel
theorem dX6_room_0 : decode cX6_room 0 = .ok (.aload_n 0, 1) := by decide +kernel
theorem dX6_room_1 : decode cX6_room 1 = .ok (.getfield 19, 3) := by decide +kernel
theorem dX6_room_4 : decode cX6_room 4 = .ok (.aload_n 0, 1) := by decide +kernel
theorem dX6_room_5 : decode cX6_room 5 = .ok (.getfield 10, 3) := by decide +kernel
theorem dX6_room_8 : decode cX6_room 8 = .ok (.invokevirtual 69, 3) := by decide +kernel
theorem dX6_room_11 : decode cX6_room 11 = .ok (.aload_n 0, 1) := by decide +kernel
theorem dX6_room_12 : decode cX6_room 12 = .ok (.getfield 10, 3) := by decide +kernel
theorem dX6_room_15 : decode cX6_room 15 = .ok (.getfield 62, 3) := by decide +kernel
theorem dX6_room_18 : decode cX6_room 18 = .ok (.if_icmp .lt 13, 3) := by decide +kernel
theorem dX6_room_21 : decode cX6_room 21 = .ok (.aload_n 0, 1) := by decide +kernel
theorem dX6_room_22 : decode cX6_room 22 = .ok (.getfield 19, 3) := by decide +kernel
theorem dX6_room_25 : decode cX6_room 25 = .ok (.invokevirtual 73, 3) := by decide +kernel
theorem dX6_room_28 : decode cX6_room 28 = .ok (.ifCond .ne 6, 3) := by decide +kernel
theorem dX6_room_31 : decode cX6_room 31 = .ok (.bipush (-103), 2) := by decide +kernel
theorem dX6_room_33 : decode cX6_room 33 = .ok (.ireturn, 1) := by decide +kernel
theorem dX6_room_34 : decode cX6_room 34 = .ok (.aload_n 0, 1) := by decide +kernel
theorem dX6_room_35 : decode cX6_room 35 = .ok (.getfield 26, 3) := by decide +kernel
theorem dX6_room_38 : decode cX6_room 38 = .ok (.aload_n 0, 1) := by decide +kernel
theorem dX6_room_39 : decode cX6_room 39 = .ok (.getfield 19, 3) := by decide +kernel
theorem dX6_room_42 : decode cX6_room 42 = .ok (.getfield 77, 3) := by decide +kernel
theorem dX6_room_45 : decode cX6_room 45 = .ok (.invokevirtual 80, 3) := by decide +kernel
theorem dX6_room_48 : decode cX6_room 48 = .ok (.aload_n 0, 1) := by decide +kernel
theorem dX6_room_49 : decode cX6_room 49 = .ok (.getfield 33, 3) := by decide +kernel
theorem dX6_room_52 : decode cX6_room 52 = .ok (.aload_n 0, 1) := by decide +kernel
theorem dX6_room_53 : decode cX6_room 53 = .ok (.getfield 26, 3) := by decide +kernel
theorem dX6_room_56 : decode cX6_room 56 = .ok (.getfield 84, 3) := by decide +kernel
theorem dX6_room_59 : decode cX6_room 59 = .ok (.invokevirtual 88, 3) := by decide +kernel
theorem dX6_room_62 : decode cX6_room 62 = .ok (.aload_n 0, 1) := by decide +kernel
theorem dX6_room_63 : decode cX6_room 63 = .ok (.iconst 0, 1) := by decide +kernel
theorem dX6_room_64 : decode cX6_room 64 = .ok (.putfield 54, 3) := by decide +kernel
theorem dX6_room_67 : decode cX6_room 67 = .ok (.aload_n 0, 1) := by decide +kernel
theorem dX6_room_68 : decode cX6_room 68 = .ok (.dup, 1) := by decide +kernel
theorem dX6_room_69 : decode cX6_room 69 = .ok (.getfield 58, 3) := by decide +kernel
theorem dX6_room_72 : decode cX6_room 72 = .ok (.iconst 1, 1) := by decide +kernel
theorem dX6_room_73 : decode cX6_room 73 = .ok (.iadd, 1) := by decide +kernel
theorem dX6_room_74 : decode cX6_room 74 = .ok (.putfield 58, 3) := by decide +kernel
theorem dX6_room_77 : decode cX6_room 77 = .ok (.aload_n 0, 1) := by decide +kernel
theorem dX6_room_78 : decode cX6_room 78 = .ok (.getfield 10, 3) := by decide +kernel
theorem dX6_room_81 : decode cX6_room 81 = .ok (.iconst 0, 1) := by decide +kernel
theorem dX6_room_82 : decode cX6_room 82 = .ok (.putfield 62, 3) := by decide +kernel
theorem dX6_room_85 : decode cX6_room 85 = .ok (.aload_n 0, 1) := by decide +kernel
theorem dX6_room_86 : decode cX6_room 86 = .ok (.getfield 26, 3) := by decide +kernel
theorem dX6_room_89 : decode cX6_room 89 = .ok (.getfield 92, 3) := by decide +kernel
theorem dX6_room_92 : decode cX6_room 92 = .ok (.ireturn, 1) := by decide +kernel
theorem dX6_fits_0 : decode cX6_fits 0 = .ok (.aload_n 0, 1) := by decide +kernel
theorem dX6_fits_1 : decode cX6_fits 1 = .ok (.getfield 26, 3) := by decide +kernel
theorem dX6_fits_4 : decode cX6_fits 4 = .ok (.getfield 92, 3) := by decide +kernel
theorem dX6_fits_7 : decode cX6_fits 7 = .ok (.ifCond .le 22, 3) := by decide +kernel
theorem dX6_fits_10 : decode cX6_fits 10 = .ok (.iload_n 1, 1) := by decide +kernel
theorem dX6_fits_11 : decode cX6_fits 11 = .ok (.invokestatic 95, 3) := by decide +kernel
theorem dX6_fits_14 : decode cX6_fits 14 = .ok (.ifCond .eq 15, 3) := by decide +kernel
theorem dX6_fits_17 : decode cX6_fits 17 = .ok (.aload_n 0, 1) := by decide +kernel
theorem dX6_fits_18 : decode cX6_fits 18 = .ok (.getfield 26, 3) := by decide +kernel
theorem dX6_fits_21 : decode cX6_fits 21 = .ok (.getfield 99, 3) := by decide +kernel
theorem dX6_fits_24 : decode cX6_fits 24 = .ok (.iload_n 1, 1) := by decide +kernel
theorem dX6_fits_25 : decode cX6_fits 25 = .ok (.iaload, 1) := by decide +kernel
theorem dX6_fits_26 : decode cX6_fits 26 = .ok (.goto 5, 3) := by decide +kernel
theorem dX6_fits_29 : decode cX6_fits 29 = .ok (.bipush (-101), 2) := by decide +kernel
theorem dX6_fits_31 : decode cX6_fits 31 = .ok (.ireturn, 1) := by decide +kernel
theorem dX6_about_0 : decode cX6_about 0 = .ok (.aload_n 0, 1) := by decide +kernel
theorem dX6_about_1 : decode cX6_about 1 = .ok (.iload_n 1, 1) := by decide +kernel
theorem dX6_about_2 : decode cX6_about 2 = .ok (.invokevirtual 102, 3) := by decide +kernel
theorem dX6_about_5 : decode cX6_about 5 = .ok (.ifCond .ne 6, 3) := by decide +kernel
theorem dX6_about_8 : decode cX6_about 8 = .ok (.bipush (-101), 2) := by decide +kernel
theorem dX6_about_10 : decode cX6_about 10 = .ok (.ireturn, 1) := by decide +kernel
theorem dX6_about_11 : decode cX6_about 11 = .ok (.iload_n 2, 1) := by decide +kernel
theorem dX6_about_12 : decode cX6_about 12 = .ok (.tableswitch 131 0 8 #[52, 62, 72, 81, 90, 99, 108, 114, 120], 52) := by decide +kernel
theorem dX6_about_64 : decode cX6_about 64 = .ok (.aload_n 0, 1) := by decide +kernel
theorem dX6_about_65 : decode cX6_about 65 = .ok (.getfield 26, 3) := by decide +kernel
theorem dX6_about_68 : decode cX6_about 68 = .ok (.getfield 105, 3) := by decide +kernel
theorem dX6_about_71 : decode cX6_about 71 = .ok (.iload_n 1, 1) := by decide +kernel
theorem dX6_about_72 : decode cX6_about 72 = .ok (.iaload, 1) := by decide +kernel
theorem dX6_about_73 : decode cX6_about 73 = .ok (.ireturn, 1) := by decide +kernel
theorem dX6_about_74 : decode cX6_about 74 = .ok (.aload_n 0, 1) := by decide +kernel
theorem dX6_about_75 : decode cX6_about 75 = .ok (.getfield 33, 3) := by decide +kernel
theorem dX6_about_78 : decode cX6_about 78 = .ok (.getfield 108, 3) := by decide +kernel
theorem dX6_about_81 : decode cX6_about 81 = .ok (.iload_n 1, 1) := by decide +kernel
theorem dX6_about_82 : decode cX6_about 82 = .ok (.iaload, 1) := by decide +kernel
theorem dX6_about_83 : decode cX6_about 83 = .ok (.ireturn, 1) := by decide +kernel
theorem dX6_about_84 : decode cX6_about 84 = .ok (.aload_n 0, 1) := by decide +kernel
theorem dX6_about_85 : decode cX6_about 85 = .ok (.getfield 33, 3) := by decide +kernel
theorem dX6_about_88 : decode cX6_about 88 = .ok (.iload_n 1, 1) := by decide +kernel
theorem dX6_about_89 : decode cX6_about 89 = .ok (.invokevirtual 109, 3) := by decide +kernel
theorem dX6_about_92 : decode cX6_about 92 = .ok (.ireturn, 1) := by decide +kernel
theorem dX6_about_93 : decode cX6_about 93 = .ok (.aload_n 0, 1) := by decide +kernel
theorem dX6_about_94 : decode cX6_about 94 = .ok (.getfield 33, 3) := by decide +kernel
theorem dX6_about_97 : decode cX6_about 97 = .ok (.iload_n 1, 1) := by decide +kernel
theorem dX6_about_98 : decode cX6_about 98 = .ok (.invokevirtual 113, 3) := by decide +kernel
theorem dX6_about_101 : decode cX6_about 101 = .ok (.ireturn, 1) := by decide +kernel
theorem dX6_about_102 : decode cX6_about 102 = .ok (.aload_n 0, 1) := by decide +kernel
theorem dX6_about_103 : decode cX6_about 103 = .ok (.getfield 33, 3) := by decide +kernel
theorem dX6_about_106 : decode cX6_about 106 = .ok (.iload_n 1, 1) := by decide +kernel
theorem dX6_about_107 : decode cX6_about 107 = .ok (.invokevirtual 116, 3) := by decide +kernel
theorem dX6_about_110 : decode cX6_about 110 = .ok (.ireturn, 1) := by decide +kernel
theorem dX6_about_111 : decode cX6_about 111 = .ok (.aload_n 0, 1) := by decide +kernel
theorem dX6_about_112 : decode cX6_about 112 = .ok (.getfield 33, 3) := by decide +kernel
theorem dX6_about_115 : decode cX6_about 115 = .ok (.iload_n 1, 1) := by decide +kernel
theorem dX6_about_116 : decode cX6_about 116 = .ok (.invokevirtual 119, 3) := by decide +kernel
theorem dX6_about_119 : decode cX6_about 119 = .ok (.ireturn, 1) := by decide +kernel
theorem dX6_about_120 : decode cX6_about 120 = .ok (.aload_n 0, 1) := by decide +kernel
theorem dX6_about_121 : decode cX6_about 121 = .ok (.iload_n 1, 1) := by decide +kernel
theorem dX6_about_122 : decode cX6_about 122 = .ok (.invokevirtual 122, 3) := by decide +kernel
theorem dX6_about_125 : decode cX6_about 125 = .ok (.ireturn, 1) := by decide +kernel
theorem dX6_about_126 : decode cX6_about 126 = .ok (.aload_n 0, 1) := by decide +kernel
theorem dX6_about_127 : decode cX6_about 127 = .ok (.iload_n 1, 1) := by decide +kernel
theorem dX6_about_128 : decode cX6_about 128 = .ok (.invokevirtual 125, 3) := by decide +kernel
theorem dX6_about_131 : decode cX6_about 131 = .ok (.ireturn, 1) := by decide +kernel
theorem dX6_about_132 : decode cX6_about 132 = .ok (.aload_n 0, 1) := by decide +kernel
theorem dX6_about_133 : decode cX6_about 133 = .ok (.iload_n 1, 1) := by decide +kernel
theorem dX6_about_134 : decode cX6_about 134 = .ok (.aload_n 0, 1) := by decide +kernel
theorem dX6_about_135 : decode cX6_about 135 = .ok (.iload_n 1, 1) := by decide +kernel
theorem dX6_about_136 : decode cX6_about 136 = .ok (.invokevirtual 125, 3) := by decide +kernel
theorem dX6_about_139 : decode cX6_about 139 = .ok (.invokevirtual 128, 3) := by decide +kernel
theorem dX6_about_142 : decode cX6_about 142 = .ok (.ireturn, 1) := by decide +kernel
theorem dX6_about_143 : decode cX6_about 143 = .ok (.bipush (-102), 2) := by decide +kernel
theorem dX6_about_145 : decode cX6_about 145 = .ok (.ireturn, 1) := by decide +kernel
theorem dX6_as_0 : decode cX6_as 0 = .ok (.aload_n 0, 1) := by decide +kernel
theorem dX6_as_1 : decode cX6_as 1 = .ok (.iload_n 1, 1) := by decide +kernel
theorem dX6_as_2 : decode cX6_as 2 = .ok (.invokevirtual 102, 3) := by decide +kernel
theorem dX6_as_5 : decode cX6_as 5 = .ok (.ifCond .ne 6, 3) := by decide +kernel
theorem dX6_as_8 : decode cX6_as 8 = .ok (.bipush (-101), 2) := by decide +kernel
theorem dX6_as_10 : decode cX6_as 10 = .ok (.ireturn, 1) := by decide +kernel
theorem dX6_as_11 : decode cX6_as 11 = .ok (.iload_n 2, 1) := by decide +kernel
theorem dX6_as_12 : decode cX6_as 12 = .ok (.ifCond .lt 8, 3) := by decide +kernel
theorem dX6_as_15 : decode cX6_as 15 = .ok (.iload_n 2, 1) := by decide +kernel
theorem dX6_as_16 : decode cX6_as 16 = .ok (.iconst 5, 1) := by decide +kernel
theorem dX6_as_17 : decode cX6_as 17 = .ok (.if_icmp .lt 6, 3) := by decide +kernel
theorem dX6_as_20 : decode cX6_as 20 = .ok (.bipush (-102), 2) := by decide +kernel
theorem dX6_as_22 : decode cX6_as 22 = .ok (.ireturn, 1) := by decide +kernel
theorem dX6_as_23 : decode cX6_as 23 = .ok (.aload_n 0, 1) := by decide +kernel
theorem dX6_as_24 : decode cX6_as 24 = .ok (.getfield 26, 3) := by decide +kernel
theorem dX6_as_27 : decode cX6_as 27 = .ok (.getfield 105, 3) := by decide +kernel
theorem dX6_as_30 : decode cX6_as 30 = .ok (.iload_n 1, 1) := by decide +kernel
theorem dX6_as_31 : decode cX6_as 31 = .ok (.iaload, 1) := by decide +kernel
theorem dX6_as_32 : decode cX6_as 32 = .ok (.iload_n 2, 1) := by decide +kernel
theorem dX6_as_33 : decode cX6_as 33 = .ok (.invokestatic 132, 3) := by decide +kernel
theorem dX6_as_36 : decode cX6_as 36 = .ok (.ifCond .eq 7, 3) := by decide +kernel
theorem dX6_as_39 : decode cX6_as 39 = .ok (.iload_n 1, 1) := by decide +kernel
theorem dX6_as_40 : decode cX6_as 40 = .ok (.goto 4, 3) := by decide +kernel
theorem dX6_as_43 : decode cX6_as 43 = .ok (.iconst (-1), 1) := by decide +kernel
theorem dX6_as_44 : decode cX6_as 44 = .ok (.ireturn, 1) := by decide +kernel
theorem dX6_want_0 : decode cX6_want 0 = .ok (.aload_n 0, 1) := by decide +kernel
theorem dX6_want_1 : decode cX6_want 1 = .ok (.iload_n 1, 1) := by decide +kernel
theorem dX6_want_2 : decode cX6_want 2 = .ok (.invokevirtual 102, 3) := by decide +kernel
theorem dX6_want_5 : decode cX6_want 5 = .ok (.ifCond .ne 6, 3) := by decide +kernel
theorem dX6_want_8 : decode cX6_want 8 = .ok (.bipush (-101), 2) := by decide +kernel
theorem dX6_want_10 : decode cX6_want 10 = .ok (.ireturn, 1) := by decide +kernel
theorem dX6_want_11 : decode cX6_want 11 = .ok (.iload_n 2, 1) := by decide +kernel
theorem dX6_want_12 : decode cX6_want 12 = .ok (.invokestatic 136, 3) := by decide +kernel
theorem dX6_want_15 : decode cX6_want 15 = .ok (.ifCond .ne 6, 3) := by decide +kernel
theorem dX6_want_18 : decode cX6_want 18 = .ok (.bipush (-102), 2) := by decide +kernel
theorem dX6_want_20 : decode cX6_want 20 = .ok (.ireturn, 1) := by decide +kernel
theorem dX6_want_21 : decode cX6_want 21 = .ok (.aload_n 0, 1) := by decide +kernel
theorem dX6_want_22 : decode cX6_want 22 = .ok (.getfield 33, 3) := by decide +kernel
theorem dX6_want_25 : decode cX6_want 25 = .ok (.getfield 108, 3) := by decide +kernel
theorem dX6_want_28 : decode cX6_want 28 = .ok (.iload_n 1, 1) := by decide +kernel
theorem dX6_want_29 : decode cX6_want 29 = .ok (.iaload, 1) := by decide +kernel
theorem dX6_want_30 : decode cX6_want 30 = .ok (.istore_n 3, 1) := by decide +kernel
theorem dX6_want_31 : decode cX6_want 31 = .ok (.aload_n 0, 1) := by decide +kernel
theorem dX6_want_32 : decode cX6_want 32 = .ok (.getfield 33, 3) := by decide +kernel
theorem dX6_want_35 : decode cX6_want 35 = .ok (.getfield 108, 3) := by decide +kernel
theorem dX6_want_38 : decode cX6_want 38 = .ok (.iload_n 1, 1) := by decide +kernel
theorem dX6_want_39 : decode cX6_want 39 = .ok (.iload_n 2, 1) := by decide +kernel
theorem dX6_want_40 : decode cX6_want 40 = .ok (.iastore, 1) := by decide +kernel
theorem dX6_want_41 : decode cX6_want 41 = .ok (.aload_n 0, 1) := by decide +kernel
theorem dX6_want_42 : decode cX6_want 42 = .ok (.getfield 33, 3) := by decide +kernel
theorem dX6_want_45 : decode cX6_want 45 = .ok (.dup, 1) := by decide +kernel
theorem dX6_want_46 : decode cX6_want 46 = .ok (.getfield 139, 3) := by decide +kernel
theorem dX6_want_49 : decode cX6_want 49 = .ok (.iconst 1, 1) := by decide +kernel
theorem dX6_want_50 : decode cX6_want 50 = .ok (.iadd, 1) := by decide +kernel
theorem dX6_want_51 : decode cX6_want 51 = .ok (.putfield 139, 3) := by decide +kernel
theorem dX6_want_54 : decode cX6_want 54 = .ok (.iload_n 3, 1) := by decide +kernel
theorem dX6_want_55 : decode cX6_want 55 = .ok (.ireturn, 1) := by decide +kernel
theorem dX6_would_0 : decode cX6_would 0 = .ok (.aload_n 0, 1) := by decide +kernel
theorem dX6_would_1 : decode cX6_would 1 = .ok (.iload_n 1, 1) := by decide +kernel
theorem dX6_would_2 : decode cX6_would 2 = .ok (.invokevirtual 102, 3) := by decide +kernel
theorem dX6_would_5 : decode cX6_would 5 = .ok (.ifCond .eq 10, 3) := by decide +kernel
theorem dX6_would_8 : decode cX6_would 8 = .ok (.iload_n 2, 1) := by decide +kernel
theorem dX6_would_9 : decode cX6_would 9 = .ok (.invokestatic 95, 3) := by decide +kernel
theorem dX6_would_12 : decode cX6_would 12 = .ok (.ifCond .ne 6, 3) := by decide +kernel
theorem dX6_would_15 : decode cX6_would 15 = .ok (.bipush (-101), 2) := by decide +kernel
theorem dX6_would_17 : decode cX6_would 17 = .ok (.ireturn, 1) := by decide +kernel
theorem dX6_would_18 : decode cX6_would 18 = .ok (.aload_n 0, 1) := by decide +kernel
theorem dX6_would_19 : decode cX6_would 19 = .ok (.iload_n 1, 1) := by decide +kernel
theorem dX6_would_20 : decode cX6_would 20 = .ok (.iload_n 2, 1) := by decide +kernel
theorem dX6_would_21 : decode cX6_would 21 = .ok (.invokevirtual 142, 3) := by decide +kernel
theorem dX6_would_24 : decode cX6_would 24 = .ok (.ireturn, 1) := by decide +kernel
theorem dX6_begin_0 : decode cX6_begin 0 = .ok (.aload_n 0, 1) := by decide +kernel
theorem dX6_begin_1 : decode cX6_begin 1 = .ok (.iload_n 1, 1) := by decide +kernel
theorem dX6_begin_2 : decode cX6_begin 2 = .ok (.invokevirtual 102, 3) := by decide +kernel
theorem dX6_begin_5 : decode cX6_begin 5 = .ok (.ifCond .eq 10, 3) := by decide +kernel
theorem dX6_begin_8 : decode cX6_begin 8 = .ok (.iload_n 2, 1) := by decide +kernel
theorem dX6_begin_9 : decode cX6_begin 9 = .ok (.invokestatic 95, 3) := by decide +kernel
theorem dX6_begin_12 : decode cX6_begin 12 = .ok (.ifCond .ne 6, 3) := by decide +kernel
theorem dX6_begin_15 : decode cX6_begin 15 = .ok (.bipush (-101), 2) := by decide +kernel
theorem dX6_begin_17 : decode cX6_begin 17 = .ok (.ireturn, 1) := by decide +kernel
theorem dX6_begin_18 : decode cX6_begin 18 = .ok (.aload_n 0, 1) := by decide +kernel
theorem dX6_begin_19 : decode cX6_begin 19 = .ok (.getfield 33, 3) := by decide +kernel
theorem dX6_begin_22 : decode cX6_begin 22 = .ok (.iload_n 1, 1) := by decide +kernel
theorem dX6_begin_23 : decode cX6_begin 23 = .ok (.invokevirtual 113, 3) := by decide +kernel
theorem dX6_begin_26 : decode cX6_begin 26 = .ok (.iconst (-1), 1) := by decide +kernel
theorem dX6_begin_27 : decode cX6_begin 27 = .ok (.if_icmp .eq 6, 3) := by decide +kernel
theorem dX6_begin_30 : decode cX6_begin 30 = .ok (.bipush (-103), 2) := by decide +kernel
theorem dX6_begin_32 : decode cX6_begin 32 = .ok (.ireturn, 1) := by decide +kernel
theorem dX6_begin_33 : decode cX6_begin 33 = .ok (.aload_n 0, 1) := by decide +kernel
theorem dX6_begin_34 : decode cX6_begin 34 = .ok (.getfield 33, 3) := by decide +kernel
theorem dX6_begin_37 : decode cX6_begin 37 = .ok (.getfield 145, 3) := by decide +kernel
theorem dX6_begin_40 : decode cX6_begin 40 = .ok (.bipush 8, 2) := by decide +kernel
theorem dX6_begin_42 : decode cX6_begin 42 = .ok (.if_icmp .lt 6, 3) := by decide +kernel
theorem dX6_begin_45 : decode cX6_begin 45 = .ok (.bipush (-104), 2) := by decide +kernel
theorem dX6_begin_47 : decode cX6_begin 47 = .ok (.ireturn, 1) := by decide +kernel
theorem dX6_begin_48 : decode cX6_begin 48 = .ok (.aload_n 0, 1) := by decide +kernel
theorem dX6_begin_49 : decode cX6_begin 49 = .ok (.getfield 33, 3) := by decide +kernel
theorem dX6_begin_52 : decode cX6_begin 52 = .ok (.iload_n 1, 1) := by decide +kernel
theorem dX6_begin_53 : decode cX6_begin 53 = .ok (.iload_n 2, 1) := by decide +kernel
theorem dX6_begin_54 : decode cX6_begin 54 = .ok (.invokevirtual 148, 3) := by decide +kernel
theorem dX6_begin_57 : decode cX6_begin 57 = .ok (.ireturn, 1) := by decide +kernel
theorem dX6_end_0 : decode cX6_end 0 = .ok (.aload_n 0, 1) := by decide +kernel
theorem dX6_end_1 : decode cX6_end 1 = .ok (.iload_n 1, 1) := by decide +kernel
theorem dX6_end_2 : decode cX6_end 2 = .ok (.invokevirtual 151, 3) := by decide +kernel
theorem dX6_end_5 : decode cX6_end 5 = .ok (.ifCond .eq 11, 3) := by decide +kernel
theorem dX6_end_8 : decode cX6_end 8 = .ok (.aload_n 0, 1) := by decide +kernel
theorem dX6_end_9 : decode cX6_end 9 = .ok (.iload_n 2, 1) := by decide +kernel
theorem dX6_end_10 : decode cX6_end 10 = .ok (.invokevirtual 102, 3) := by decide +kernel
theorem dX6_end_13 : decode cX6_end 13 = .ok (.ifCond .ne 6, 3) := by decide +kernel
theorem dX6_end_16 : decode cX6_end 16 = .ok (.bipush (-101), 2) := by decide +kernel
theorem dX6_end_18 : decode cX6_end 18 = .ok (.ireturn, 1) := by decide +kernel
theorem dX6_end_19 : decode cX6_end 19 = .ok (.aload_n 0, 1) := by decide +kernel
theorem dX6_end_20 : decode cX6_end 20 = .ok (.getfield 33, 3) := by decide +kernel
theorem dX6_end_23 : decode cX6_end 23 = .ok (.iload_n 1, 1) := by decide +kernel
theorem dX6_end_24 : decode cX6_end 24 = .ok (.invokevirtual 154, 3) := by decide +kernel
theorem dX6_end_27 : decode cX6_end 27 = .ok (.ifCond .eq 16, 3) := by decide +kernel
theorem dX6_end_30 : decode cX6_end 30 = .ok (.aload_n 0, 1) := by decide +kernel
theorem dX6_end_31 : decode cX6_end 31 = .ok (.getfield 33, 3) := by decide +kernel
theorem dX6_end_34 : decode cX6_end 34 = .ok (.getfield 157, 3) := by decide +kernel
theorem dX6_end_37 : decode cX6_end 37 = .ok (.iload_n 1, 1) := by decide +kernel
theorem dX6_end_38 : decode cX6_end 38 = .ok (.iaload, 1) := by decide +kernel
theorem dX6_end_39 : decode cX6_end 39 = .ok (.iload_n 2, 1) := by decide +kernel
theorem dX6_end_40 : decode cX6_end 40 = .ok (.if_icmp .ne 6, 3) := by decide +kernel
theorem dX6_end_43 : decode cX6_end 43 = .ok (.bipush (-103), 2) := by decide +kernel
theorem dX6_end_45 : decode cX6_end 45 = .ok (.ireturn, 1) := by decide +kernel
theorem dX6_end_46 : decode cX6_end 46 = .ok (.aload_n 0, 1) := by decide +kernel
theorem dX6_end_47 : decode cX6_end 47 = .ok (.iload_n 2, 1) := by decide +kernel
theorem dX6_end_48 : decode cX6_end 48 = .ok (.aload_n 0, 1) := by decide +kernel
theorem dX6_end_49 : decode cX6_end 49 = .ok (.getfield 33, 3) := by decide +kernel
theorem dX6_end_52 : decode cX6_end 52 = .ok (.getfield 160, 3) := by decide +kernel
theorem dX6_end_55 : decode cX6_end 55 = .ok (.iload_n 1, 1) := by decide +kernel
theorem dX6_end_56 : decode cX6_end 56 = .ok (.iaload, 1) := by decide +kernel
theorem dX6_end_57 : decode cX6_end 57 = .ok (.invokevirtual 142, 3) := by decide +kernel
theorem dX6_end_60 : decode cX6_end 60 = .ok (.istore_n 3, 1) := by decide +kernel
theorem dX6_end_61 : decode cX6_end 61 = .ok (.iload_n 3, 1) := by decide +kernel
theorem dX6_end_62 : decode cX6_end 62 = .ok (.iconst (-1), 1) := by decide +kernel
theorem dX6_end_63 : decode cX6_end 63 = .ok (.if_icmp .eq 23, 3) := by decide +kernel
theorem dX6_end_66 : decode cX6_end 66 = .ok (.aload_n 0, 1) := by decide +kernel
theorem dX6_end_67 : decode cX6_end 67 = .ok (.getfield 33, 3) := by decide +kernel
theorem dX6_end_70 : decode cX6_end 70 = .ok (.getfield 163, 3) := by decide +kernel
theorem dX6_end_73 : decode cX6_end 73 = .ok (.iload_n 1, 1) := by decide +kernel
theorem dX6_end_74 : decode cX6_end 74 = .ok (.iload_n 2, 1) := by decide +kernel
theorem dX6_end_75 : decode cX6_end 75 = .ok (.iastore, 1) := by decide +kernel
theorem dX6_end_76 : decode cX6_end 76 = .ok (.aload_n 0, 1) := by decide +kernel
theorem dX6_end_77 : decode cX6_end 77 = .ok (.getfield 33, 3) := by decide +kernel
theorem dX6_end_80 : decode cX6_end 80 = .ok (.getfield 166, 3) := by decide +kernel
theorem dX6_end_83 : decode cX6_end 83 = .ok (.iload_n 1, 1) := by decide +kernel
theorem dX6_end_84 : decode cX6_end 84 = .ok (.iload_n 3, 1) := by decide +kernel
theorem dX6_end_85 : decode cX6_end 85 = .ok (.iastore, 1) := by decide +kernel
theorem dX6_end_86 : decode cX6_end 86 = .ok (.iload_n 3, 1) := by decide +kernel
theorem dX6_end_87 : decode cX6_end 87 = .ok (.ireturn, 1) := by decide +kernel
theorem dX6_sentence_0 : decode cX6_sentence 0 = .ok (.aload_n 0, 1) := by decide +kernel
theorem dX6_sentence_1 : decode cX6_sentence 1 = .ok (.iload_n 1, 1) := by decide +kernel
theorem dX6_sentence_2 : decode cX6_sentence 2 = .ok (.invokevirtual 151, 3) := by decide +kernel
theorem dX6_sentence_5 : decode cX6_sentence 5 = .ok (.ifCond .ne 6, 3) := by decide +kernel
theorem dX6_sentence_8 : decode cX6_sentence 8 = .ok (.bipush (-101), 2) := by decide +kernel
theorem dX6_sentence_10 : decode cX6_sentence 10 = .ok (.ireturn, 1) := by decide +kernel
theorem dX6_sentence_11 : decode cX6_sentence 11 = .ok (.iload_n 2, 1) := by decide +kernel
theorem dX6_sentence_12 : decode cX6_sentence 12 = .ok (.tableswitch 93 0 4 #[36, 46, 56, 66, 76], 36) := by decide +kernel
theorem dX6_sentence_48 : decode cX6_sentence 48 = .ok (.aload_n 0, 1) := by decide +kernel
theorem dX6_sentence_49 : decode cX6_sentence 49 = .ok (.getfield 33, 3) := by decide +kernel
theorem dX6_sentence_52 : decode cX6_sentence 52 = .ok (.getfield 157, 3) := by decide +kernel
theorem dX6_sentence_55 : decode cX6_sentence 55 = .ok (.iload_n 1, 1) := by decide +kernel
theorem dX6_sentence_56 : decode cX6_sentence 56 = .ok (.iaload, 1) := by decide +kernel
theorem dX6_sentence_57 : decode cX6_sentence 57 = .ok (.ireturn, 1) := by decide +kernel
theorem dX6_sentence_58 : decode cX6_sentence 58 = .ok (.aload_n 0, 1) := by decide +kernel
theorem dX6_sentence_59 : decode cX6_sentence 59 = .ok (.getfield 33, 3) := by decide +kernel
theorem dX6_sentence_62 : decode cX6_sentence 62 = .ok (.getfield 160, 3) := by decide +kernel
theorem dX6_sentence_65 : decode cX6_sentence 65 = .ok (.iload_n 1, 1) := by decide +kernel
theorem dX6_sentence_66 : decode cX6_sentence 66 = .ok (.iaload, 1) := by decide +kernel
theorem dX6_sentence_67 : decode cX6_sentence 67 = .ok (.ireturn, 1) := by decide +kernel
theorem dX6_sentence_68 : decode cX6_sentence 68 = .ok (.aload_n 0, 1) := by decide +kernel
theorem dX6_sentence_69 : decode cX6_sentence 69 = .ok (.getfield 33, 3) := by decide +kernel
theorem dX6_sentence_72 : decode cX6_sentence 72 = .ok (.getfield 163, 3) := by decide +kernel
theorem dX6_sentence_75 : decode cX6_sentence 75 = .ok (.iload_n 1, 1) := by decide +kernel
theorem dX6_sentence_76 : decode cX6_sentence 76 = .ok (.iaload, 1) := by decide +kernel
theorem dX6_sentence_77 : decode cX6_sentence 77 = .ok (.ireturn, 1) := by decide +kernel
theorem dX6_sentence_78 : decode cX6_sentence 78 = .ok (.aload_n 0, 1) := by decide +kernel
theorem dX6_sentence_79 : decode cX6_sentence 79 = .ok (.getfield 33, 3) := by decide +kernel
theorem dX6_sentence_82 : decode cX6_sentence 82 = .ok (.getfield 166, 3) := by decide +kernel
theorem dX6_sentence_85 : decode cX6_sentence 85 = .ok (.iload_n 1, 1) := by decide +kernel
theorem dX6_sentence_86 : decode cX6_sentence 86 = .ok (.iaload, 1) := by decide +kernel
theorem dX6_sentence_87 : decode cX6_sentence 87 = .ok (.ireturn, 1) := by decide +kernel
theorem dX6_sentence_88 : decode cX6_sentence 88 = .ok (.aload_n 0, 1) := by decide +kernel
theorem dX6_sentence_89 : decode cX6_sentence 89 = .ok (.getfield 33, 3) := by decide +kernel
theorem dX6_sentence_92 : decode cX6_sentence 92 = .ok (.iload_n 1, 1) := by decide +kernel
theorem dX6_sentence_93 : decode cX6_sentence 93 = .ok (.invokevirtual 169, 3) := by decide +kernel
theorem dX6_sentence_96 : decode cX6_sentence 96 = .ok (.ifCond .eq 7, 3) := by decide +kernel
theorem dX6_sentence_99 : decode cX6_sentence 99 = .ok (.iconst 1, 1) := by decide +kernel
theorem dX6_sentence_100 : decode cX6_sentence 100 = .ok (.goto 4, 3) := by decide +kernel
theorem dX6_sentence_103 : decode cX6_sentence 103 = .ok (.iconst 0, 1) := by decide +kernel
theorem dX6_sentence_104 : decode cX6_sentence 104 = .ok (.ireturn, 1) := by decide +kernel
theorem dX6_sentence_105 : decode cX6_sentence 105 = .ok (.bipush (-102), 2) := by decide +kernel
theorem dX6_sentence_107 : decode cX6_sentence 107 = .ok (.ireturn, 1) := by decide +kernel
theorem dX6_match_0 : decode cX6_match 0 = .ok (.iload_n 1, 1) := by decide +kernel
theorem dX6_match_1 : decode cX6_match 1 = .ok (.ifCond .ne 7, 3) := by decide +kernel
theorem dX6_match_4 : decode cX6_match 4 = .ok (.iconst 1, 1) := by decide +kernel
theorem dX6_match_5 : decode cX6_match 5 = .ok (.goto 4, 3) := by decide +kernel
theorem dX6_match_8 : decode cX6_match 8 = .ok (.iconst 0, 1) := by decide +kernel
theorem dX6_match_9 : decode cX6_match 9 = .ok (.istore_n 2, 1) := by decide +kernel
theorem dX6_match_10 : decode cX6_match 10 = .ok (.iload_n 1, 1) := by decide +kernel
theorem dX6_match_11 : decode cX6_match 11 = .ok (.bipush 10, 2) := by decide +kernel
theorem dX6_match_13 : decode cX6_match 13 = .ok (.if_icmp .lt 13, 3) := by decide +kernel
theorem dX6_match_16 : decode cX6_match 16 = .ok (.iload_n 1, 1) := by decide +kernel
theorem dX6_match_17 : decode cX6_match 17 = .ok (.bipush 14, 2) := by decide +kernel
theorem dX6_match_19 : decode cX6_match 19 = .ok (.if_icmp .ge 7, 3) := by decide +kernel
theorem dX6_match_22 : decode cX6_match 22 = .ok (.iconst 1, 1) := by decide +kernel
theorem dX6_match_23 : decode cX6_match 23 = .ok (.goto 4, 3) := by decide +kernel
theorem dX6_match_26 : decode cX6_match 26 = .ok (.iconst 0, 1) := by decide +kernel
theorem dX6_match_27 : decode cX6_match 27 = .ok (.istore_n 3, 1) := by decide +kernel
theorem dX6_match_28 : decode cX6_match 28 = .ok (.iload_n 2, 1) := by decide +kernel
theorem dX6_match_29 : decode cX6_match 29 = .ok (.ifCond .ne 10, 3) := by decide +kernel
theorem dX6_match_32 : decode cX6_match 32 = .ok (.iload_n 3, 1) := by decide +kernel
theorem dX6_match_33 : decode cX6_match 33 = .ok (.ifCond .ne 6, 3) := by decide +kernel
theorem dX6_match_36 : decode cX6_match 36 = .ok (.bipush (-102), 2) := by decide +kernel
theorem dX6_match_38 : decode cX6_match 38 = .ok (.ireturn, 1) := by decide +kernel
theorem dX6_match_39 : decode cX6_match 39 = .ok (.aload_n 0, 1) := by decide +kernel
theorem dX6_match_40 : decode cX6_match 40 = .ok (.getfield 26, 3) := by decide +kernel
theorem dX6_match_43 : decode cX6_match 43 = .ok (.getfield 92, 3) := by decide +kernel
theorem dX6_match_46 : decode cX6_match 46 = .ok (.ifCond .ne 6, 3) := by decide +kernel
theorem dX6_match_49 : decode cX6_match 49 = .ok (.bipush (-103), 2) := by decide +kernel
theorem dX6_match_51 : decode cX6_match 51 = .ok (.ireturn, 1) := by decide +kernel
theorem dX6_match_52 : decode cX6_match 52 = .ok (.aload_n 0, 1) := by decide +kernel
theorem dX6_match_53 : decode cX6_match 53 = .ok (.invokevirtual 172, 3) := by decide +kernel
theorem dX6_match_56 : decode cX6_match 56 = .ok (.aload_n 0, 1) := by decide +kernel
theorem dX6_match_57 : decode cX6_match 57 = .ok (.getfield 43, 3) := by decide +kernel
theorem dX6_match_60 : decode cX6_match 60 = .ok (.invokevirtual 175, 3) := by decide +kernel
theorem dX6_match_63 : decode cX6_match 63 = .ok (.iload_n 2, 1) := by decide +kernel
theorem dX6_match_64 : decode cX6_match 64 = .ok (.ifCond .eq 13, 3) := by decide +kernel
theorem dX6_match_67 : decode cX6_match 67 = .ok (.aload_n 0, 1) := by decide +kernel
theorem dX6_match_68 : decode cX6_match 68 = .ok (.getfield 43, 3) := by decide +kernel
theorem dX6_match_71 : decode cX6_match 71 = .ok (.getfield 178, 3) := by decide +kernel
theorem dX6_match_74 : decode cX6_match 74 = .ok (.goto 15, 3) := by decide +kernel
theorem dX6_match_77 : decode cX6_match 77 = .ok (.aload_n 0, 1) := by decide +kernel
theorem dX6_match_78 : decode cX6_match 78 = .ok (.getfield 43, 3) := by decide +kernel
theorem dX6_match_81 : decode cX6_match 81 = .ok (.getfield 181, 3) := by decide +kernel
theorem dX6_match_84 : decode cX6_match 84 = .ok (.iload_n 1, 1) := by decide +kernel
theorem dX6_match_85 : decode cX6_match 85 = .ok (.bipush 10, 2) := by decide +kernel
theorem dX6_match_87 : decode cX6_match 87 = .ok (.isub, 1) := by decide +kernel
theorem dX6_match_88 : decode cX6_match 88 = .ok (.iaload, 1) := by decide +kernel
theorem dX6_match_89 : decode cX6_match 89 = .ok (.ireturn, 1) := by decide +kernel
theorem dX6_hear_0 : decode cX6_hear 0 = .ok (.aload_n 0, 1) := by decide +kernel
theorem dX6_hear_1 : decode cX6_hear 1 = .ok (.iload_n 1, 1) := by decide +kernel
theorem dX6_hear_2 : decode cX6_hear 2 = .ok (.invokevirtual 102, 3) := by decide +kernel
theorem dX6_hear_5 : decode cX6_hear 5 = .ok (.ifCond .eq 10, 3) := by decide +kernel
theorem dX6_hear_8 : decode cX6_hear 8 = .ok (.iload_n 2, 1) := by decide +kernel
theorem dX6_hear_9 : decode cX6_hear 9 = .ok (.invokestatic 95, 3) := by decide +kernel
theorem dX6_hear_12 : decode cX6_hear 12 = .ok (.ifCond .ne 6, 3) := by decide +kernel
theorem dX6_hear_15 : decode cX6_hear 15 = .ok (.bipush (-101), 2) := by decide +kernel
theorem dX6_hear_17 : decode cX6_hear 17 = .ok (.ireturn, 1) := by decide +kernel
theorem dX6_hear_18 : decode cX6_hear 18 = .ok (.iload_n 3, 1) := by decide +kernel
theorem dX6_hear_19 : decode cX6_hear 19 = .ok (.invokestatic 136, 3) := by decide +kernel
theorem dX6_hear_22 : decode cX6_hear 22 = .ok (.ifCond .ne 11, 3) := by decide +kernel
theorem dX6_hear_25 : decode cX6_hear 25 = .ok (.iload_n 3, 1) := by decide +kernel
theorem dX6_hear_26 : decode cX6_hear 26 = .ok (.iconst (-1), 1) := by decide +kernel
theorem dX6_hear_27 : decode cX6_hear 27 = .ok (.if_icmp .eq 6, 3) := by decide +kernel
theorem dX6_hear_30 : decode cX6_hear 30 = .ok (.bipush (-102), 2) := by decide +kernel
theorem dX6_hear_32 : decode cX6_hear 32 = .ok (.ireturn, 1) := by decide +kernel
theorem dX6_hear_33 : decode cX6_hear 33 = .ok (.aload_n 0, 1) := by decide +kernel
theorem dX6_hear_34 : decode cX6_hear 34 = .ok (.getfield 33, 3) := by decide +kernel
theorem dX6_hear_37 : decode cX6_hear 37 = .ok (.getfield 184, 3) := by decide +kernel
theorem dX6_hear_40 : decode cX6_hear 40 = .ok (.bipush 8, 2) := by decide +kernel
theorem dX6_hear_42 : decode cX6_hear 42 = .ok (.if_icmp .lt 6, 3) := by decide +kernel
theorem dX6_hear_45 : decode cX6_hear 45 = .ok (.bipush (-104), 2) := by decide +kernel
theorem dX6_hear_47 : decode cX6_hear 47 = .ok (.ireturn, 1) := by decide +kernel
theorem dX6_hear_48 : decode cX6_hear 48 = .ok (.aload_n 0, 1) := by decide +kernel
theorem dX6_hear_49 : decode cX6_hear 49 = .ok (.getfield 33, 3) := by decide +kernel
theorem dX6_hear_52 : decode cX6_hear 52 = .ok (.iload_n 1, 1) := by decide +kernel
theorem dX6_hear_53 : decode cX6_hear 53 = .ok (.iload_n 2, 1) := by decide +kernel
theorem dX6_hear_54 : decode cX6_hear 54 = .ok (.iload_n 3, 1) := by decide +kernel
theorem dX6_hear_55 : decode cX6_hear 55 = .ok (.invokevirtual 187, 3) := by decide +kernel
theorem dX6_hear_58 : decode cX6_hear 58 = .ok (.aload_n 0, 1) := by decide +kernel
theorem dX6_hear_59 : decode cX6_hear 59 = .ok (.getfield 33, 3) := by decide +kernel
theorem dX6_hear_62 : decode cX6_hear 62 = .ok (.getfield 184, 3) := by decide +kernel
theorem dX6_hear_65 : decode cX6_hear 65 = .ok (.ireturn, 1) := by decide +kernel
theorem dX6_forget_0 : decode cX6_forget 0 = .ok (.aload_n 0, 1) := by decide +kernel
theorem dX6_forget_1 : decode cX6_forget 1 = .ok (.getfield 33, 3) := by decide +kernel
theorem dX6_forget_4 : decode cX6_forget 4 = .ok (.getfield 184, 3) := by decide +kernel
theorem dX6_forget_7 : decode cX6_forget 7 = .ok (.istore_n 1, 1) := by decide +kernel
theorem dX6_forget_8 : decode cX6_forget 8 = .ok (.aload_n 0, 1) := by decide +kernel
theorem dX6_forget_9 : decode cX6_forget 9 = .ok (.getfield 33, 3) := by decide +kernel
theorem dX6_forget_12 : decode cX6_forget 12 = .ok (.iconst 0, 1) := by decide +kernel
theorem dX6_forget_13 : decode cX6_forget 13 = .ok (.putfield 184, 3) := by decide +kernel
theorem dX6_forget_16 : decode cX6_forget 16 = .ok (.iload_n 1, 1) := by decide +kernel
theorem dX6_forget_17 : decode cX6_forget 17 = .ok (.ireturn, 1) := by decide +kernel
theorem dX6_talks_0 : decode cX6_talks 0 = .ok (.iload_n 1, 1) := by decide +kernel
theorem dX6_talks_1 : decode cX6_talks 1 = .ok (.iconst 1, 1) := by decide +kernel
theorem dX6_talks_2 : decode cX6_talks 2 = .ok (.if_icmp .lt 22, 3) := by decide +kernel
theorem dX6_talks_5 : decode cX6_talks 5 = .ok (.iload_n 1, 1) := by decide +kernel
theorem dX6_talks_6 : decode cX6_talks 6 = .ok (.bipush 60, 2) := by decide +kernel
theorem dX6_talks_8 : decode cX6_talks 8 = .ok (.if_icmp .gt 16, 3) := by decide +kernel
theorem dX6_talks_11 : decode cX6_talks 11 = .ok (.iload_n 2, 1) := by decide +kernel
theorem dX6_talks_12 : decode cX6_talks 12 = .ok (.ifCond .lt 12, 3) := by decide +kernel
theorem dX6_talks_15 : decode cX6_talks 15 = .ok (.iload_n 3, 1) := by decide +kernel
theorem dX6_talks_16 : decode cX6_talks 16 = .ok (.ifCond .lt 8, 3) := by decide +kernel
theorem dX6_talks_19 : decode cX6_talks 19 = .ok (.iload_n 3, 1) := by decide +kernel
theorem dX6_talks_20 : decode cX6_talks 20 = .ok (.iconst 3, 1) := by decide +kernel
theorem dX6_talks_21 : decode cX6_talks 21 = .ok (.if_icmp .lt 6, 3) := by decide +kernel
theorem dX6_talks_24 : decode cX6_talks 24 = .ok (.bipush (-102), 2) := by decide +kernel
theorem dX6_talks_26 : decode cX6_talks 26 = .ok (.ireturn, 1) := by decide +kernel
theorem dX6_talks_27 : decode cX6_talks 27 = .ok (.aload_n 0, 1) := by decide +kernel
theorem dX6_talks_28 : decode cX6_talks 28 = .ok (.getfield 26, 3) := by decide +kernel
theorem dX6_talks_31 : decode cX6_talks 31 = .ok (.getfield 92, 3) := by decide +kernel
theorem dX6_talks_34 : decode cX6_talks 34 = .ok (.ifCond .ne 6, 3) := by decide +kernel
theorem dX6_talks_37 : decode cX6_talks 37 = .ok (.bipush (-103), 2) := by decide +kernel
theorem dX6_talks_39 : decode cX6_talks 39 = .ok (.ireturn, 1) := by decide +kernel
theorem dX6_talks_40 : decode cX6_talks 40 = .ok (.aload_n 0, 1) := by decide +kernel
theorem dX6_talks_41 : decode cX6_talks 41 = .ok (.getfield 50, 3) := by decide +kernel
theorem dX6_talks_44 : decode cX6_talks 44 = .ok (.aload_n 0, 1) := by decide +kernel
theorem dX6_talks_45 : decode cX6_talks 45 = .ok (.getfield 26, 3) := by decide +kernel
theorem dX6_talks_48 : decode cX6_talks 48 = .ok (.aload_n 0, 1) := by decide +kernel
theorem dX6_talks_49 : decode cX6_talks 49 = .ok (.getfield 33, 3) := by decide +kernel
theorem dX6_talks_52 : decode cX6_talks 52 = .ok (.iload_n 1, 1) := by decide +kernel
theorem dX6_talks_53 : decode cX6_talks 53 = .ok (.iload_n 2, 1) := by decide +kernel
theorem dX6_talks_54 : decode cX6_talks 54 = .ok (.invokevirtual 191, 3) := by decide +kernel
theorem dX6_talks_57 : decode cX6_talks 57 = .ok (.iload_n 3, 1) := by decide +kernel
theorem dX6_talks_58 : decode cX6_talks 58 = .ok (.lookupswitch 42 #[(0, 26), (1, 34)], 26) := by decide +kernel
theorem dX6_talks_84 : decode cX6_talks 84 = .ok (.aload_n 0, 1) := by decide +kernel
theorem dX6_talks_85 : decode cX6_talks 85 = .ok (.getfield 50, 3) := by decide +kernel
theorem dX6_talks_88 : decode cX6_talks 88 = .ok (.getfield 195, 3) := by decide +kernel
theorem dX6_talks_91 : decode cX6_talks 91 = .ok (.ireturn, 1) := by decide +kernel
theorem dX6_talks_92 : decode cX6_talks 92 = .ok (.aload_n 0, 1) := by decide +kernel
theorem dX6_talks_93 : decode cX6_talks 93 = .ok (.getfield 50, 3) := by decide +kernel
theorem dX6_talks_96 : decode cX6_talks 96 = .ok (.getfield 196, 3) := by decide +kernel
theorem dX6_talks_99 : decode cX6_talks 99 = .ok (.ireturn, 1) := by decide +kernel
theorem dX6_talks_100 : decode cX6_talks 100 = .ok (.aload_n 0, 1) := by decide +kernel
theorem dX6_talks_101 : decode cX6_talks 101 = .ok (.getfield 50, 3) := by decide +kernel
theorem dX6_talks_104 : decode cX6_talks 104 = .ok (.getfield 199, 3) := by decide +kernel
theorem dX6_talks_107 : decode cX6_talks 107 = .ok (.l2i, 1) := by decide +kernel
theorem dX6_talks_108 : decode cX6_talks 108 = .ok (.ireturn, 1) := by decide +kernel
theorem dX6_image_0 : decode cX6_image 0 = .ok (.aload_n 0, 1) := by decide +kernel
theorem dX6_image_1 : decode cX6_image 1 = .ok (.getfield 26, 3) := by decide +kernel
theorem dX6_image_4 : decode cX6_image 4 = .ok (.getfield 92, 3) := by decide +kernel
theorem dX6_image_7 : decode cX6_image 7 = .ok (.ifCond .ne 6, 3) := by decide +kernel
theorem dX6_image_10 : decode cX6_image 10 = .ok (.bipush (-103), 2) := by decide +kernel
theorem dX6_image_12 : decode cX6_image 12 = .ok (.ireturn, 1) := by decide +kernel
theorem dX6_image_13 : decode cX6_image 13 = .ok (.aload_n 0, 1) := by decide +kernel
theorem dX6_image_14 : decode cX6_image 14 = .ok (.getfield 37, 3) := by decide +kernel
theorem dX6_image_17 : decode cX6_image 17 = .ok (.aload_n 0, 1) := by decide +kernel
theorem dX6_image_18 : decode cX6_image 18 = .ok (.getfield 33, 3) := by decide +kernel
theorem dX6_image_21 : decode cX6_image 21 = .ok (.invokevirtual 203, 3) := by decide +kernel
theorem dX6_image_24 : decode cX6_image 24 = .ok (.aload_n 0, 1) := by decide +kernel
theorem dX6_image_25 : decode cX6_image 25 = .ok (.iconst 1, 1) := by decide +kernel
theorem dX6_image_26 : decode cX6_image 26 = .ok (.putfield 54, 3) := by decide +kernel
theorem dX6_image_29 : decode cX6_image 29 = .ok (.aload_n 0, 1) := by decide +kernel
theorem dX6_image_30 : decode cX6_image 30 = .ok (.getfield 37, 3) := by decide +kernel
theorem dX6_image_33 : decode cX6_image 33 = .ok (.getfield 145, 3) := by decide +kernel
theorem dX6_image_36 : decode cX6_image 36 = .ok (.ireturn, 1) := by decide +kernel
theorem dX6_restore_0 : decode cX6_restore 0 = .ok (.aload_n 0, 1) := by decide +kernel
theorem dX6_restore_1 : decode cX6_restore 1 = .ok (.getfield 54, 3) := by decide +kernel
theorem dX6_restore_4 : decode cX6_restore 4 = .ok (.ifCond .ne 6, 3) := by decide +kernel
theorem dX6_restore_7 : decode cX6_restore 7 = .ok (.bipush (-103), 2) := by decide +kernel
theorem dX6_restore_9 : decode cX6_restore 9 = .ok (.ireturn, 1) := by decide +kernel
theorem dX6_restore_10 : decode cX6_restore 10 = .ok (.aload_n 0, 1) := by decide +kernel
theorem dX6_restore_11 : decode cX6_restore 11 = .ok (.getfield 33, 3) := by decide +kernel
theorem dX6_restore_14 : decode cX6_restore 14 = .ok (.aload_n 0, 1) := by decide +kernel
theorem dX6_restore_15 : decode cX6_restore 15 = .ok (.getfield 37, 3) := by decide +kernel
theorem dX6_restore_18 : decode cX6_restore 18 = .ok (.invokevirtual 203, 3) := by decide +kernel
theorem dX6_restore_21 : decode cX6_restore 21 = .ok (.aload_n 0, 1) := by decide +kernel
theorem dX6_restore_22 : decode cX6_restore 22 = .ok (.getfield 33, 3) := by decide +kernel
theorem dX6_restore_25 : decode cX6_restore 25 = .ok (.getfield 145, 3) := by decide +kernel
theorem dX6_restore_28 : decode cX6_restore 28 = .ok (.ireturn, 1) := by decide +kernel
theorem dX6_count_0 : decode cX6_count 0 = .ok (.iload_n 1, 1) := by decide +kernel
theorem dX6_count_1 : decode cX6_count 1 = .ok (.tableswitch 120 0 8 #[51, 59, 67, 75, 83, 91, 99, 107, 115], 51) := by decide +kernel
theorem dX6_count_52 : decode cX6_count 52 = .ok (.aload_n 0, 1) := by decide +kernel
theorem dX6_count_53 : decode cX6_count 53 = .ok (.getfield 26, 3) := by decide +kernel
theorem dX6_count_56 : decode cX6_count 56 = .ok (.getfield 92, 3) := by decide +kernel
theorem dX6_count_59 : decode cX6_count 59 = .ok (.ireturn, 1) := by decide +kernel
theorem dX6_count_60 : decode cX6_count 60 = .ok (.aload_n 0, 1) := by decide +kernel
theorem dX6_count_61 : decode cX6_count 61 = .ok (.getfield 33, 3) := by decide +kernel
theorem dX6_count_64 : decode cX6_count 64 = .ok (.getfield 145, 3) := by decide +kernel
theorem dX6_count_67 : decode cX6_count 67 = .ok (.ireturn, 1) := by decide +kernel
theorem dX6_count_68 : decode cX6_count 68 = .ok (.aload_n 0, 1) := by decide +kernel
theorem dX6_count_69 : decode cX6_count 69 = .ok (.getfield 33, 3) := by decide +kernel
theorem dX6_count_72 : decode cX6_count 72 = .ok (.invokevirtual 206, 3) := by decide +kernel
theorem dX6_count_75 : decode cX6_count 75 = .ok (.ireturn, 1) := by decide +kernel
theorem dX6_count_76 : decode cX6_count 76 = .ok (.aload_n 0, 1) := by decide +kernel
theorem dX6_count_77 : decode cX6_count 77 = .ok (.getfield 33, 3) := by decide +kernel
theorem dX6_count_80 : decode cX6_count 80 = .ok (.invokevirtual 210, 3) := by decide +kernel
theorem dX6_count_83 : decode cX6_count 83 = .ok (.ireturn, 1) := by decide +kernel
theorem dX6_count_84 : decode cX6_count 84 = .ok (.aload_n 0, 1) := by decide +kernel
theorem dX6_count_85 : decode cX6_count 85 = .ok (.getfield 33, 3) := by decide +kernel
theorem dX6_count_88 : decode cX6_count 88 = .ok (.invokevirtual 213, 3) := by decide +kernel
theorem dX6_count_91 : decode cX6_count 91 = .ok (.ireturn, 1) := by decide +kernel
theorem dX6_count_92 : decode cX6_count 92 = .ok (.aload_n 0, 1) := by decide +kernel
theorem dX6_count_93 : decode cX6_count 93 = .ok (.getfield 33, 3) := by decide +kernel
theorem dX6_count_96 : decode cX6_count 96 = .ok (.getfield 139, 3) := by decide +kernel
theorem dX6_count_99 : decode cX6_count 99 = .ok (.ireturn, 1) := by decide +kernel
theorem dX6_count_100 : decode cX6_count 100 = .ok (.aload_n 0, 1) := by decide +kernel
theorem dX6_count_101 : decode cX6_count 101 = .ok (.getfield 33, 3) := by decide +kernel
theorem dX6_count_104 : decode cX6_count 104 = .ok (.getfield 184, 3) := by decide +kernel
theorem dX6_count_107 : decode cX6_count 107 = .ok (.ireturn, 1) := by decide +kernel
theorem dX6_count_108 : decode cX6_count 108 = .ok (.aload_n 0, 1) := by decide +kernel
theorem dX6_count_109 : decode cX6_count 109 = .ok (.getfield 10, 3) := by decide +kernel
theorem dX6_count_112 : decode cX6_count 112 = .ok (.getfield 62, 3) := by decide +kernel
theorem dX6_count_115 : decode cX6_count 115 = .ok (.ireturn, 1) := by decide +kernel
theorem dX6_count_116 : decode cX6_count 116 = .ok (.aload_n 0, 1) := by decide +kernel
theorem dX6_count_117 : decode cX6_count 117 = .ok (.getfield 58, 3) := by decide +kernel
theorem dX6_count_120 : decode cX6_count 120 = .ok (.ireturn, 1) := by decide +kernel
theorem dX6_count_121 : decode cX6_count 121 = .ok (.bipush (-102), 2) := by decide +kernel
theorem dX6_count_123 : decode cX6_count 123 = .ok (.ireturn, 1) := by decide +kernel
theorem dX6_digest_0 : decode cX6_digest 0 = .ok (.ldc2_w 216, 3) := by decide +kernel
theorem dX6_digest_3 : decode cX6_digest 3 = .ok (.lstore_n 1, 1) := by decide +kernel
theorem dX6_digest_4 : decode cX6_digest 4 = .ok (.iconst 0, 1) := by decide +kernel
theorem dX6_digest_5 : decode cX6_digest 5 = .ok (.istore_n 3, 1) := by decide +kernel
theorem dX6_digest_6 : decode cX6_digest 6 = .ok (.aload_n 0, 1) := by decide +kernel
theorem dX6_digest_7 : decode cX6_digest 7 = .ok (.getfield 26, 3) := by decide +kernel
theorem dX6_digest_10 : decode cX6_digest 10 = .ok (.getfield 92, 3) := by decide +kernel
theorem dX6_digest_13 : decode cX6_digest 13 = .ok (.ifCond .le 29, 3) := by decide +kernel
theorem dX6_digest_16 : decode cX6_digest 16 = .ok (.iload_n 3, 1) := by decide +kernel
theorem dX6_digest_17 : decode cX6_digest 17 = .ok (.iconst 4, 1) := by decide +kernel
theorem dX6_digest_18 : decode cX6_digest 18 = .ok (.if_icmp .ge 24, 3) := by decide +kernel
theorem dX6_digest_21 : decode cX6_digest 21 = .ok (.lload_n 1, 1) := by decide +kernel
theorem dX6_digest_22 : decode cX6_digest 22 = .ok (.aload_n 0, 1) := by decide +kernel
theorem dX6_digest_23 : decode cX6_digest 23 = .ok (.getfield 26, 3) := by decide +kernel
theorem dX6_digest_26 : decode cX6_digest 26 = .ok (.getfield 99, 3) := by decide +kernel
theorem dX6_digest_29 : decode cX6_digest 29 = .ok (.iload_n 3, 1) := by decide +kernel
theorem dX6_digest_30 : decode cX6_digest 30 = .ok (.iaload, 1) := by decide +kernel
theorem dX6_digest_31 : decode cX6_digest 31 = .ok (.i2l, 1) := by decide +kernel
theorem dX6_digest_32 : decode cX6_digest 32 = .ok (.invokestatic 218, 3) := by decide +kernel
theorem dX6_digest_35 : decode cX6_digest 35 = .ok (.lstore_n 1, 1) := by decide +kernel
theorem dX6_digest_36 : decode cX6_digest 36 = .ok (.iinc 3 1, 3) := by decide +kernel
theorem dX6_digest_39 : decode cX6_digest 39 = .ok (.goto (-33), 3) := by decide +kernel
theorem dX6_digest_42 : decode cX6_digest 42 = .ok (.iconst 0, 1) := by decide +kernel
theorem dX6_digest_43 : decode cX6_digest 43 = .ok (.istore_n 3, 1) := by decide +kernel
theorem dX6_digest_44 : decode cX6_digest 44 = .ok (.iload_n 3, 1) := by decide +kernel
theorem dX6_digest_45 : decode cX6_digest 45 = .ok (.aload_n 0, 1) := by decide +kernel
theorem dX6_digest_46 : decode cX6_digest 46 = .ok (.getfield 26, 3) := by decide +kernel
theorem dX6_digest_49 : decode cX6_digest 49 = .ok (.getfield 92, 3) := by decide +kernel
theorem dX6_digest_52 : decode cX6_digest 52 = .ok (.if_icmp .ge 66, 3) := by decide +kernel
theorem dX6_digest_55 : decode cX6_digest 55 = .ok (.iconst 0, 1) := by decide +kernel
theorem dX6_digest_56 : decode cX6_digest 56 = .ok (.istore 4, 2) := by decide +kernel
theorem dX6_digest_58 : decode cX6_digest 58 = .ok (.iload 4, 2) := by decide +kernel
theorem dX6_digest_60 : decode cX6_digest 60 = .ok (.bipush 9, 2) := by decide +kernel
theorem dX6_digest_62 : decode cX6_digest 62 = .ok (.if_icmp .ge 22, 3) := by decide +kernel
theorem dX6_digest_65 : decode cX6_digest 65 = .ok (.lload_n 1, 1) := by decide +kernel
theorem dX6_digest_66 : decode cX6_digest 66 = .ok (.aload_n 0, 1) := by decide +kernel
theorem dX6_digest_67 : decode cX6_digest 67 = .ok (.iload_n 3, 1) := by decide +kernel
theorem dX6_digest_68 : decode cX6_digest 68 = .ok (.iload 4, 2) := by decide +kernel
theorem dX6_digest_70 : decode cX6_digest 70 = .ok (.invokevirtual 222, 3) := by decide +kernel
theorem dX6_digest_73 : decode cX6_digest 73 = .ok (.i2l, 1) := by decide +kernel
theorem dX6_digest_74 : decode cX6_digest 74 = .ok (.invokestatic 218, 3) := by decide +kernel
theorem dX6_digest_77 : decode cX6_digest 77 = .ok (.lstore_n 1, 1) := by decide +kernel
theorem dX6_digest_78 : decode cX6_digest 78 = .ok (.iinc 4 1, 3) := by decide +kernel
theorem dX6_digest_81 : decode cX6_digest 81 = .ok (.goto (-23), 3) := by decide +kernel
theorem dX6_digest_84 : decode cX6_digest 84 = .ok (.iconst 0, 1) := by decide +kernel
theorem dX6_digest_85 : decode cX6_digest 85 = .ok (.istore 4, 2) := by decide +kernel
theorem dX6_digest_87 : decode cX6_digest 87 = .ok (.iload 4, 2) := by decide +kernel
theorem dX6_digest_89 : decode cX6_digest 89 = .ok (.iconst 4, 1) := by decide +kernel
theorem dX6_digest_90 : decode cX6_digest 90 = .ok (.if_icmp .ge 22, 3) := by decide +kernel
theorem dX6_digest_93 : decode cX6_digest 93 = .ok (.lload_n 1, 1) := by decide +kernel
theorem dX6_digest_94 : decode cX6_digest 94 = .ok (.aload_n 0, 1) := by decide +kernel
theorem dX6_digest_95 : decode cX6_digest 95 = .ok (.iload_n 3, 1) := by decide +kernel
theorem dX6_digest_96 : decode cX6_digest 96 = .ok (.iload 4, 2) := by decide +kernel
theorem dX6_digest_98 : decode cX6_digest 98 = .ok (.invokevirtual 142, 3) := by decide +kernel
theorem dX6_digest_101 : decode cX6_digest 101 = .ok (.i2l, 1) := by decide +kernel
theorem dX6_digest_102 : decode cX6_digest 102 = .ok (.invokestatic 218, 3) := by decide +kernel
theorem dX6_digest_105 : decode cX6_digest 105 = .ok (.lstore_n 1, 1) := by decide +kernel
theorem dX6_digest_106 : decode cX6_digest 106 = .ok (.iinc 4 1, 3) := by decide +kernel
theorem dX6_digest_109 : decode cX6_digest 109 = .ok (.goto (-22), 3) := by decide +kernel
theorem dX6_digest_112 : decode cX6_digest 112 = .ok (.iinc 3 1, 3) := by decide +kernel
theorem dX6_digest_115 : decode cX6_digest 115 = .ok (.goto (-71), 3) := by decide +kernel
theorem dX6_digest_118 : decode cX6_digest 118 = .ok (.iconst 0, 1) := by decide +kernel
theorem dX6_digest_119 : decode cX6_digest 119 = .ok (.istore_n 3, 1) := by decide +kernel
theorem dX6_digest_120 : decode cX6_digest 120 = .ok (.iload_n 3, 1) := by decide +kernel
theorem dX6_digest_121 : decode cX6_digest 121 = .ok (.aload_n 0, 1) := by decide +kernel
theorem dX6_digest_122 : decode cX6_digest 122 = .ok (.getfield 33, 3) := by decide +kernel
theorem dX6_digest_125 : decode cX6_digest 125 = .ok (.getfield 145, 3) := by decide +kernel
theorem dX6_digest_128 : decode cX6_digest 128 = .ok (.if_icmp .ge 37, 3) := by decide +kernel
theorem dX6_digest_131 : decode cX6_digest 131 = .ok (.iconst 0, 1) := by decide +kernel
theorem dX6_digest_132 : decode cX6_digest 132 = .ok (.istore 4, 2) := by decide +kernel
theorem dX6_digest_134 : decode cX6_digest 134 = .ok (.iload 4, 2) := by decide +kernel
theorem dX6_digest_136 : decode cX6_digest 136 = .ok (.iconst 5, 1) := by decide +kernel
theorem dX6_digest_137 : decode cX6_digest 137 = .ok (.if_icmp .ge 22, 3) := by decide +kernel
theorem dX6_digest_140 : decode cX6_digest 140 = .ok (.lload_n 1, 1) := by decide +kernel
theorem dX6_digest_141 : decode cX6_digest 141 = .ok (.aload_n 0, 1) := by decide +kernel
theorem dX6_digest_142 : decode cX6_digest 142 = .ok (.iload_n 3, 1) := by decide +kernel
theorem dX6_digest_143 : decode cX6_digest 143 = .ok (.iload 4, 2) := by decide +kernel
theorem dX6_digest_145 : decode cX6_digest 145 = .ok (.invokevirtual 225, 3) := by decide +kernel
theorem dX6_digest_148 : decode cX6_digest 148 = .ok (.i2l, 1) := by decide +kernel
theorem dX6_digest_149 : decode cX6_digest 149 = .ok (.invokestatic 218, 3) := by decide +kernel
theorem dX6_digest_152 : decode cX6_digest 152 = .ok (.lstore_n 1, 1) := by decide +kernel
theorem dX6_digest_153 : decode cX6_digest 153 = .ok (.iinc 4 1, 3) := by decide +kernel
theorem dX6_digest_156 : decode cX6_digest 156 = .ok (.goto (-22), 3) := by decide +kernel
theorem dX6_digest_159 : decode cX6_digest 159 = .ok (.iinc 3 1, 3) := by decide +kernel
theorem dX6_digest_162 : decode cX6_digest 162 = .ok (.goto (-42), 3) := by decide +kernel
theorem dX6_digest_165 : decode cX6_digest 165 = .ok (.aload_n 0, 1) := by decide +kernel
theorem dX6_digest_166 : decode cX6_digest 166 = .ok (.getfield 26, 3) := by decide +kernel
theorem dX6_digest_169 : decode cX6_digest 169 = .ok (.getfield 92, 3) := by decide +kernel
theorem dX6_digest_172 : decode cX6_digest 172 = .ok (.ifCond .le 41, 3) := by decide +kernel
theorem dX6_digest_175 : decode cX6_digest 175 = .ok (.lload_n 1, 1) := by decide +kernel
theorem dX6_digest_176 : decode cX6_digest 176 = .ok (.aload_n 0, 1) := by decide +kernel
theorem dX6_digest_177 : decode cX6_digest 177 = .ok (.iconst 0, 1) := by decide +kernel
theorem dX6_digest_178 : decode cX6_digest 178 = .ok (.invokevirtual 228, 3) := by decide +kernel
theorem dX6_digest_181 : decode cX6_digest 181 = .ok (.i2l, 1) := by decide +kernel
theorem dX6_digest_182 : decode cX6_digest 182 = .ok (.invokestatic 218, 3) := by decide +kernel
theorem dX6_digest_185 : decode cX6_digest 185 = .ok (.lstore_n 1, 1) := by decide +kernel
theorem dX6_digest_186 : decode cX6_digest 186 = .ok (.iconst 0, 1) := by decide +kernel
theorem dX6_digest_187 : decode cX6_digest 187 = .ok (.istore_n 3, 1) := by decide +kernel
theorem dX6_digest_188 : decode cX6_digest 188 = .ok (.iload_n 3, 1) := by decide +kernel
theorem dX6_digest_189 : decode cX6_digest 189 = .ok (.iconst 4, 1) := by decide +kernel
theorem dX6_digest_190 : decode cX6_digest 190 = .ok (.if_icmp .ge 23, 3) := by decide +kernel
theorem dX6_digest_193 : decode cX6_digest 193 = .ok (.lload_n 1, 1) := by decide +kernel
theorem dX6_digest_194 : decode cX6_digest 194 = .ok (.aload_n 0, 1) := by decide +kernel
theorem dX6_digest_195 : decode cX6_digest 195 = .ok (.bipush 10, 2) := by decide +kernel
theorem dX6_digest_197 : decode cX6_digest 197 = .ok (.iload_n 3, 1) := by decide +kernel
theorem dX6_digest_198 : decode cX6_digest 198 = .ok (.iadd, 1) := by decide +kernel
theorem dX6_digest_199 : decode cX6_digest 199 = .ok (.invokevirtual 228, 3) := by decide +kernel
theorem dX6_digest_202 : decode cX6_digest 202 = .ok (.i2l, 1) := by decide +kernel
theorem dX6_digest_203 : decode cX6_digest 203 = .ok (.invokestatic 218, 3) := by decide +kernel
theorem dX6_digest_206 : decode cX6_digest 206 = .ok (.lstore_n 1, 1) := by decide +kernel
theorem dX6_digest_207 : decode cX6_digest 207 = .ok (.iinc 3 1, 3) := by decide +kernel
theorem dX6_digest_210 : decode cX6_digest 210 = .ok (.goto (-22), 3) := by decide +kernel
theorem dX6_digest_213 : decode cX6_digest 213 = .ok (.iconst 0, 1) := by decide +kernel
theorem dX6_digest_214 : decode cX6_digest 214 = .ok (.istore_n 3, 1) := by decide +kernel
theorem dX6_digest_215 : decode cX6_digest 215 = .ok (.iload_n 3, 1) := by decide +kernel
theorem dX6_digest_216 : decode cX6_digest 216 = .ok (.aload_n 0, 1) := by decide +kernel
theorem dX6_digest_217 : decode cX6_digest 217 = .ok (.getfield 10, 3) := by decide +kernel
theorem dX6_digest_220 : decode cX6_digest 220 = .ok (.getfield 62, 3) := by decide +kernel
theorem dX6_digest_223 : decode cX6_digest 223 = .ok (.if_icmp .ge 24, 3) := by decide +kernel
theorem dX6_digest_226 : decode cX6_digest 226 = .ok (.lload_n 1, 1) := by decide +kernel
theorem dX6_digest_227 : decode cX6_digest 227 = .ok (.aload_n 0, 1) := by decide +kernel
theorem dX6_digest_228 : decode cX6_digest 228 = .ok (.getfield 10, 3) := by decide +kernel
theorem dX6_digest_231 : decode cX6_digest 231 = .ok (.getfield 231, 3) := by decide +kernel
theorem dX6_digest_234 : decode cX6_digest 234 = .ok (.iload_n 3, 1) := by decide +kernel
theorem dX6_digest_235 : decode cX6_digest 235 = .ok (.iaload, 1) := by decide +kernel
theorem dX6_digest_236 : decode cX6_digest 236 = .ok (.i2l, 1) := by decide +kernel
theorem dX6_digest_237 : decode cX6_digest 237 = .ok (.invokestatic 218, 3) := by decide +kernel
theorem dX6_digest_240 : decode cX6_digest 240 = .ok (.lstore_n 1, 1) := by decide +kernel
theorem dX6_digest_241 : decode cX6_digest 241 = .ok (.iinc 3 1, 3) := by decide +kernel
theorem dX6_digest_244 : decode cX6_digest 244 = .ok (.goto (-29), 3) := by decide +kernel
theorem dX6_digest_247 : decode cX6_digest 247 = .ok (.iconst 0, 1) := by decide +kernel
theorem dX6_digest_248 : decode cX6_digest 248 = .ok (.istore_n 3, 1) := by decide +kernel
theorem dX6_digest_249 : decode cX6_digest 249 = .ok (.iload_n 3, 1) := by decide +kernel
theorem dX6_digest_250 : decode cX6_digest 250 = .ok (.bipush 9, 2) := by decide +kernel
theorem dX6_digest_252 : decode cX6_digest 252 = .ok (.if_icmp .ge 20, 3) := by decide +kernel
theorem dX6_digest_255 : decode cX6_digest 255 = .ok (.lload_n 1, 1) := by decide +kernel
theorem dX6_digest_256 : decode cX6_digest 256 = .ok (.aload_n 0, 1) := by decide +kernel
theorem dX6_digest_257 : decode cX6_digest 257 = .ok (.iload_n 3, 1) := by decide +kernel
theorem dX6_digest_258 : decode cX6_digest 258 = .ok (.invokevirtual 234, 3) := by decide +kernel
theorem dX6_digest_261 : decode cX6_digest 261 = .ok (.i2l, 1) := by decide +kernel
theorem dX6_digest_262 : decode cX6_digest 262 = .ok (.invokestatic 218, 3) := by decide +kernel
theorem dX6_digest_265 : decode cX6_digest 265 = .ok (.lstore_n 1, 1) := by decide +kernel
theorem dX6_digest_266 : decode cX6_digest 266 = .ok (.iinc 3 1, 3) := by decide +kernel
theorem dX6_digest_269 : decode cX6_digest 269 = .ok (.goto (-20), 3) := by decide +kernel
theorem dX6_digest_272 : decode cX6_digest 272 = .ok (.lload_n 1, 1) := by decide +kernel
theorem dX6_digest_273 : decode cX6_digest 273 = .ok (.lreturn, 1) := by decide +kernel
theorem dX6_mixed_0 : decode cX6_mixed 0 = .ok (.ldc2_w 237, 3) := by decide +kernel
theorem dX6_mixed_3 : decode cX6_mixed 3 = .ok (.lload_n 0, 1) := by decide +kernel
theorem dX6_mixed_4 : decode cX6_mixed 4 = .ok (.lmul, 1) := by decide +kernel
theorem dX6_mixed_5 : decode cX6_mixed 5 = .ok (.lload_n 2, 1) := by decide +kernel
theorem dX6_mixed_6 : decode cX6_mixed 6 = .ok (.ladd, 1) := by decide +kernel
theorem dX6_mixed_7 : decode cX6_mixed 7 = .ok (.lreturn, 1) := by decide +kernel
theorem dX6_isSpeaker_0 : decode cX6_isSpeaker 0 = .ok (.iload_n 1, 1) := by decide +kernel
theorem dX6_isSpeaker_1 : decode cX6_isSpeaker 1 = .ok (.ifCond .lt 18, 3) := by decide +kernel
theorem dX6_isSpeaker_4 : decode cX6_isSpeaker 4 = .ok (.iload_n 1, 1) := by decide +kernel
theorem dX6_isSpeaker_5 : decode cX6_isSpeaker 5 = .ok (.aload_n 0, 1) := by decide +kernel
theorem dX6_isSpeaker_6 : decode cX6_isSpeaker 6 = .ok (.getfield 26, 3) := by decide +kernel
theorem dX6_isSpeaker_9 : decode cX6_isSpeaker 9 = .ok (.getfield 92, 3) := by decide +kernel
theorem dX6_isSpeaker_12 : decode cX6_isSpeaker 12 = .ok (.if_icmp .ge 7, 3) := by decide +kernel
theorem dX6_isSpeaker_15 : decode cX6_isSpeaker 15 = .ok (.iconst 1, 1) := by decide +kernel
theorem dX6_isSpeaker_16 : decode cX6_isSpeaker 16 = .ok (.goto 4, 3) := by decide +kernel
theorem dX6_isSpeaker_19 : decode cX6_isSpeaker 19 = .ok (.iconst 0, 1) := by decide +kernel
theorem dX6_isSpeaker_20 : decode cX6_isSpeaker 20 = .ok (.ireturn, 1) := by decide +kernel
theorem dX6_isSentence_0 : decode cX6_isSentence 0 = .ok (.iload_n 1, 1) := by decide +kernel
theorem dX6_isSentence_1 : decode cX6_isSentence 1 = .ok (.ifCond .lt 18, 3) := by decide +kernel
theorem dX6_isSentence_4 : decode cX6_isSentence 4 = .ok (.iload_n 1, 1) := by decide +kernel
theorem dX6_isSentence_5 : decode cX6_isSentence 5 = .ok (.aload_n 0, 1) := by decide +kernel
theorem dX6_isSentence_6 : decode cX6_isSentence 6 = .ok (.getfield 33, 3) := by decide +kernel
theorem dX6_isSentence_9 : decode cX6_isSentence 9 = .ok (.getfield 145, 3) := by decide +kernel
theorem dX6_isSentence_12 : decode cX6_isSentence 12 = .ok (.if_icmp .ge 7, 3) := by decide +kernel
theorem dX6_isSentence_15 : decode cX6_isSentence 15 = .ok (.iconst 1, 1) := by decide +kernel
theorem dX6_isSentence_16 : decode cX6_isSentence 16 = .ok (.goto 4, 3) := by decide +kernel
theorem dX6_isSentence_19 : decode cX6_isSentence 19 = .ok (.iconst 0, 1) := by decide +kernel
theorem dX6_isSentence_20 : decode cX6_isSentence 20 = .ok (.ireturn, 1) := by decide +kernel
theorem dX6_isOpening_0 : decode cX6_isOpening 0 = .ok (.iload_n 0, 1) := by decide +kernel
theorem dX6_isOpening_1 : decode cX6_isOpening 1 = .ok (.ifCond .lt 12, 3) := by decide +kernel
theorem dX6_isOpening_4 : decode cX6_isOpening 4 = .ok (.iload_n 0, 1) := by decide +kernel
theorem dX6_isOpening_5 : decode cX6_isOpening 5 = .ok (.iconst 4, 1) := by decide +kernel
theorem dX6_isOpening_6 : decode cX6_isOpening 6 = .ok (.if_icmp .ge 7, 3) := by decide +kernel
theorem dX6_isOpening_9 : decode cX6_isOpening 9 = .ok (.iconst 1, 1) := by decide +kernel
theorem dX6_isOpening_10 : decode cX6_isOpening 10 = .ok (.goto 4, 3) := by decide +kernel
theorem dX6_isOpening_13 : decode cX6_isOpening 13 = .ok (.iconst 0, 1) := by decide +kernel
theorem dX6_isOpening_14 : decode cX6_isOpening 14 = .ok (.ireturn, 1) := by decide +kernel
theorem dX6_isEnding_0 : decode cX6_isEnding 0 = .ok (.iload_n 0, 1) := by decide +kernel
theorem dX6_isEnding_1 : decode cX6_isEnding 1 = .ok (.ifCond .lt 13, 3) := by decide +kernel
theorem dX6_isEnding_4 : decode cX6_isEnding 4 = .ok (.iload_n 0, 1) := by decide +kernel
theorem dX6_isEnding_5 : decode cX6_isEnding 5 = .ok (.bipush 6, 2) := by decide +kernel
theorem dX6_isEnding_7 : decode cX6_isEnding 7 = .ok (.if_icmp .ge 7, 3) := by decide +kernel
theorem dX6_isEnding_10 : decode cX6_isEnding 10 = .ok (.iconst 1, 1) := by decide +kernel
theorem dX6_isEnding_11 : decode cX6_isEnding 11 = .ok (.goto 4, 3) := by decide +kernel
theorem dX6_isEnding_14 : decode cX6_isEnding 14 = .ok (.iconst 0, 1) := by decide +kernel
theorem dX6_isEnding_15 : decode cX6_isEnding 15 = .ok (.ireturn, 1) := by decide +kernel
theorem dX6_isOfKind_0 : decode cX6_isOfKind 0 = .ok (.iload_n 1, 1) := by decide +kernel
theorem dX6_isOfKind_1 : decode cX6_isOfKind 1 = .ok (.ifCond .eq 18, 3) := by decide +kernel
theorem dX6_isOfKind_4 : decode cX6_isOfKind 4 = .ok (.iload_n 1, 1) := by decide +kernel
theorem dX6_isOfKind_5 : decode cX6_isOfKind 5 = .ok (.iload_n 0, 1) := by decide +kernel
theorem dX6_isOfKind_6 : decode cX6_isOfKind 6 = .ok (.if_icmp .eq 13, 3) := by decide +kernel
theorem dX6_isOfKind_9 : decode cX6_isOfKind 9 = .ok (.iload_n 1, 1) := by decide +kernel
theorem dX6_isOfKind_10 : decode cX6_isOfKind 10 = .ok (.iconst 3, 1) := by decide +kernel
theorem dX6_isOfKind_11 : decode cX6_isOfKind 11 = .ok (.if_icmp .ne 12, 3) := by decide +kernel
theorem dX6_isOfKind_14 : decode cX6_isOfKind 14 = .ok (.iload_n 0, 1) := by decide +kernel
theorem dX6_isOfKind_15 : decode cX6_isOfKind 15 = .ok (.iconst 4, 1) := by decide +kernel
theorem dX6_isOfKind_16 : decode cX6_isOfKind 16 = .ok (.if_icmp .ne 7, 3) := by decide +kernel
theorem dX6_isOfKind_19 : decode cX6_isOfKind 19 = .ok (.iconst 1, 1) := by decide +kernel
theorem dX6_isOfKind_20 : decode cX6_isOfKind 20 = .ok (.goto 4, 3) := by decide +kernel
theorem dX6_isOfKind_23 : decode cX6_isOfKind 23 = .ok (.iconst 0, 1) := by decide +kernel
theorem dX6_isOfKind_24 : decode cX6_isOfKind 24 = .ok (.ireturn, 1) := by decide +kernel
theorem dX6_endingBy_0 : decode cX6_endingBy 0 = .ok (.iload_n 1, 1) := by decide +kernel
theorem dX6_endingBy_1 : decode cX6_endingBy 1 = .ok (.iload_n 3, 1) := by decide +kernel
theorem dX6_endingBy_2 : decode cX6_endingBy 2 = .ok (.iconst (-1), 1) := by decide +kernel
theorem dX6_endingBy_3 : decode cX6_endingBy 3 = .ok (.ixor, 1) := by decide +kernel
theorem dX6_endingBy_4 : decode cX6_endingBy 4 = .ok (.iand, 1) := by decide +kernel
theorem dX6_endingBy_5 : decode cX6_endingBy 5 = .ok (.istore 4, 2) := by decide +kernel
theorem dX6_endingBy_7 : decode cX6_endingBy 7 = .ok (.iload_n 0, 1) := by decide +kernel
theorem dX6_endingBy_8 : decode cX6_endingBy 8 = .ok (.tableswitch 68 1 4 #[32, 46, 48, 53], 32) := by decide +kernel
theorem dX6_endingBy_40 : decode cX6_endingBy 40 = .ok (.iload_n 1, 1) := by decide +kernel
theorem dX6_endingBy_41 : decode cX6_endingBy 41 = .ok (.iload_n 2, 1) := by decide +kernel
theorem dX6_endingBy_42 : decode cX6_endingBy 42 = .ok (.invokestatic 239, 3) := by decide +kernel
theorem dX6_endingBy_45 : decode cX6_endingBy 45 = .ok (.ifCond .eq 7, 3) := by decide +kernel
theorem dX6_endingBy_48 : decode cX6_endingBy 48 = .ok (.iload_n 2, 1) := by decide +kernel
theorem dX6_endingBy_49 : decode cX6_endingBy 49 = .ok (.goto 4, 3) := by decide +kernel
theorem dX6_endingBy_52 : decode cX6_endingBy 52 = .ok (.iconst (-1), 1) := by decide +kernel
theorem dX6_endingBy_53 : decode cX6_endingBy 53 = .ok (.ireturn, 1) := by decide +kernel
theorem dX6_endingBy_54 : decode cX6_endingBy 54 = .ok (.iload_n 2, 1) := by decide +kernel
theorem dX6_endingBy_55 : decode cX6_endingBy 55 = .ok (.ireturn, 1) := by decide +kernel
theorem dX6_endingBy_56 : decode cX6_endingBy 56 = .ok (.iload_n 1, 1) := by decide +kernel
theorem dX6_endingBy_57 : decode cX6_endingBy 57 = .ok (.invokestatic 242, 3) := by decide +kernel
theorem dX6_endingBy_60 : decode cX6_endingBy 60 = .ok (.ireturn, 1) := by decide +kernel
theorem dX6_endingBy_61 : decode cX6_endingBy 61 = .ok (.iload 4, 2) := by decide +kernel
theorem dX6_endingBy_63 : decode cX6_endingBy 63 = .ok (.ifCond .eq 8, 3) := by decide +kernel
theorem dX6_endingBy_66 : decode cX6_endingBy 66 = .ok (.iload 4, 2) := by decide +kernel
theorem dX6_endingBy_68 : decode cX6_endingBy 68 = .ok (.goto 4, 3) := by decide +kernel
theorem dX6_endingBy_71 : decode cX6_endingBy 71 = .ok (.iload_n 1, 1) := by decide +kernel
theorem dX6_endingBy_72 : decode cX6_endingBy 72 = .ok (.invokestatic 242, 3) := by decide +kernel
theorem dX6_endingBy_75 : decode cX6_endingBy 75 = .ok (.ireturn, 1) := by decide +kernel
theorem dX6_endingBy_76 : decode cX6_endingBy 76 = .ok (.iload_n 1, 1) := by decide +kernel
theorem dX6_endingBy_77 : decode cX6_endingBy 77 = .ok (.iload_n 2, 1) := by decide +kernel
theorem dX6_endingBy_78 : decode cX6_endingBy 78 = .ok (.invokestatic 239, 3) := by decide +kernel
theorem dX6_endingBy_81 : decode cX6_endingBy 81 = .ok (.ifCond .eq 7, 3) := by decide +kernel
theorem dX6_endingBy_84 : decode cX6_endingBy 84 = .ok (.iload_n 2, 1) := by decide +kernel
theorem dX6_endingBy_85 : decode cX6_endingBy 85 = .ok (.goto 7, 3) := by decide +kernel
theorem dX6_endingBy_88 : decode cX6_endingBy 88 = .ok (.iload_n 1, 1) := by decide +kernel
theorem dX6_endingBy_89 : decode cX6_endingBy 89 = .ok (.invokestatic 245, 3) := by decide +kernel
theorem dX6_endingBy_92 : decode cX6_endingBy 92 = .ok (.ireturn, 1) := by decide +kernel
theorem dX6_endingNow_0 : decode cX6_endingNow 0 = .ok (.aload_n 0, 1) := by decide +kernel
theorem dX6_endingNow_1 : decode cX6_endingNow 1 = .ok (.getfield 26, 3) := by decide +kernel
theorem dX6_endingNow_4 : decode cX6_endingNow 4 = .ok (.getfield 105, 3) := by decide +kernel
theorem dX6_endingNow_7 : decode cX6_endingNow 7 = .ok (.iload_n 1, 1) := by decide +kernel
theorem dX6_endingNow_8 : decode cX6_endingNow 8 = .ok (.iaload, 1) := by decide +kernel
theorem dX6_endingNow_9 : decode cX6_endingNow 9 = .ok (.aload_n 0, 1) := by decide +kernel
theorem dX6_endingNow_10 : decode cX6_endingNow 10 = .ok (.getfield 26, 3) := by decide +kernel
theorem dX6_endingNow_13 : decode cX6_endingNow 13 = .ok (.getfield 99, 3) := by decide +kernel
theorem dX6_endingNow_16 : decode cX6_endingNow 16 = .ok (.iload_n 2, 1) := by decide +kernel
theorem dX6_endingNow_17 : decode cX6_endingNow 17 = .ok (.iaload, 1) := by decide +kernel
theorem dX6_endingNow_18 : decode cX6_endingNow 18 = .ok (.aload_n 0, 1) := by decide +kernel
theorem dX6_endingNow_19 : decode cX6_endingNow 19 = .ok (.getfield 33, 3) := by decide +kernel
theorem dX6_endingNow_22 : decode cX6_endingNow 22 = .ok (.getfield 108, 3) := by decide +kernel
theorem dX6_endingNow_25 : decode cX6_endingNow 25 = .ok (.iload_n 1, 1) := by decide +kernel
theorem dX6_endingNow_26 : decode cX6_endingNow 26 = .ok (.iaload, 1) := by decide +kernel
theorem dX6_endingNow_27 : decode cX6_endingNow 27 = .ok (.aload_n 0, 1) := by decide +kernel
theorem dX6_endingNow_28 : decode cX6_endingNow 28 = .ok (.getfield 33, 3) := by decide +kernel
theorem dX6_endingNow_31 : decode cX6_endingNow 31 = .ok (.iload_n 1, 1) := by decide +kernel
theorem dX6_endingNow_32 : decode cX6_endingNow 32 = .ok (.invokevirtual 109, 3) := by decide +kernel
theorem dX6_endingNow_35 : decode cX6_endingNow 35 = .ok (.invokestatic 248, 3) := by decide +kernel
theorem dX6_endingNow_38 : decode cX6_endingNow 38 = .ok (.ireturn, 1) := by decide +kernel
theorem dX6_has_0 : decode cX6_has 0 = .ok (.iload_n 0, 1) := by decide +kernel
theorem dX6_has_1 : decode cX6_has 1 = .ok (.iconst 1, 1) := by decide +kernel
theorem dX6_has_2 : decode cX6_has 2 = .ok (.iload_n 1, 1) := by decide +kernel
theorem dX6_has_3 : decode cX6_has 3 = .ok (.ishl, 1) := by decide +kernel
theorem dX6_has_4 : decode cX6_has 4 = .ok (.iand, 1) := by decide +kernel
theorem dX6_has_5 : decode cX6_has 5 = .ok (.ifCond .eq 7, 3) := by decide +kernel
theorem dX6_has_8 : decode cX6_has 8 = .ok (.iconst 1, 1) := by decide +kernel
theorem dX6_has_9 : decode cX6_has 9 = .ok (.goto 4, 3) := by decide +kernel
theorem dX6_has_12 : decode cX6_has 12 = .ok (.iconst 0, 1) := by decide +kernel
theorem dX6_has_13 : decode cX6_has 13 = .ok (.ireturn, 1) := by decide +kernel
theorem dX6_least_0 : decode cX6_least 0 = .ok (.iconst 0, 1) := by decide +kernel
theorem dX6_least_1 : decode cX6_least 1 = .ok (.istore_n 1, 1) := by decide +kernel
theorem dX6_least_2 : decode cX6_least 2 = .ok (.iload_n 1, 1) := by decide +kernel
theorem dX6_least_3 : decode cX6_least 3 = .ok (.bipush 6, 2) := by decide +kernel
theorem dX6_least_5 : decode cX6_least 5 = .ok (.if_icmp .ge 19, 3) := by decide +kernel
theorem dX6_least_8 : decode cX6_least 8 = .ok (.iload_n 0, 1) := by decide +kernel
theorem dX6_least_9 : decode cX6_least 9 = .ok (.iconst 1, 1) := by decide +kernel
theorem dX6_least_10 : decode cX6_least 10 = .ok (.iload_n 1, 1) := by decide +kernel
theorem dX6_least_11 : decode cX6_least 11 = .ok (.ishl, 1) := by decide +kernel
theorem dX6_least_12 : decode cX6_least 12 = .ok (.iand, 1) := by decide +kernel
theorem dX6_least_13 : decode cX6_least 13 = .ok (.ifCond .eq 5, 3) := by decide +kernel
theorem dX6_least_16 : decode cX6_least 16 = .ok (.iload_n 1, 1) := by decide +kernel
theorem dX6_least_17 : decode cX6_least 17 = .ok (.ireturn, 1) := by decide +kernel
theorem dX6_least_18 : decode cX6_least 18 = .ok (.iinc 1 1, 3) := by decide +kernel
theorem dX6_least_21 : decode cX6_least 21 = .ok (.goto (-19), 3) := by decide +kernel
theorem dX6_least_24 : decode cX6_least 24 = .ok (.iconst (-1), 1) := by decide +kernel
theorem dX6_least_25 : decode cX6_least 25 = .ok (.ireturn, 1) := by decide +kernel
theorem dX6_greatest_0 : decode cX6_greatest 0 = .ok (.iconst 5, 1) := by decide +kernel
theorem dX6_greatest_1 : decode cX6_greatest 1 = .ok (.istore_n 1, 1) := by decide +kernel
theorem dX6_greatest_2 : decode cX6_greatest 2 = .ok (.iload_n 1, 1) := by decide +kernel
theorem dX6_greatest_3 : decode cX6_greatest 3 = .ok (.ifCond .lt 19, 3) := by decide +kernel
theorem dX6_greatest_6 : decode cX6_greatest 6 = .ok (.iload_n 0, 1) := by decide +kernel
theorem dX6_greatest_7 : decode cX6_greatest 7 = .ok (.iconst 1, 1) := by decide +kernel
theorem dX6_greatest_8 : decode cX6_greatest 8 = .ok (.iload_n 1, 1) := by decide +kernel
theorem dX6_greatest_9 : decode cX6_greatest 9 = .ok (.ishl, 1) := by decide +kernel
theorem dX6_greatest_10 : decode cX6_greatest 10 = .ok (.iand, 1) := by decide +kernel
theorem dX6_greatest_11 : decode cX6_greatest 11 = .ok (.ifCond .eq 5, 3) := by decide +kernel
theorem dX6_greatest_14 : decode cX6_greatest 14 = .ok (.iload_n 1, 1) := by decide +kernel
theorem dX6_greatest_15 : decode cX6_greatest 15 = .ok (.ireturn, 1) := by decide +kernel
theorem dX6_greatest_16 : decode cX6_greatest 16 = .ok (.iinc 1 (-1), 3) := by decide +kernel
theorem dX6_greatest_19 : decode cX6_greatest 19 = .ok (.goto (-17), 3) := by decide +kernel
theorem dX6_greatest_22 : decode cX6_greatest 22 = .ok (.iconst (-1), 1) := by decide +kernel
theorem dX6_greatest_23 : decode cX6_greatest 23 = .ok (.ireturn, 1) := by decide +kernel
theorem dX6_sureOpening_0 : decode cX6_sureOpening 0 = .ok (.iconst 0, 1) := by decide +kernel
theorem dX6_sureOpening_1 : decode cX6_sureOpening 1 = .ok (.istore_n 2, 1) := by decide +kernel
theorem dX6_sureOpening_2 : decode cX6_sureOpening 2 = .ok (.iload_n 2, 1) := by decide +kernel
theorem dX6_sureOpening_3 : decode cX6_sureOpening 3 = .ok (.iconst 4, 1) := by decide +kernel
theorem dX6_sureOpening_4 : decode cX6_sureOpening 4 = .ok (.if_icmp .ge 20, 3) := by decide +kernel
theorem dX6_sureOpening_7 : decode cX6_sureOpening 7 = .ok (.aload_n 0, 1) := by decide +kernel
theorem dX6_sureOpening_8 : decode cX6_sureOpening 8 = .ok (.iload_n 1, 1) := by decide +kernel
theorem dX6_sureOpening_9 : decode cX6_sureOpening 9 = .ok (.iload_n 2, 1) := by decide +kernel
theorem dX6_sureOpening_10 : decode cX6_sureOpening 10 = .ok (.invokevirtual 252, 3) := by decide +kernel
theorem dX6_sureOpening_13 : decode cX6_sureOpening 13 = .ok (.ifCond .eq 5, 3) := by decide +kernel
theorem dX6_sureOpening_16 : decode cX6_sureOpening 16 = .ok (.iload_n 2, 1) := by decide +kernel
theorem dX6_sureOpening_17 : decode cX6_sureOpening 17 = .ok (.ireturn, 1) := by decide +kernel
theorem dX6_sureOpening_18 : decode cX6_sureOpening 18 = .ok (.iinc 2 1, 3) := by decide +kernel
theorem dX6_sureOpening_21 : decode cX6_sureOpening 21 = .ok (.goto (-19), 3) := by decide +kernel
theorem dX6_sureOpening_24 : decode cX6_sureOpening 24 = .ok (.iconst (-1), 1) := by decide +kernel
theorem dX6_sureOpening_25 : decode cX6_sureOpening 25 = .ok (.ireturn, 1) := by decide +kernel
theorem dX6_isSure_0 : decode cX6_isSure 0 = .ok (.iconst 0, 1) := by decide +kernel
theorem dX6_isSure_1 : decode cX6_isSure 1 = .ok (.istore_n 3, 1) := by decide +kernel
theorem dX6_isSure_2 : decode cX6_isSure 2 = .ok (.iconst 0, 1) := by decide +kernel
theorem dX6_isSure_3 : decode cX6_isSure 3 = .ok (.istore 4, 2) := by decide +kernel
theorem dX6_isSure_5 : decode cX6_isSure 5 = .ok (.iload 4, 2) := by decide +kernel
theorem dX6_isSure_7 : decode cX6_isSure 7 = .ok (.aload_n 0, 1) := by decide +kernel
theorem dX6_isSure_8 : decode cX6_isSure 8 = .ok (.getfield 26, 3) := by decide +kernel
theorem dX6_isSure_11 : decode cX6_isSure 11 = .ok (.getfield 92, 3) := by decide +kernel
theorem dX6_isSure_14 : decode cX6_isSure 14 = .ok (.if_icmp .ge 66, 3) := by decide +kernel
theorem dX6_isSure_17 : decode cX6_isSure 17 = .ok (.iload 4, 2) := by decide +kernel
theorem dX6_isSure_19 : decode cX6_isSure 19 = .ok (.iload_n 1, 1) := by decide +kernel
theorem dX6_isSure_20 : decode cX6_isSure 20 = .ok (.if_icmp .ne 7, 3) := by decide +kernel
theorem dX6_isSure_23 : decode cX6_isSure 23 = .ok (.iconst (-1), 1) := by decide +kernel
theorem dX6_isSure_24 : decode cX6_isSure 24 = .ok (.goto 10, 3) := by decide +kernel
theorem dX6_isSure_27 : decode cX6_isSure 27 = .ok (.aload_n 0, 1) := by decide +kernel
theorem dX6_isSure_28 : decode cX6_isSure 28 = .ok (.iload 4, 2) := by decide +kernel
theorem dX6_isSure_30 : decode cX6_isSure 30 = .ok (.iload_n 2, 1) := by decide +kernel
theorem dX6_isSure_31 : decode cX6_isSure 31 = .ok (.invokevirtual 142, 3) := by decide +kernel
theorem dX6_isSure_34 : decode cX6_isSure 34 = .ok (.istore 5, 2) := by decide +kernel
theorem dX6_isSure_36 : decode cX6_isSure 36 = .ok (.iload 5, 2) := by decide +kernel
theorem dX6_isSure_38 : decode cX6_isSure 38 = .ok (.iconst (-1), 1) := by decide +kernel
theorem dX6_isSure_39 : decode cX6_isSure 39 = .ok (.if_icmp .eq 19, 3) := by decide +kernel
theorem dX6_isSure_42 : decode cX6_isSure 42 = .ok (.iload 5, 2) := by decide +kernel
theorem dX6_isSure_44 : decode cX6_isSure 44 = .ok (.aload_n 0, 1) := by decide +kernel
theorem dX6_isSure_45 : decode cX6_isSure 45 = .ok (.getfield 33, 3) := by decide +kernel
theorem dX6_isSure_48 : decode cX6_isSure 48 = .ok (.getfield 108, 3) := by decide +kernel
theorem dX6_isSure_51 : decode cX6_isSure 51 = .ok (.iload_n 1, 1) := by decide +kernel
theorem dX6_isSure_52 : decode cX6_isSure 52 = .ok (.iaload, 1) := by decide +kernel
theorem dX6_isSure_53 : decode cX6_isSure 53 = .ok (.if_icmp .eq 5, 3) := by decide +kernel
theorem dX6_isSure_56 : decode cX6_isSure 56 = .ok (.iconst 0, 1) := by decide +kernel
theorem dX6_isSure_57 : decode cX6_isSure 57 = .ok (.ireturn, 1) := by decide +kernel
theorem dX6_isSure_58 : decode cX6_isSure 58 = .ok (.iload_n 3, 1) := by decide +kernel
theorem dX6_isSure_59 : decode cX6_isSure 59 = .ok (.ifCond .ne 9, 3) := by decide +kernel
theorem dX6_isSure_62 : decode cX6_isSure 62 = .ok (.iload 5, 2) := by decide +kernel
theorem dX6_isSure_64 : decode cX6_isSure 64 = .ok (.iconst (-1), 1) := by decide +kernel
theorem dX6_isSure_65 : decode cX6_isSure 65 = .ok (.if_icmp .eq 7, 3) := by decide +kernel
theorem dX6_isSure_68 : decode cX6_isSure 68 = .ok (.iconst 1, 1) := by decide +kernel
theorem dX6_isSure_69 : decode cX6_isSure 69 = .ok (.goto 4, 3) := by decide +kernel
theorem dX6_isSure_72 : decode cX6_isSure 72 = .ok (.iconst 0, 1) := by decide +kernel
theorem dX6_isSure_73 : decode cX6_isSure 73 = .ok (.istore_n 3, 1) := by decide +kernel
theorem dX6_isSure_74 : decode cX6_isSure 74 = .ok (.iinc 4 1, 3) := by decide +kernel
theorem dX6_isSure_77 : decode cX6_isSure 77 = .ok (.goto (-72), 3) := by decide +kernel
theorem dX6_isSure_80 : decode cX6_isSure 80 = .ok (.iload_n 3, 1) := by decide +kernel
theorem dX6_isSure_81 : decode cX6_isSure 81 = .ok (.ireturn, 1) := by decide +kernel
theorem dX6_possibleKinds_0 : decode cX6_possibleKinds 0 = .ok (.iconst 0, 1) := by decide +kernel
theorem dX6_possibleKinds_1 : decode cX6_possibleKinds 1 = .ok (.istore_n 2, 1) := by decide +kernel
theorem dX6_possibleKinds_2 : decode cX6_possibleKinds 2 = .ok (.iconst 0, 1) := by decide +kernel
theorem dX6_possibleKinds_3 : decode cX6_possibleKinds 3 = .ok (.istore_n 3, 1) := by decide +kernel
theorem dX6_possibleKinds_4 : decode cX6_possibleKinds 4 = .ok (.iload_n 3, 1) := by decide +kernel
theorem dX6_possibleKinds_5 : decode cX6_possibleKinds 5 = .ok (.iconst 5, 1) := by decide +kernel
theorem dX6_possibleKinds_6 : decode cX6_possibleKinds 6 = .ok (.if_icmp .ge 24, 3) := by decide +kernel
theorem dX6_possibleKinds_9 : decode cX6_possibleKinds 9 = .ok (.aload_n 0, 1) := by decide +kernel
theorem dX6_possibleKinds_10 : decode cX6_possibleKinds 10 = .ok (.iload_n 1, 1) := by decide +kernel
theorem dX6_possibleKinds_11 : decode cX6_possibleKinds 11 = .ok (.iload_n 3, 1) := by decide +kernel
theorem dX6_possibleKinds_12 : decode cX6_possibleKinds 12 = .ok (.invokevirtual 255, 3) := by decide +kernel
theorem dX6_possibleKinds_15 : decode cX6_possibleKinds 15 = .ok (.ifCond .eq 9, 3) := by decide +kernel
theorem dX6_possibleKinds_18 : decode cX6_possibleKinds 18 = .ok (.iload_n 2, 1) := by decide +kernel
theorem dX6_possibleKinds_19 : decode cX6_possibleKinds 19 = .ok (.iconst 1, 1) := by decide +kernel
theorem dX6_possibleKinds_20 : decode cX6_possibleKinds 20 = .ok (.iload_n 3, 1) := by decide +kernel
theorem dX6_possibleKinds_21 : decode cX6_possibleKinds 21 = .ok (.ishl, 1) := by decide +kernel
theorem dX6_possibleKinds_22 : decode cX6_possibleKinds 22 = .ok (.ior, 1) := by decide +kernel
theorem dX6_possibleKinds_23 : decode cX6_possibleKinds 23 = .ok (.istore_n 2, 1) := by decide +kernel
theorem dX6_possibleKinds_24 : decode cX6_possibleKinds 24 = .ok (.iinc 3 1, 3) := by decide +kernel
theorem dX6_possibleKinds_27 : decode cX6_possibleKinds 27 = .ok (.goto (-23), 3) := by decide +kernel
theorem dX6_possibleKinds_30 : decode cX6_possibleKinds 30 = .ok (.iload_n 2, 1) := by decide +kernel
theorem dX6_possibleKinds_31 : decode cX6_possibleKinds 31 = .ok (.ireturn, 1) := by decide +kernel
theorem dX6_agreesWithHeard_0 : decode cX6_agreesWithHeard 0 = .ok (.iconst 0, 1) := by decide +kernel
theorem dX6_agreesWithHeard_1 : decode cX6_agreesWithHeard 1 = .ok (.istore_n 3, 1) := by decide +kernel
theorem dX6_agreesWithHeard_2 : decode cX6_agreesWithHeard 2 = .ok (.iload_n 3, 1) := by decide +kernel
theorem dX6_agreesWithHeard_3 : decode cX6_agreesWithHeard 3 = .ok (.aload_n 0, 1) := by decide +kernel
theorem dX6_agreesWithHeard_4 : decode cX6_agreesWithHeard 4 = .ok (.getfield 33, 3) := by decide +kernel
theorem dX6_agreesWithHeard_7 : decode cX6_agreesWithHeard 7 = .ok (.getfield 184, 3) := by decide +kernel
theorem dX6_agreesWithHeard_10 : decode cX6_agreesWithHeard 10 = .ok (.if_icmp .ge 71, 3) := by decide +kernel
theorem dX6_agreesWithHeard_13 : decode cX6_agreesWithHeard 13 = .ok (.aload_n 0, 1) := by decide +kernel
theorem dX6_agreesWithHeard_14 : decode cX6_agreesWithHeard 14 = .ok (.getfield 33, 3) := by decide +kernel
theorem dX6_agreesWithHeard_17 : decode cX6_agreesWithHeard 17 = .ok (.getfield 258, 3) := by decide +kernel
theorem dX6_agreesWithHeard_20 : decode cX6_agreesWithHeard 20 = .ok (.iload_n 3, 1) := by decide +kernel
theorem dX6_agreesWithHeard_21 : decode cX6_agreesWithHeard 21 = .ok (.iaload, 1) := by decide +kernel
theorem dX6_agreesWithHeard_22 : decode cX6_agreesWithHeard 22 = .ok (.iload_n 1, 1) := by decide +kernel
theorem dX6_agreesWithHeard_23 : decode cX6_agreesWithHeard 23 = .ok (.if_icmp .ne 52, 3) := by decide +kernel
theorem dX6_agreesWithHeard_26 : decode cX6_agreesWithHeard 26 = .ok (.aload_n 0, 1) := by decide +kernel
theorem dX6_agreesWithHeard_27 : decode cX6_agreesWithHeard 27 = .ok (.getfield 26, 3) := by decide +kernel
theorem dX6_agreesWithHeard_30 : decode cX6_agreesWithHeard 30 = .ok (.getfield 99, 3) := by decide +kernel
theorem dX6_agreesWithHeard_33 : decode cX6_agreesWithHeard 33 = .ok (.aload_n 0, 1) := by decide +kernel
theorem dX6_agreesWithHeard_34 : decode cX6_agreesWithHeard 34 = .ok (.getfield 33, 3) := by decide +kernel
theorem dX6_agreesWithHeard_37 : decode cX6_agreesWithHeard 37 = .ok (.getfield 261, 3) := by decide +kernel
theorem dX6_agreesWithHeard_40 : decode cX6_agreesWithHeard 40 = .ok (.iload_n 3, 1) := by decide +kernel
theorem dX6_agreesWithHeard_41 : decode cX6_agreesWithHeard 41 = .ok (.iaload, 1) := by decide +kernel
theorem dX6_agreesWithHeard_42 : decode cX6_agreesWithHeard 42 = .ok (.iaload, 1) := by decide +kernel
theorem dX6_agreesWithHeard_43 : decode cX6_agreesWithHeard 43 = .ok (.istore 4, 2) := by decide +kernel
theorem dX6_agreesWithHeard_45 : decode cX6_agreesWithHeard 45 = .ok (.iload_n 2, 1) := by decide +kernel
theorem dX6_agreesWithHeard_46 : decode cX6_agreesWithHeard 46 = .ok (.iload 4, 2) := by decide +kernel
theorem dX6_agreesWithHeard_48 : decode cX6_agreesWithHeard 48 = .ok (.aload_n 0, 1) := by decide +kernel
theorem dX6_agreesWithHeard_49 : decode cX6_agreesWithHeard 49 = .ok (.getfield 33, 3) := by decide +kernel
theorem dX6_agreesWithHeard_52 : decode cX6_agreesWithHeard 52 = .ok (.getfield 108, 3) := by decide +kernel
theorem dX6_agreesWithHeard_55 : decode cX6_agreesWithHeard 55 = .ok (.iload_n 1, 1) := by decide +kernel
theorem dX6_agreesWithHeard_56 : decode cX6_agreesWithHeard 56 = .ok (.iaload, 1) := by decide +kernel
theorem dX6_agreesWithHeard_57 : decode cX6_agreesWithHeard 57 = .ok (.iconst 0, 1) := by decide +kernel
theorem dX6_agreesWithHeard_58 : decode cX6_agreesWithHeard 58 = .ok (.invokestatic 248, 3) := by decide +kernel
theorem dX6_agreesWithHeard_61 : decode cX6_agreesWithHeard 61 = .ok (.aload_n 0, 1) := by decide +kernel
theorem dX6_agreesWithHeard_62 : decode cX6_agreesWithHeard 62 = .ok (.getfield 33, 3) := by decide +kernel
theorem dX6_agreesWithHeard_65 : decode cX6_agreesWithHeard 65 = .ok (.getfield 264, 3) := by decide +kernel
theorem dX6_agreesWithHeard_68 : decode cX6_agreesWithHeard 68 = .ok (.iload_n 3, 1) := by decide +kernel
theorem dX6_agreesWithHeard_69 : decode cX6_agreesWithHeard 69 = .ok (.iaload, 1) := by decide +kernel
theorem dX6_agreesWithHeard_70 : decode cX6_agreesWithHeard 70 = .ok (.if_icmp .eq 5, 3) := by decide +kernel
theorem dX6_agreesWithHeard_73 : decode cX6_agreesWithHeard 73 = .ok (.iconst 0, 1) := by decide +kernel
theorem dX6_agreesWithHeard_74 : decode cX6_agreesWithHeard 74 = .ok (.ireturn, 1) := by decide +kernel
theorem dX6_agreesWithHeard_75 : decode cX6_agreesWithHeard 75 = .ok (.iinc 3 1, 3) := by decide +kernel
theorem dX6_agreesWithHeard_78 : decode cX6_agreesWithHeard 78 = .ok (.goto (-76), 3) := by decide +kernel
theorem dX6_agreesWithHeard_81 : decode cX6_agreesWithHeard 81 = .ok (.iconst 1, 1) := by decide +kernel
theorem dX6_agreesWithHeard_82 : decode cX6_agreesWithHeard 82 = .ok (.ireturn, 1) := by decide +kernel
theorem dX6_tellingOpening_0 : decode cX6_tellingOpening 0 = .ok (.iload_n 2, 1) := by decide +kernel
theorem dX6_tellingOpening_1 : decode cX6_tellingOpening 1 = .ok (.ifCond .ne 5, 3) := by decide +kernel
theorem dX6_tellingOpening_4 : decode cX6_tellingOpening 4 = .ok (.iconst (-1), 1) := by decide +kernel
theorem dX6_tellingOpening_5 : decode cX6_tellingOpening 5 = .ok (.ireturn, 1) := by decide +kernel
theorem dX6_tellingOpening_6 : decode cX6_tellingOpening 6 = .ok (.iconst (-1), 1) := by decide +kernel
theorem dX6_tellingOpening_7 : decode cX6_tellingOpening 7 = .ok (.istore_n 3, 1) := by decide +kernel
theorem dX6_tellingOpening_8 : decode cX6_tellingOpening 8 = .ok (.bipush 6, 2) := by decide +kernel
theorem dX6_tellingOpening_10 : decode cX6_tellingOpening 10 = .ok (.istore 4, 2) := by decide +kernel
theorem dX6_tellingOpening_12 : decode cX6_tellingOpening 12 = .ok (.iconst 0, 1) := by decide +kernel
theorem dX6_tellingOpening_13 : decode cX6_tellingOpening 13 = .ok (.istore 5, 2) := by decide +kernel
theorem dX6_tellingOpening_15 : decode cX6_tellingOpening 15 = .ok (.iload 5, 2) := by decide +kernel
theorem dX6_tellingOpening_17 : decode cX6_tellingOpening 17 = .ok (.iconst 4, 1) := by decide +kernel
theorem dX6_tellingOpening_18 : decode cX6_tellingOpening 18 = .ok (.if_icmp .ge 33, 3) := by decide +kernel
theorem dX6_tellingOpening_21 : decode cX6_tellingOpening 21 = .ok (.aload_n 0, 1) := by decide +kernel
theorem dX6_tellingOpening_22 : decode cX6_tellingOpening 22 = .ok (.iload_n 1, 1) := by decide +kernel
theorem dX6_tellingOpening_23 : decode cX6_tellingOpening 23 = .ok (.iload 5, 2) := by decide +kernel
theorem dX6_tellingOpening_25 : decode cX6_tellingOpening 25 = .ok (.iload_n 2, 1) := by decide +kernel
theorem dX6_tellingOpening_26 : decode cX6_tellingOpening 26 = .ok (.invokevirtual 267, 3) := by decide +kernel
theorem dX6_tellingOpening_29 : decode cX6_tellingOpening 29 = .ok (.istore 6, 2) := by decide +kernel
theorem dX6_tellingOpening_31 : decode cX6_tellingOpening 31 = .ok (.iload 6, 2) := by decide +kernel
theorem dX6_tellingOpening_33 : decode cX6_tellingOpening 33 = .ok (.iload 4, 2) := by decide +kernel
theorem dX6_tellingOpening_35 : decode cX6_tellingOpening 35 = .ok (.if_icmp .ge 10, 3) := by decide +kernel
theorem dX6_tellingOpening_38 : decode cX6_tellingOpening 38 = .ok (.iload 6, 2) := by decide +kernel
theorem dX6_tellingOpening_40 : decode cX6_tellingOpening 40 = .ok (.istore 4, 2) := by decide +kernel
theorem dX6_tellingOpening_42 : decode cX6_tellingOpening 42 = .ok (.iload 5, 2) := by decide +kernel
theorem dX6_tellingOpening_44 : decode cX6_tellingOpening 44 = .ok (.istore_n 3, 1) := by decide +kernel
theorem dX6_tellingOpening_45 : decode cX6_tellingOpening 45 = .ok (.iinc 5 1, 3) := by decide +kernel
theorem dX6_tellingOpening_48 : decode cX6_tellingOpening 48 = .ok (.goto (-33), 3) := by decide +kernel
theorem dX6_tellingOpening_51 : decode cX6_tellingOpening 51 = .ok (.iload_n 3, 1) := by decide +kernel
theorem dX6_tellingOpening_52 : decode cX6_tellingOpening 52 = .ok (.ireturn, 1) := by decide +kernel
theorem dX6_mostKindsLeft_0 : decode cX6_mostKindsLeft 0 = .ok (.aload_n 0, 1) := by decide +kernel
theorem dX6_mostKindsLeft_1 : decode cX6_mostKindsLeft 1 = .ok (.getfield 26, 3) := by decide +kernel
theorem dX6_mostKindsLeft_4 : decode cX6_mostKindsLeft 4 = .ok (.getfield 99, 3) := by decide +kernel
theorem dX6_mostKindsLeft_7 : decode cX6_mostKindsLeft 7 = .ok (.iload_n 2, 1) := by decide +kernel
theorem dX6_mostKindsLeft_8 : decode cX6_mostKindsLeft 8 = .ok (.iaload, 1) := by decide +kernel
theorem dX6_mostKindsLeft_9 : decode cX6_mostKindsLeft 9 = .ok (.istore 4, 2) := by decide +kernel
theorem dX6_mostKindsLeft_11 : decode cX6_mostKindsLeft 11 = .ok (.aload_n 0, 1) := by decide +kernel
theorem dX6_mostKindsLeft_12 : decode cX6_mostKindsLeft 12 = .ok (.getfield 33, 3) := by decide +kernel
theorem dX6_mostKindsLeft_15 : decode cX6_mostKindsLeft 15 = .ok (.getfield 108, 3) := by decide +kernel
theorem dX6_mostKindsLeft_18 : decode cX6_mostKindsLeft 18 = .ok (.iload_n 1, 1) := by decide +kernel
theorem dX6_mostKindsLeft_19 : decode cX6_mostKindsLeft 19 = .ok (.iaload, 1) := by decide +kernel
theorem dX6_mostKindsLeft_20 : decode cX6_mostKindsLeft 20 = .ok (.istore 5, 2) := by decide +kernel
theorem dX6_mostKindsLeft_22 : decode cX6_mostKindsLeft 22 = .ok (.iconst 0, 1) := by decide +kernel
theorem dX6_mostKindsLeft_23 : decode cX6_mostKindsLeft 23 = .ok (.istore 6, 2) := by decide +kernel
theorem dX6_mostKindsLeft_25 : decode cX6_mostKindsLeft 25 = .ok (.iconst (-1), 1) := by decide +kernel
theorem dX6_mostKindsLeft_26 : decode cX6_mostKindsLeft 26 = .ok (.istore 7, 2) := by decide +kernel
theorem dX6_mostKindsLeft_28 : decode cX6_mostKindsLeft 28 = .ok (.iload 7, 2) := by decide +kernel
theorem dX6_mostKindsLeft_30 : decode cX6_mostKindsLeft 30 = .ok (.bipush 6, 2) := by decide +kernel
theorem dX6_mostKindsLeft_32 : decode cX6_mostKindsLeft 32 = .ok (.if_icmp .ge 63, 3) := by decide +kernel
theorem dX6_mostKindsLeft_35 : decode cX6_mostKindsLeft 35 = .ok (.iconst 0, 1) := by decide +kernel
theorem dX6_mostKindsLeft_36 : decode cX6_mostKindsLeft 36 = .ok (.istore 8, 2) := by decide +kernel
theorem dX6_mostKindsLeft_38 : decode cX6_mostKindsLeft 38 = .ok (.iconst 0, 1) := by decide +kernel
theorem dX6_mostKindsLeft_39 : decode cX6_mostKindsLeft 39 = .ok (.istore 9, 2) := by decide +kernel
theorem dX6_mostKindsLeft_41 : decode cX6_mostKindsLeft 41 = .ok (.iload 9, 2) := by decide +kernel
theorem dX6_mostKindsLeft_43 : decode cX6_mostKindsLeft 43 = .ok (.iconst 5, 1) := by decide +kernel
theorem dX6_mostKindsLeft_44 : decode cX6_mostKindsLeft 44 = .ok (.if_icmp .ge 36, 3) := by decide +kernel
theorem dX6_mostKindsLeft_47 : decode cX6_mostKindsLeft 47 = .ok (.iload_n 3, 1) := by decide +kernel
theorem dX6_mostKindsLeft_48 : decode cX6_mostKindsLeft 48 = .ok (.iload 9, 2) := by decide +kernel
theorem dX6_mostKindsLeft_50 : decode cX6_mostKindsLeft 50 = .ok (.invokestatic 239, 3) := by decide +kernel
theorem dX6_mostKindsLeft_53 : decode cX6_mostKindsLeft 53 = .ok (.ifCond .eq 21, 3) := by decide +kernel
theorem dX6_mostKindsLeft_56 : decode cX6_mostKindsLeft 56 = .ok (.iload 9, 2) := by decide +kernel
theorem dX6_mostKindsLeft_58 : decode cX6_mostKindsLeft 58 = .ok (.iload 4, 2) := by decide +kernel
theorem dX6_mostKindsLeft_60 : decode cX6_mostKindsLeft 60 = .ok (.iload 5, 2) := by decide +kernel
theorem dX6_mostKindsLeft_62 : decode cX6_mostKindsLeft 62 = .ok (.iconst 0, 1) := by decide +kernel
theorem dX6_mostKindsLeft_63 : decode cX6_mostKindsLeft 63 = .ok (.invokestatic 248, 3) := by decide +kernel
theorem dX6_mostKindsLeft_66 : decode cX6_mostKindsLeft 66 = .ok (.iload 7, 2) := by decide +kernel
theorem dX6_mostKindsLeft_68 : decode cX6_mostKindsLeft 68 = .ok (.if_icmp .ne 6, 3) := by decide +kernel
theorem dX6_mostKindsLeft_71 : decode cX6_mostKindsLeft 71 = .ok (.iinc 8 1, 3) := by decide +kernel
theorem dX6_mostKindsLeft_74 : decode cX6_mostKindsLeft 74 = .ok (.iinc 9 1, 3) := by decide +kernel
theorem dX6_mostKindsLeft_77 : decode cX6_mostKindsLeft 77 = .ok (.goto (-36), 3) := by decide +kernel
theorem dX6_mostKindsLeft_80 : decode cX6_mostKindsLeft 80 = .ok (.iload 6, 2) := by decide +kernel
theorem dX6_mostKindsLeft_82 : decode cX6_mostKindsLeft 82 = .ok (.iload 8, 2) := by decide +kernel
theorem dX6_mostKindsLeft_84 : decode cX6_mostKindsLeft 84 = .ok (.invokestatic 271, 3) := by decide +kernel
theorem dX6_mostKindsLeft_87 : decode cX6_mostKindsLeft 87 = .ok (.istore 6, 2) := by decide +kernel
theorem dX6_mostKindsLeft_89 : decode cX6_mostKindsLeft 89 = .ok (.iinc 7 1, 3) := by decide +kernel
theorem dX6_mostKindsLeft_92 : decode cX6_mostKindsLeft 92 = .ok (.goto (-64), 3) := by decide +kernel
theorem dX6_mostKindsLeft_95 : decode cX6_mostKindsLeft 95 = .ok (.iload 6, 2) := by decide +kernel
theorem dX6_mostKindsLeft_97 : decode cX6_mostKindsLeft 97 = .ok (.ireturn, 1) := by decide +kernel
theorem dX6_findPleasing_0 : decode cX6_findPleasing 0 = .ok (.iconst 0, 1) := by decide +kernel
theorem dX6_findPleasing_1 : decode cX6_findPleasing 1 = .ok (.istore_n 1, 1) := by decide +kernel
theorem dX6_findPleasing_2 : decode cX6_findPleasing 2 = .ok (.iload_n 1, 1) := by decide +kernel
theorem dX6_findPleasing_3 : decode cX6_findPleasing 3 = .ok (.iconst 4, 1) := by decide +kernel
theorem dX6_findPleasing_4 : decode cX6_findPleasing 4 = .ok (.if_icmp .ge 70, 3) := by decide +kernel
theorem dX6_findPleasing_7 : decode cX6_findPleasing 7 = .ok (.aload_n 0, 1) := by decide +kernel
theorem dX6_findPleasing_8 : decode cX6_findPleasing 8 = .ok (.getfield 43, 3) := by decide +kernel
theorem dX6_findPleasing_11 : decode cX6_findPleasing 11 = .ok (.getfield 276, 3) := by decide +kernel
theorem dX6_findPleasing_14 : decode cX6_findPleasing 14 = .ok (.iload_n 1, 1) := by decide +kernel
theorem dX6_findPleasing_15 : decode cX6_findPleasing 15 = .ok (.iconst 0, 1) := by decide +kernel
theorem dX6_findPleasing_16 : decode cX6_findPleasing 16 = .ok (.iastore, 1) := by decide +kernel
theorem dX6_findPleasing_17 : decode cX6_findPleasing 17 = .ok (.iconst 0, 1) := by decide +kernel
theorem dX6_findPleasing_18 : decode cX6_findPleasing 18 = .ok (.istore_n 2, 1) := by decide +kernel
theorem dX6_findPleasing_19 : decode cX6_findPleasing 19 = .ok (.aload_n 0, 1) := by decide +kernel
theorem dX6_findPleasing_20 : decode cX6_findPleasing 20 = .ok (.iload_n 1, 1) := by decide +kernel
theorem dX6_findPleasing_21 : decode cX6_findPleasing 21 = .ok (.invokevirtual 102, 3) := by decide +kernel
theorem dX6_findPleasing_24 : decode cX6_findPleasing 24 = .ok (.ifCond .eq 44, 3) := by decide +kernel
theorem dX6_findPleasing_27 : decode cX6_findPleasing 27 = .ok (.iload_n 2, 1) := by decide +kernel
theorem dX6_findPleasing_28 : decode cX6_findPleasing 28 = .ok (.aload_n 0, 1) := by decide +kernel
theorem dX6_findPleasing_29 : decode cX6_findPleasing 29 = .ok (.getfield 33, 3) := by decide +kernel
theorem dX6_findPleasing_32 : decode cX6_findPleasing 32 = .ok (.getfield 145, 3) := by decide +kernel
theorem dX6_findPleasing_35 : decode cX6_findPleasing 35 = .ok (.if_icmp .ge 33, 3) := by decide +kernel
theorem dX6_findPleasing_38 : decode cX6_findPleasing 38 = .ok (.aload_n 0, 1) := by decide +kernel
theorem dX6_findPleasing_39 : decode cX6_findPleasing 39 = .ok (.iload_n 1, 1) := by decide +kernel
theorem dX6_findPleasing_40 : decode cX6_findPleasing 40 = .ok (.iload_n 2, 1) := by decide +kernel
theorem dX6_findPleasing_41 : decode cX6_findPleasing 41 = .ok (.invokevirtual 279, 3) := by decide +kernel
theorem dX6_findPleasing_44 : decode cX6_findPleasing 44 = .ok (.ifCond .eq 18, 3) := by decide +kernel
theorem dX6_findPleasing_47 : decode cX6_findPleasing 47 = .ok (.aload_n 0, 1) := by decide +kernel
theorem dX6_findPleasing_48 : decode cX6_findPleasing 48 = .ok (.getfield 43, 3) := by decide +kernel
theorem dX6_findPleasing_51 : decode cX6_findPleasing 51 = .ok (.getfield 276, 3) := by decide +kernel
theorem dX6_findPleasing_54 : decode cX6_findPleasing 54 = .ok (.iload_n 1, 1) := by decide +kernel
theorem dX6_findPleasing_55 : decode cX6_findPleasing 55 = .ok (.dup2, 1) := by decide +kernel
theorem dX6_findPleasing_56 : decode cX6_findPleasing 56 = .ok (.iaload, 1) := by decide +kernel
theorem dX6_findPleasing_57 : decode cX6_findPleasing 57 = .ok (.iconst 1, 1) := by decide +kernel
theorem dX6_findPleasing_58 : decode cX6_findPleasing 58 = .ok (.iload_n 2, 1) := by decide +kernel
theorem dX6_findPleasing_59 : decode cX6_findPleasing 59 = .ok (.ishl, 1) := by decide +kernel
theorem dX6_findPleasing_60 : decode cX6_findPleasing 60 = .ok (.ior, 1) := by decide +kernel
theorem dX6_findPleasing_61 : decode cX6_findPleasing 61 = .ok (.iastore, 1) := by decide +kernel
theorem dX6_findPleasing_62 : decode cX6_findPleasing 62 = .ok (.iinc 2 1, 3) := by decide +kernel
theorem dX6_findPleasing_65 : decode cX6_findPleasing 65 = .ok (.goto (-46), 3) := by decide +kernel
theorem dX6_findPleasing_68 : decode cX6_findPleasing 68 = .ok (.iinc 1 1, 3) := by decide +kernel
theorem dX6_findPleasing_71 : decode cX6_findPleasing 71 = .ok (.goto (-69), 3) := by decide +kernel
theorem dX6_findPleasing_74 : decode cX6_findPleasing 74 = .ok (.return_, 1) := by decide +kernel
theorem dX6_wouldPlease_0 : decode cX6_wouldPlease 0 = .ok (.aload_n 0, 1) := by decide +kernel
theorem dX6_wouldPlease_1 : decode cX6_wouldPlease 1 = .ok (.getfield 33, 3) := by decide +kernel
theorem dX6_wouldPlease_4 : decode cX6_wouldPlease 4 = .ok (.getfield 157, 3) := by decide +kernel
theorem dX6_wouldPlease_7 : decode cX6_wouldPlease 7 = .ok (.iload_n 2, 1) := by decide +kernel
theorem dX6_wouldPlease_8 : decode cX6_wouldPlease 8 = .ok (.iaload, 1) := by decide +kernel
theorem dX6_wouldPlease_9 : decode cX6_wouldPlease 9 = .ok (.istore_n 3, 1) := by decide +kernel
theorem dX6_wouldPlease_10 : decode cX6_wouldPlease 10 = .ok (.aload_n 0, 1) := by decide +kernel
theorem dX6_wouldPlease_11 : decode cX6_wouldPlease 11 = .ok (.getfield 33, 3) := by decide +kernel
theorem dX6_wouldPlease_14 : decode cX6_wouldPlease 14 = .ok (.iload_n 2, 1) := by decide +kernel
theorem dX6_wouldPlease_15 : decode cX6_wouldPlease 15 = .ok (.invokevirtual 154, 3) := by decide +kernel
theorem dX6_wouldPlease_18 : decode cX6_wouldPlease 18 = .ok (.ifCond .eq 38, 3) := by decide +kernel
theorem dX6_wouldPlease_21 : decode cX6_wouldPlease 21 = .ok (.iload_n 3, 1) := by decide +kernel
theorem dX6_wouldPlease_22 : decode cX6_wouldPlease 22 = .ok (.iload_n 1, 1) := by decide +kernel
theorem dX6_wouldPlease_23 : decode cX6_wouldPlease 23 = .ok (.if_icmp .eq 33, 3) := by decide +kernel
theorem dX6_wouldPlease_26 : decode cX6_wouldPlease 26 = .ok (.aload_n 0, 1) := by decide +kernel
theorem dX6_wouldPlease_27 : decode cX6_wouldPlease 27 = .ok (.iload_n 1, 1) := by decide +kernel
theorem dX6_wouldPlease_28 : decode cX6_wouldPlease 28 = .ok (.aload_n 0, 1) := by decide +kernel
theorem dX6_wouldPlease_29 : decode cX6_wouldPlease 29 = .ok (.getfield 33, 3) := by decide +kernel
theorem dX6_wouldPlease_32 : decode cX6_wouldPlease 32 = .ok (.getfield 160, 3) := by decide +kernel
theorem dX6_wouldPlease_35 : decode cX6_wouldPlease 35 = .ok (.iload_n 2, 1) := by decide +kernel
theorem dX6_wouldPlease_36 : decode cX6_wouldPlease 36 = .ok (.iaload, 1) := by decide +kernel
theorem dX6_wouldPlease_37 : decode cX6_wouldPlease 37 = .ok (.invokevirtual 142, 3) := by decide +kernel
theorem dX6_wouldPlease_40 : decode cX6_wouldPlease 40 = .ok (.aload_n 0, 1) := by decide +kernel
theorem dX6_wouldPlease_41 : decode cX6_wouldPlease 41 = .ok (.getfield 33, 3) := by decide +kernel
theorem dX6_wouldPlease_44 : decode cX6_wouldPlease 44 = .ok (.getfield 108, 3) := by decide +kernel
theorem dX6_wouldPlease_47 : decode cX6_wouldPlease 47 = .ok (.iload_n 3, 1) := by decide +kernel
theorem dX6_wouldPlease_48 : decode cX6_wouldPlease 48 = .ok (.iaload, 1) := by decide +kernel
theorem dX6_wouldPlease_49 : decode cX6_wouldPlease 49 = .ok (.if_icmp .ne 7, 3) := by decide +kernel
theorem dX6_wouldPlease_52 : decode cX6_wouldPlease 52 = .ok (.iconst 1, 1) := by decide +kernel
theorem dX6_wouldPlease_53 : decode cX6_wouldPlease 53 = .ok (.goto 4, 3) := by decide +kernel
theorem dX6_wouldPlease_56 : decode cX6_wouldPlease 56 = .ok (.iconst 0, 1) := by decide +kernel
theorem dX6_wouldPlease_57 : decode cX6_wouldPlease 57 = .ok (.ireturn, 1) := by decide +kernel
