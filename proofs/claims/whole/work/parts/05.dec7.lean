theorem dX7_init_0 : decode cX7_init 0 = .ok (.aload_n 0, 1) := by decide +kernel
theorem dX7_init_1 : decode cX7_init 1 = .ok (.invokespecial 1, 3) := by decide +kernel
theorem dX7_init_4 : decode cX7_init 4 = .ok (.aload_n 0, 1) := by decide +kernel
theorem dX7_init_5 : decode cX7_init 5 = .ok (.bipush 30, 2) := by decide +kernel
theorem dX7_init_7 : decode cX7_init 7 = .ok (.newarray .int, 2) := by decide +kernel
theorem dX7_init_9 : decode cX7_init 9 = .ok (.putfield 7, 3) := by decide +kernel
theorem dX7_init_12 : decode cX7_init 12 = .ok (.aload_n 0, 1) := by decide +kernel
theorem dX7_init_13 : decode cX7_init 13 = .ok (.iconst 4, 1) := by decide +kernel
theorem dX7_init_14 : decode cX7_init 14 = .ok (.newarray .int, 2) := by decide +kernel
theorem dX7_init_16 : decode cX7_init 16 = .ok (.putfield 13, 3) := by decide +kernel
theorem dX7_init_19 : decode cX7_init 19 = .ok (.aload_n 0, 1) := by decide +kernel
theorem dX7_init_20 : decode cX7_init 20 = .ok (.bipush 8, 2) := by decide +kernel
theorem dX7_init_22 : decode cX7_init 22 = .ok (.newarray .int, 2) := by decide +kernel
theorem dX7_init_24 : decode cX7_init 24 = .ok (.putfield 16, 3) := by decide +kernel
theorem dX7_init_27 : decode cX7_init 27 = .ok (.aload_n 0, 1) := by decide +kernel
theorem dX7_init_28 : decode cX7_init 28 = .ok (.iconst 4, 1) := by decide +kernel
theorem dX7_init_29 : decode cX7_init 29 = .ok (.newarray .int, 2) := by decide +kernel
theorem dX7_init_31 : decode cX7_init 31 = .ok (.putfield 19, 3) := by decide +kernel
theorem dX7_init_34 : decode cX7_init 34 = .ok (.aload_n 0, 1) := by decide +kernel
theorem dX7_init_35 : decode cX7_init 35 = .ok (.bipush 12, 2) := by decide +kernel
theorem dX7_init_37 : decode cX7_init 37 = .ok (.newarray .int, 2) := by decide +kernel
theorem dX7_init_39 : decode cX7_init 39 = .ok (.putfield 22, 3) := by decide +kernel
theorem dX7_init_42 : decode cX7_init 42 = .ok (.aload_n 0, 1) := by decide +kernel
theorem dX7_init_43 : decode cX7_init 43 = .ok (.bipush 32, 2) := by decide +kernel
theorem dX7_init_45 : decode cX7_init 45 = .ok (.newarray .int, 2) := by decide +kernel
theorem dX7_init_47 : decode cX7_init 47 = .ok (.putfield 25, 3) := by decide +kernel
theorem dX7_init_50 : decode cX7_init 50 = .ok (.aload_n 0, 1) := by decide +kernel
theorem dX7_init_51 : decode cX7_init 51 = .ok (.iconst 4, 1) := by decide +kernel
theorem dX7_init_52 : decode cX7_init 52 = .ok (.newarray .int, 2) := by decide +kernel
theorem dX7_init_54 : decode cX7_init 54 = .ok (.putfield 28, 3) := by decide +kernel
theorem dX7_init_57 : decode cX7_init 57 = .ok (.aload_n 0, 1) := by decide +kernel
theorem dX7_init_58 : decode cX7_init 58 = .ok (.iconst 4, 1) := by decide +kernel
theorem dX7_init_59 : decode cX7_init 59 = .ok (.newarray .int, 2) := by decide +kernel
theorem dX7_init_61 : decode cX7_init 61 = .ok (.putfield 31, 3) := by decide +kernel
theorem dX7_init_64 : decode cX7_init 64 = .ok (.aload_n 0, 1) := by decide +kernel
theorem dX7_init_65 : decode cX7_init 65 = .ok (.bipush 24, 2) := by decide +kernel
theorem dX7_init_67 : decode cX7_init 67 = .ok (.newarray .int, 2) := by decide +kernel
theorem dX7_init_69 : decode cX7_init 69 = .ok (.putfield 34, 3) := by decide +kernel
theorem dX7_init_72 : decode cX7_init 72 = .ok (.aload_n 0, 1) := by decide +kernel
theorem dX7_init_73 : decode cX7_init 73 = .ok (.bipush 7, 2) := by decide +kernel
theorem dX7_init_75 : decode cX7_init 75 = .ok (.newarray .int, 2) := by decide +kernel
theorem dX7_init_77 : decode cX7_init 77 = .ok (.putfield 37, 3) := by decide +kernel
theorem dX7_init_80 : decode cX7_init 80 = .ok (.aload_n 0, 1) := by decide +kernel
theorem dX7_init_81 : decode cX7_init 81 = .ok (.bipush 12, 2) := by decide +kernel
theorem dX7_init_83 : decode cX7_init 83 = .ok (.newarray .int, 2) := by decide +kernel
theorem dX7_init_85 : decode cX7_init 85 = .ok (.putfield 40, 3) := by decide +kernel
theorem dX7_init_88 : decode cX7_init 88 = .ok (.aload_n 0, 1) := by decide +kernel
theorem dX7_init_89 : decode cX7_init 89 = .ok (.bipush 12, 2) := by decide +kernel
theorem dX7_init_91 : decode cX7_init 91 = .ok (.newarray .int, 2) := by decide +kernel
theorem dX7_init_93 : decode cX7_init 93 = .ok (.putfield 43, 3) := by decide +kernel
theorem dX7_init_96 : decode cX7_init 96 = .ok (.aload_n 0, 1) := by decide +kernel
theorem dX7_init_97 : decode cX7_init 97 = .ok (.bipush 32, 2) := by decide +kernel
theorem dX7_init_99 : decode cX7_init 99 = .ok (.newarray .int, 2) := by decide +kernel
theorem dX7_init_101 : decode cX7_init 101 = .ok (.putfield 46, 3) := by decide +kernel
theorem dX7_init_104 : decode cX7_init 104 = .ok (.aload_n 0, 1) := by decide +kernel
theorem dX7_init_105 : decode cX7_init 105 = .ok (.bipush 24, 2) := by decide +kernel
theorem dX7_init_107 : decode cX7_init 107 = .ok (.newarray .int, 2) := by decide +kernel
theorem dX7_init_109 : decode cX7_init 109 = .ok (.putfield 49, 3) := by decide +kernel
theorem dX7_init_112 : decode cX7_init 112 = .ok (.aload_n 0, 1) := by decide +kernel
theorem dX7_init_113 : decode cX7_init 113 = .ok (.iconst (-1), 1) := by decide +kernel
theorem dX7_init_114 : decode cX7_init 114 = .ok (.putfield 52, 3) := by decide +kernel
theorem dX7_init_117 : decode cX7_init 117 = .ok (.return_, 1) := by decide +kernel
theorem dX7_in_0 : decode cX7_in 0 = .ok (.lload_n 0, 1) := by decide +kernel
theorem dX7_in_1 : decode cX7_in 1 = .ok (.lload_n 2, 1) := by decide +kernel
theorem dX7_in_2 : decode cX7_in 2 = .ok (.lcmp, 1) := by decide +kernel
theorem dX7_in_3 : decode cX7_in 3 = .ok (.ifCond .lt 14, 3) := by decide +kernel
theorem dX7_in_6 : decode cX7_in 6 = .ok (.lload_n 0, 1) := by decide +kernel
theorem dX7_in_7 : decode cX7_in 7 = .ok (.lload 4, 2) := by decide +kernel
theorem dX7_in_9 : decode cX7_in 9 = .ok (.lcmp, 1) := by decide +kernel
theorem dX7_in_10 : decode cX7_in 10 = .ok (.ifCond .gt 7, 3) := by decide +kernel
theorem dX7_in_13 : decode cX7_in 13 = .ok (.iconst 1, 1) := by decide +kernel
theorem dX7_in_14 : decode cX7_in 14 = .ok (.goto 4, 3) := by decide +kernel
theorem dX7_in_17 : decode cX7_in 17 = .ok (.iconst 0, 1) := by decide +kernel
theorem dX7_in_18 : decode cX7_in 18 = .ok (.ireturn, 1) := by decide +kernel
theorem dX7_copy_0 : decode cX7_copy 0 = .ok (.iconst 0, 1) := by decide +kernel
theorem dX7_copy_1 : decode cX7_copy 1 = .ok (.istore_n 2, 1) := by decide +kernel
theorem dX7_copy_2 : decode cX7_copy 2 = .ok (.iload_n 2, 1) := by decide +kernel
theorem dX7_copy_3 : decode cX7_copy 3 = .ok (.aload_n 0, 1) := by decide +kernel
theorem dX7_copy_4 : decode cX7_copy 4 = .ok (.arraylength, 1) := by decide +kernel
theorem dX7_copy_5 : decode cX7_copy 5 = .ok (.if_icmp .ge 15, 3) := by decide +kernel
theorem dX7_copy_8 : decode cX7_copy 8 = .ok (.aload_n 1, 1) := by decide +kernel
theorem dX7_copy_9 : decode cX7_copy 9 = .ok (.iload_n 2, 1) := by decide +kernel
theorem dX7_copy_10 : decode cX7_copy 10 = .ok (.aload_n 0, 1) := by decide +kernel
theorem dX7_copy_11 : decode cX7_copy 11 = .ok (.iload_n 2, 1) := by decide +kernel
theorem dX7_copy_12 : decode cX7_copy 12 = .ok (.iaload, 1) := by decide +kernel
theorem dX7_copy_13 : decode cX7_copy 13 = .ok (.iastore, 1) := by decide +kernel
theorem dX7_copy_14 : decode cX7_copy 14 = .ok (.iinc 2 1, 3) := by decide +kernel
theorem dX7_copy_17 : decode cX7_copy 17 = .ok (.goto (-15), 3) := by decide +kernel
theorem dX7_copy_20 : decode cX7_copy 20 = .ok (.return_, 1) := by decide +kernel
theorem dX7_letter_0 : decode cX7_letter 0 = .ok (.iload_n 1, 1) := by decide +kernel
theorem dX7_letter_1 : decode cX7_letter 1 = .ok (.i2l, 1) := by decide +kernel
theorem dX7_letter_2 : decode cX7_letter 2 = .ok (.lconst 1, 1) := by decide +kernel
theorem dX7_letter_3 : decode cX7_letter 3 = .ok (.ldc2_w 56, 3) := by decide +kernel
theorem dX7_letter_6 : decode cX7_letter 6 = .ok (.invokestatic 58, 3) := by decide +kernel
theorem dX7_letter_9 : decode cX7_letter 9 = .ok (.ifCond .ne 6, 3) := by decide +kernel
theorem dX7_letter_12 : decode cX7_letter 12 = .ok (.bipush (-102), 2) := by decide +kernel
theorem dX7_letter_14 : decode cX7_letter 14 = .ok (.ireturn, 1) := by decide +kernel
theorem dX7_letter_15 : decode cX7_letter 15 = .ok (.aload_n 0, 1) := by decide +kernel
theorem dX7_letter_16 : decode cX7_letter 16 = .ok (.getfield 62, 3) := by decide +kernel
theorem dX7_letter_19 : decode cX7_letter 19 = .ok (.bipush 30, 2) := by decide +kernel
theorem dX7_letter_21 : decode cX7_letter 21 = .ok (.if_icmp .ne 6, 3) := by decide +kernel
theorem dX7_letter_24 : decode cX7_letter 24 = .ok (.bipush (-104), 2) := by decide +kernel
theorem dX7_letter_26 : decode cX7_letter 26 = .ok (.ireturn, 1) := by decide +kernel
theorem dX7_letter_27 : decode cX7_letter 27 = .ok (.aload_n 0, 1) := by decide +kernel
theorem dX7_letter_28 : decode cX7_letter 28 = .ok (.getfield 7, 3) := by decide +kernel
theorem dX7_letter_31 : decode cX7_letter 31 = .ok (.aload_n 0, 1) := by decide +kernel
theorem dX7_letter_32 : decode cX7_letter 32 = .ok (.getfield 62, 3) := by decide +kernel
theorem dX7_letter_35 : decode cX7_letter 35 = .ok (.iload_n 1, 1) := by decide +kernel
theorem dX7_letter_36 : decode cX7_letter 36 = .ok (.iastore, 1) := by decide +kernel
theorem dX7_letter_37 : decode cX7_letter 37 = .ok (.aload_n 0, 1) := by decide +kernel
theorem dX7_letter_38 : decode cX7_letter 38 = .ok (.dup, 1) := by decide +kernel
theorem dX7_letter_39 : decode cX7_letter 39 = .ok (.getfield 62, 3) := by decide +kernel
theorem dX7_letter_42 : decode cX7_letter 42 = .ok (.iconst 1, 1) := by decide +kernel
theorem dX7_letter_43 : decode cX7_letter 43 = .ok (.iadd, 1) := by decide +kernel
theorem dX7_letter_44 : decode cX7_letter 44 = .ok (.putfield 62, 3) := by decide +kernel
theorem dX7_letter_47 : decode cX7_letter 47 = .ok (.aload_n 0, 1) := by decide +kernel
theorem dX7_letter_48 : decode cX7_letter 48 = .ok (.getfield 62, 3) := by decide +kernel
theorem dX7_letter_51 : decode cX7_letter 51 = .ok (.ireturn, 1) := by decide +kernel
theorem dX7_blank_0 : decode cX7_blank 0 = .ok (.aload_n 0, 1) := by decide +kernel
theorem dX7_blank_1 : decode cX7_blank 1 = .ok (.getfield 62, 3) := by decide +kernel
theorem dX7_blank_4 : decode cX7_blank 4 = .ok (.istore_n 1, 1) := by decide +kernel
theorem dX7_blank_5 : decode cX7_blank 5 = .ok (.aload_n 0, 1) := by decide +kernel
theorem dX7_blank_6 : decode cX7_blank 6 = .ok (.iconst 0, 1) := by decide +kernel
theorem dX7_blank_7 : decode cX7_blank 7 = .ok (.putfield 62, 3) := by decide +kernel
theorem dX7_blank_10 : decode cX7_blank 10 = .ok (.iload_n 1, 1) := by decide +kernel
theorem dX7_blank_11 : decode cX7_blank 11 = .ok (.ireturn, 1) := by decide +kernel
theorem dX7_kindBy_0 : decode cX7_kindBy 0 = .ok (.iload_n 0, 1) := by decide +kernel
theorem dX7_kindBy_1 : decode cX7_kindBy 1 = .ok (.bipush 115, 2) := by decide +kernel
theorem dX7_kindBy_3 : decode cX7_kindBy 3 = .ok (.if_icmp .ne 7, 3) := by decide +kernel
theorem dX7_kindBy_6 : decode cX7_kindBy 6 = .ok (.iconst 0, 1) := by decide +kernel
theorem dX7_kindBy_7 : decode cX7_kindBy 7 = .ok (.goto 44, 3) := by decide +kernel
theorem dX7_kindBy_10 : decode cX7_kindBy 10 = .ok (.iload_n 0, 1) := by decide +kernel
theorem dX7_kindBy_11 : decode cX7_kindBy 11 = .ok (.bipush 104, 2) := by decide +kernel
theorem dX7_kindBy_13 : decode cX7_kindBy 13 = .ok (.if_icmp .ne 7, 3) := by decide +kernel
theorem dX7_kindBy_16 : decode cX7_kindBy 16 = .ok (.iconst 1, 1) := by decide +kernel
theorem dX7_kindBy_17 : decode cX7_kindBy 17 = .ok (.goto 34, 3) := by decide +kernel
theorem dX7_kindBy_20 : decode cX7_kindBy 20 = .ok (.iload_n 0, 1) := by decide +kernel
theorem dX7_kindBy_21 : decode cX7_kindBy 21 = .ok (.bipush 116, 2) := by decide +kernel
theorem dX7_kindBy_23 : decode cX7_kindBy 23 = .ok (.if_icmp .ne 7, 3) := by decide +kernel
theorem dX7_kindBy_26 : decode cX7_kindBy 26 = .ok (.iconst 2, 1) := by decide +kernel
theorem dX7_kindBy_27 : decode cX7_kindBy 27 = .ok (.goto 24, 3) := by decide +kernel
theorem dX7_kindBy_30 : decode cX7_kindBy 30 = .ok (.iload_n 0, 1) := by decide +kernel
theorem dX7_kindBy_31 : decode cX7_kindBy 31 = .ok (.bipush 99, 2) := by decide +kernel
theorem dX7_kindBy_33 : decode cX7_kindBy 33 = .ok (.if_icmp .ne 7, 3) := by decide +kernel
theorem dX7_kindBy_36 : decode cX7_kindBy 36 = .ok (.iconst 3, 1) := by decide +kernel
theorem dX7_kindBy_37 : decode cX7_kindBy 37 = .ok (.goto 14, 3) := by decide +kernel
theorem dX7_kindBy_40 : decode cX7_kindBy 40 = .ok (.iload_n 0, 1) := by decide +kernel
theorem dX7_kindBy_41 : decode cX7_kindBy 41 = .ok (.bipush 112, 2) := by decide +kernel
theorem dX7_kindBy_43 : decode cX7_kindBy 43 = .ok (.if_icmp .ne 7, 3) := by decide +kernel
theorem dX7_kindBy_46 : decode cX7_kindBy 46 = .ok (.iconst 4, 1) := by decide +kernel
theorem dX7_kindBy_47 : decode cX7_kindBy 47 = .ok (.goto 4, 3) := by decide +kernel
theorem dX7_kindBy_50 : decode cX7_kindBy 50 = .ok (.iconst (-1), 1) := by decide +kernel
theorem dX7_kindBy_51 : decode cX7_kindBy 51 = .ok (.ireturn, 1) := by decide +kernel
theorem dX7_goOpening_0 : decode cX7_goOpening 0 = .ok (.iload_n 1, 1) := by decide +kernel
theorem dX7_goOpening_1 : decode cX7_goOpening 1 = .ok (.bipush 97, 2) := by decide +kernel
theorem dX7_goOpening_3 : decode cX7_goOpening 3 = .ok (.isub, 1) := by decide +kernel
theorem dX7_goOpening_4 : decode cX7_goOpening 4 = .ok (.istore_n 2, 1) := by decide +kernel
theorem dX7_goOpening_5 : decode cX7_goOpening 5 = .ok (.iload_n 1, 1) := by decide +kernel
theorem dX7_goOpening_6 : decode cX7_goOpening 6 = .ok (.bipush 44, 2) := by decide +kernel
theorem dX7_goOpening_8 : decode cX7_goOpening 8 = .ok (.if_icmp .eq 9, 3) := by decide +kernel
theorem dX7_goOpening_11 : decode cX7_goOpening 11 = .ok (.iload_n 1, 1) := by decide +kernel
theorem dX7_goOpening_12 : decode cX7_goOpening 12 = .ok (.bipush 59, 2) := by decide +kernel
theorem dX7_goOpening_14 : decode cX7_goOpening 14 = .ok (.if_icmp .ne 65, 3) := by decide +kernel
theorem dX7_goOpening_17 : decode cX7_goOpening 17 = .ok (.aload_n 0, 1) := by decide +kernel
theorem dX7_goOpening_18 : decode cX7_goOpening 18 = .ok (.getfield 65, 3) := by decide +kernel
theorem dX7_goOpening_21 : decode cX7_goOpening 21 = .ok (.ifCond .le 34, 3) := by decide +kernel
theorem dX7_goOpening_24 : decode cX7_goOpening 24 = .ok (.iload_n 1, 1) := by decide +kernel
theorem dX7_goOpening_25 : decode cX7_goOpening 25 = .ok (.bipush 59, 2) := by decide +kernel
theorem dX7_goOpening_27 : decode cX7_goOpening 27 = .ok (.if_icmp .ne 7, 3) := by decide +kernel
theorem dX7_goOpening_30 : decode cX7_goOpening 30 = .ok (.iconst 1, 1) := by decide +kernel
theorem dX7_goOpening_31 : decode cX7_goOpening 31 = .ok (.goto 4, 3) := by decide +kernel
theorem dX7_goOpening_34 : decode cX7_goOpening 34 = .ok (.iconst 0, 1) := by decide +kernel
theorem dX7_goOpening_35 : decode cX7_goOpening 35 = .ok (.aload_n 0, 1) := by decide +kernel
theorem dX7_goOpening_36 : decode cX7_goOpening 36 = .ok (.getfield 68, 3) := by decide +kernel
theorem dX7_goOpening_39 : decode cX7_goOpening 39 = .ok (.iconst 3, 1) := by decide +kernel
theorem dX7_goOpening_40 : decode cX7_goOpening 40 = .ok (.if_icmp .ne 7, 3) := by decide +kernel
theorem dX7_goOpening_43 : decode cX7_goOpening 43 = .ok (.iconst 1, 1) := by decide +kernel
theorem dX7_goOpening_44 : decode cX7_goOpening 44 = .ok (.goto 4, 3) := by decide +kernel
theorem dX7_goOpening_47 : decode cX7_goOpening 47 = .ok (.iconst 0, 1) := by decide +kernel
theorem dX7_goOpening_48 : decode cX7_goOpening 48 = .ok (.if_icmp .ne 7, 3) := by decide +kernel
theorem dX7_goOpening_51 : decode cX7_goOpening 51 = .ok (.iconst 1, 1) := by decide +kernel
theorem dX7_goOpening_52 : decode cX7_goOpening 52 = .ok (.goto 4, 3) := by decide +kernel
theorem dX7_goOpening_55 : decode cX7_goOpening 55 = .ok (.iconst 0, 1) := by decide +kernel
theorem dX7_goOpening_56 : decode cX7_goOpening 56 = .ok (.istore_n 3, 1) := by decide +kernel
theorem dX7_goOpening_57 : decode cX7_goOpening 57 = .ok (.aload_n 0, 1) := by decide +kernel
theorem dX7_goOpening_58 : decode cX7_goOpening 58 = .ok (.dup, 1) := by decide +kernel
theorem dX7_goOpening_59 : decode cX7_goOpening 59 = .ok (.getfield 68, 3) := by decide +kernel
theorem dX7_goOpening_62 : decode cX7_goOpening 62 = .ok (.iconst 1, 1) := by decide +kernel
theorem dX7_goOpening_63 : decode cX7_goOpening 63 = .ok (.iadd, 1) := by decide +kernel
theorem dX7_goOpening_64 : decode cX7_goOpening 64 = .ok (.putfield 68, 3) := by decide +kernel
theorem dX7_goOpening_67 : decode cX7_goOpening 67 = .ok (.aload_n 0, 1) := by decide +kernel
theorem dX7_goOpening_68 : decode cX7_goOpening 68 = .ok (.iconst 0, 1) := by decide +kernel
theorem dX7_goOpening_69 : decode cX7_goOpening 69 = .ok (.putfield 65, 3) := by decide +kernel
theorem dX7_goOpening_72 : decode cX7_goOpening 72 = .ok (.aload_n 0, 1) := by decide +kernel
theorem dX7_goOpening_73 : decode cX7_goOpening 73 = .ok (.iconst (-1), 1) := by decide +kernel
theorem dX7_goOpening_74 : decode cX7_goOpening 74 = .ok (.putfield 71, 3) := by decide +kernel
theorem dX7_goOpening_77 : decode cX7_goOpening 77 = .ok (.iload_n 3, 1) := by decide +kernel
theorem dX7_goOpening_78 : decode cX7_goOpening 78 = .ok (.ireturn, 1) := by decide +kernel
theorem dX7_goOpening_79 : decode cX7_goOpening 79 = .ok (.iload_n 2, 1) := by decide +kernel
theorem dX7_goOpening_80 : decode cX7_goOpening 80 = .ok (.i2l, 1) := by decide +kernel
theorem dX7_goOpening_81 : decode cX7_goOpening 81 = .ok (.lconst 0, 1) := by decide +kernel
theorem dX7_goOpening_82 : decode cX7_goOpening 82 = .ok (.ldc2_w 74, 3) := by decide +kernel
theorem dX7_goOpening_85 : decode cX7_goOpening 85 = .ok (.invokestatic 58, 3) := by decide +kernel
theorem dX7_goOpening_88 : decode cX7_goOpening 88 = .ok (.ifCond .eq 19, 3) := by decide +kernel
theorem dX7_goOpening_91 : decode cX7_goOpening 91 = .ok (.aload_n 0, 1) := by decide +kernel
theorem dX7_goOpening_92 : decode cX7_goOpening 92 = .ok (.getfield 65, 3) := by decide +kernel
theorem dX7_goOpening_95 : decode cX7_goOpening 95 = .ok (.iconst 3, 1) := by decide +kernel
theorem dX7_goOpening_96 : decode cX7_goOpening 96 = .ok (.if_icmp .eq 11, 3) := by decide +kernel
theorem dX7_goOpening_99 : decode cX7_goOpening 99 = .ok (.iload_n 2, 1) := by decide +kernel
theorem dX7_goOpening_100 : decode cX7_goOpening 100 = .ok (.aload_n 0, 1) := by decide +kernel
theorem dX7_goOpening_101 : decode cX7_goOpening 101 = .ok (.getfield 71, 3) := by decide +kernel
theorem dX7_goOpening_104 : decode cX7_goOpening 104 = .ok (.if_icmp .gt 5, 3) := by decide +kernel
theorem dX7_goOpening_107 : decode cX7_goOpening 107 = .ok (.iconst 0, 1) := by decide +kernel
theorem dX7_goOpening_108 : decode cX7_goOpening 108 = .ok (.ireturn, 1) := by decide +kernel
theorem dX7_goOpening_109 : decode cX7_goOpening 109 = .ok (.aload_n 0, 1) := by decide +kernel
theorem dX7_goOpening_110 : decode cX7_goOpening 110 = .ok (.getfield 13, 3) := by decide +kernel
theorem dX7_goOpening_113 : decode cX7_goOpening 113 = .ok (.aload_n 0, 1) := by decide +kernel
theorem dX7_goOpening_114 : decode cX7_goOpening 114 = .ok (.getfield 68, 3) := by decide +kernel
theorem dX7_goOpening_117 : decode cX7_goOpening 117 = .ok (.aload_n 0, 1) := by decide +kernel
theorem dX7_goOpening_118 : decode cX7_goOpening 118 = .ok (.getfield 65, 3) := by decide +kernel
theorem dX7_goOpening_121 : decode cX7_goOpening 121 = .ok (.ifCond .ne 9, 3) := by decide +kernel
theorem dX7_goOpening_124 : decode cX7_goOpening 124 = .ok (.iconst 1, 1) := by decide +kernel
theorem dX7_goOpening_125 : decode cX7_goOpening 125 = .ok (.iload_n 2, 1) := by decide +kernel
theorem dX7_goOpening_126 : decode cX7_goOpening 126 = .ok (.ishl, 1) := by decide +kernel
theorem dX7_goOpening_127 : decode cX7_goOpening 127 = .ok (.goto 16, 3) := by decide +kernel
theorem dX7_goOpening_130 : decode cX7_goOpening 130 = .ok (.aload_n 0, 1) := by decide +kernel
theorem dX7_goOpening_131 : decode cX7_goOpening 131 = .ok (.getfield 13, 3) := by decide +kernel
theorem dX7_goOpening_134 : decode cX7_goOpening 134 = .ok (.aload_n 0, 1) := by decide +kernel
theorem dX7_goOpening_135 : decode cX7_goOpening 135 = .ok (.getfield 68, 3) := by decide +kernel
theorem dX7_goOpening_138 : decode cX7_goOpening 138 = .ok (.iaload, 1) := by decide +kernel
theorem dX7_goOpening_139 : decode cX7_goOpening 139 = .ok (.iconst 1, 1) := by decide +kernel
theorem dX7_goOpening_140 : decode cX7_goOpening 140 = .ok (.iload_n 2, 1) := by decide +kernel
theorem dX7_goOpening_141 : decode cX7_goOpening 141 = .ok (.ishl, 1) := by decide +kernel
theorem dX7_goOpening_142 : decode cX7_goOpening 142 = .ok (.ior, 1) := by decide +kernel
theorem dX7_goOpening_143 : decode cX7_goOpening 143 = .ok (.iastore, 1) := by decide +kernel
theorem dX7_goOpening_144 : decode cX7_goOpening 144 = .ok (.aload_n 0, 1) := by decide +kernel
theorem dX7_goOpening_145 : decode cX7_goOpening 145 = .ok (.dup, 1) := by decide +kernel
theorem dX7_goOpening_146 : decode cX7_goOpening 146 = .ok (.getfield 65, 3) := by decide +kernel
theorem dX7_goOpening_149 : decode cX7_goOpening 149 = .ok (.iconst 1, 1) := by decide +kernel
theorem dX7_goOpening_150 : decode cX7_goOpening 150 = .ok (.iadd, 1) := by decide +kernel
theorem dX7_goOpening_151 : decode cX7_goOpening 151 = .ok (.putfield 65, 3) := by decide +kernel
theorem dX7_goOpening_154 : decode cX7_goOpening 154 = .ok (.aload_n 0, 1) := by decide +kernel
theorem dX7_goOpening_155 : decode cX7_goOpening 155 = .ok (.iload_n 2, 1) := by decide +kernel
theorem dX7_goOpening_156 : decode cX7_goOpening 156 = .ok (.putfield 71, 3) := by decide +kernel
theorem dX7_goOpening_159 : decode cX7_goOpening 159 = .ok (.iconst 1, 1) := by decide +kernel
theorem dX7_goOpening_160 : decode cX7_goOpening 160 = .ok (.ireturn, 1) := by decide +kernel
theorem dX7_goSpeaker_0 : decode cX7_goSpeaker 0 = .ok (.aload_n 0, 1) := by decide +kernel
theorem dX7_goSpeaker_1 : decode cX7_goSpeaker 1 = .ok (.getfield 76, 3) := by decide +kernel
theorem dX7_goSpeaker_4 : decode cX7_goSpeaker 4 = .ok (.istore_n 2, 1) := by decide +kernel
theorem dX7_goSpeaker_5 : decode cX7_goSpeaker 5 = .ok (.aload_n 0, 1) := by decide +kernel
theorem dX7_goSpeaker_6 : decode cX7_goSpeaker 6 = .ok (.aload_n 0, 1) := by decide +kernel
theorem dX7_goSpeaker_7 : decode cX7_goSpeaker 7 = .ok (.getfield 76, 3) := by decide +kernel
theorem dX7_goSpeaker_10 : decode cX7_goSpeaker 10 = .ok (.iconst 1, 1) := by decide +kernel
theorem dX7_goSpeaker_11 : decode cX7_goSpeaker 11 = .ok (.iadd, 1) := by decide +kernel
theorem dX7_goSpeaker_12 : decode cX7_goSpeaker 12 = .ok (.iconst 3, 1) := by decide +kernel
theorem dX7_goSpeaker_13 : decode cX7_goSpeaker 13 = .ok (.irem, 1) := by decide +kernel
theorem dX7_goSpeaker_14 : decode cX7_goSpeaker 14 = .ok (.putfield 76, 3) := by decide +kernel
theorem dX7_goSpeaker_17 : decode cX7_goSpeaker 17 = .ok (.iload_n 2, 1) := by decide +kernel
theorem dX7_goSpeaker_18 : decode cX7_goSpeaker 18 = .ok (.ifCond .ne 32, 3) := by decide +kernel
theorem dX7_goSpeaker_21 : decode cX7_goSpeaker 21 = .ok (.aload_n 0, 1) := by decide +kernel
theorem dX7_goSpeaker_22 : decode cX7_goSpeaker 22 = .ok (.getfield 16, 3) := by decide +kernel
theorem dX7_goSpeaker_25 : decode cX7_goSpeaker 25 = .ok (.iconst 2, 1) := by decide +kernel
theorem dX7_goSpeaker_26 : decode cX7_goSpeaker 26 = .ok (.aload_n 0, 1) := by decide +kernel
theorem dX7_goSpeaker_27 : decode cX7_goSpeaker 27 = .ok (.getfield 79, 3) := by decide +kernel
theorem dX7_goSpeaker_30 : decode cX7_goSpeaker 30 = .ok (.imul, 1) := by decide +kernel
theorem dX7_goSpeaker_31 : decode cX7_goSpeaker 31 = .ok (.iload_n 1, 1) := by decide +kernel
theorem dX7_goSpeaker_32 : decode cX7_goSpeaker 32 = .ok (.invokestatic 82, 3) := by decide +kernel
theorem dX7_goSpeaker_35 : decode cX7_goSpeaker 35 = .ok (.iastore, 1) := by decide +kernel
theorem dX7_goSpeaker_36 : decode cX7_goSpeaker 36 = .ok (.iload_n 1, 1) := by decide +kernel
theorem dX7_goSpeaker_37 : decode cX7_goSpeaker 37 = .ok (.invokestatic 82, 3) := by decide +kernel
theorem dX7_goSpeaker_40 : decode cX7_goSpeaker 40 = .ok (.iconst (-1), 1) := by decide +kernel
theorem dX7_goSpeaker_41 : decode cX7_goSpeaker 41 = .ok (.if_icmp .eq 7, 3) := by decide +kernel
theorem dX7_goSpeaker_44 : decode cX7_goSpeaker 44 = .ok (.iconst 1, 1) := by decide +kernel
theorem dX7_goSpeaker_45 : decode cX7_goSpeaker 45 = .ok (.goto 4, 3) := by decide +kernel
theorem dX7_goSpeaker_48 : decode cX7_goSpeaker 48 = .ok (.iconst 0, 1) := by decide +kernel
theorem dX7_goSpeaker_49 : decode cX7_goSpeaker 49 = .ok (.ireturn, 1) := by decide +kernel
theorem dX7_goSpeaker_50 : decode cX7_goSpeaker 50 = .ok (.iload_n 2, 1) := by decide +kernel
theorem dX7_goSpeaker_51 : decode cX7_goSpeaker 51 = .ok (.iconst 1, 1) := by decide +kernel
theorem dX7_goSpeaker_52 : decode cX7_goSpeaker 52 = .ok (.if_icmp .ne 42, 3) := by decide +kernel
theorem dX7_goSpeaker_55 : decode cX7_goSpeaker 55 = .ok (.aload_n 0, 1) := by decide +kernel
theorem dX7_goSpeaker_56 : decode cX7_goSpeaker 56 = .ok (.getfield 16, 3) := by decide +kernel
theorem dX7_goSpeaker_59 : decode cX7_goSpeaker 59 = .ok (.iconst 2, 1) := by decide +kernel
theorem dX7_goSpeaker_60 : decode cX7_goSpeaker 60 = .ok (.aload_n 0, 1) := by decide +kernel
theorem dX7_goSpeaker_61 : decode cX7_goSpeaker 61 = .ok (.getfield 79, 3) := by decide +kernel
theorem dX7_goSpeaker_64 : decode cX7_goSpeaker 64 = .ok (.imul, 1) := by decide +kernel
theorem dX7_goSpeaker_65 : decode cX7_goSpeaker 65 = .ok (.iconst 1, 1) := by decide +kernel
theorem dX7_goSpeaker_66 : decode cX7_goSpeaker 66 = .ok (.iadd, 1) := by decide +kernel
theorem dX7_goSpeaker_67 : decode cX7_goSpeaker 67 = .ok (.iload_n 1, 1) := by decide +kernel
theorem dX7_goSpeaker_68 : decode cX7_goSpeaker 68 = .ok (.bipush 97, 2) := by decide +kernel
theorem dX7_goSpeaker_70 : decode cX7_goSpeaker 70 = .ok (.isub, 1) := by decide +kernel
theorem dX7_goSpeaker_71 : decode cX7_goSpeaker 71 = .ok (.iastore, 1) := by decide +kernel
theorem dX7_goSpeaker_72 : decode cX7_goSpeaker 72 = .ok (.aload_n 0, 1) := by decide +kernel
theorem dX7_goSpeaker_73 : decode cX7_goSpeaker 73 = .ok (.dup, 1) := by decide +kernel
theorem dX7_goSpeaker_74 : decode cX7_goSpeaker 74 = .ok (.getfield 79, 3) := by decide +kernel
theorem dX7_goSpeaker_77 : decode cX7_goSpeaker 77 = .ok (.iconst 1, 1) := by decide +kernel
theorem dX7_goSpeaker_78 : decode cX7_goSpeaker 78 = .ok (.iadd, 1) := by decide +kernel
theorem dX7_goSpeaker_79 : decode cX7_goSpeaker 79 = .ok (.putfield 79, 3) := by decide +kernel
theorem dX7_goSpeaker_82 : decode cX7_goSpeaker 82 = .ok (.iload_n 1, 1) := by decide +kernel
theorem dX7_goSpeaker_83 : decode cX7_goSpeaker 83 = .ok (.i2l, 1) := by decide +kernel
theorem dX7_goSpeaker_84 : decode cX7_goSpeaker 84 = .ok (.ldc2_w 86, 3) := by decide +kernel
theorem dX7_goSpeaker_87 : decode cX7_goSpeaker 87 = .ok (.ldc2_w 88, 3) := by decide +kernel
theorem dX7_goSpeaker_90 : decode cX7_goSpeaker 90 = .ok (.invokestatic 58, 3) := by decide +kernel
theorem dX7_goSpeaker_93 : decode cX7_goSpeaker 93 = .ok (.ireturn, 1) := by decide +kernel
theorem dX7_goSpeaker_94 : decode cX7_goSpeaker 94 = .ok (.iload_n 1, 1) := by decide +kernel
theorem dX7_goSpeaker_95 : decode cX7_goSpeaker 95 = .ok (.bipush 44, 2) := by decide +kernel
theorem dX7_goSpeaker_97 : decode cX7_goSpeaker 97 = .ok (.if_icmp .ne 15, 3) := by decide +kernel
theorem dX7_goSpeaker_100 : decode cX7_goSpeaker 100 = .ok (.aload_n 0, 1) := by decide +kernel
theorem dX7_goSpeaker_101 : decode cX7_goSpeaker 101 = .ok (.getfield 79, 3) := by decide +kernel
theorem dX7_goSpeaker_104 : decode cX7_goSpeaker 104 = .ok (.iconst 4, 1) := by decide +kernel
theorem dX7_goSpeaker_105 : decode cX7_goSpeaker 105 = .ok (.if_icmp .ge 7, 3) := by decide +kernel
theorem dX7_goSpeaker_108 : decode cX7_goSpeaker 108 = .ok (.iconst 1, 1) := by decide +kernel
theorem dX7_goSpeaker_109 : decode cX7_goSpeaker 109 = .ok (.goto 4, 3) := by decide +kernel
theorem dX7_goSpeaker_112 : decode cX7_goSpeaker 112 = .ok (.iconst 0, 1) := by decide +kernel
theorem dX7_goSpeaker_113 : decode cX7_goSpeaker 113 = .ok (.ireturn, 1) := by decide +kernel
theorem dX7_faultOf_0 : decode cX7_faultOf 0 = .ok (.aload_n 0, 1) := by decide +kernel
theorem dX7_faultOf_1 : decode cX7_faultOf 1 = .ok (.iconst 0, 1) := by decide +kernel
theorem dX7_faultOf_2 : decode cX7_faultOf 2 = .ok (.putfield 68, 3) := by decide +kernel
theorem dX7_faultOf_5 : decode cX7_faultOf 5 = .ok (.aload_n 0, 1) := by decide +kernel
theorem dX7_faultOf_6 : decode cX7_faultOf 6 = .ok (.iconst 0, 1) := by decide +kernel
theorem dX7_faultOf_7 : decode cX7_faultOf 7 = .ok (.putfield 65, 3) := by decide +kernel
theorem dX7_faultOf_10 : decode cX7_faultOf 10 = .ok (.aload_n 0, 1) := by decide +kernel
theorem dX7_faultOf_11 : decode cX7_faultOf 11 = .ok (.iconst (-1), 1) := by decide +kernel
theorem dX7_faultOf_12 : decode cX7_faultOf 12 = .ok (.putfield 71, 3) := by decide +kernel
theorem dX7_faultOf_15 : decode cX7_faultOf 15 = .ok (.aload_n 0, 1) := by decide +kernel
theorem dX7_faultOf_16 : decode cX7_faultOf 16 = .ok (.iconst 0, 1) := by decide +kernel
theorem dX7_faultOf_17 : decode cX7_faultOf 17 = .ok (.putfield 79, 3) := by decide +kernel
theorem dX7_faultOf_20 : decode cX7_faultOf 20 = .ok (.aload_n 0, 1) := by decide +kernel
theorem dX7_faultOf_21 : decode cX7_faultOf 21 = .ok (.iconst 0, 1) := by decide +kernel
theorem dX7_faultOf_22 : decode cX7_faultOf 22 = .ok (.putfield 76, 3) := by decide +kernel
theorem dX7_faultOf_25 : decode cX7_faultOf 25 = .ok (.iconst 0, 1) := by decide +kernel
theorem dX7_faultOf_26 : decode cX7_faultOf 26 = .ok (.istore_n 1, 1) := by decide +kernel
theorem dX7_faultOf_27 : decode cX7_faultOf 27 = .ok (.iload_n 1, 1) := by decide +kernel
theorem dX7_faultOf_28 : decode cX7_faultOf 28 = .ok (.aload_n 0, 1) := by decide +kernel
theorem dX7_faultOf_29 : decode cX7_faultOf 29 = .ok (.getfield 62, 3) := by decide +kernel
theorem dX7_faultOf_32 : decode cX7_faultOf 32 = .ok (.if_icmp .ge 46, 3) := by decide +kernel
theorem dX7_faultOf_35 : decode cX7_faultOf 35 = .ok (.aload_n 0, 1) := by decide +kernel
theorem dX7_faultOf_36 : decode cX7_faultOf 36 = .ok (.getfield 68, 3) := by decide +kernel
theorem dX7_faultOf_39 : decode cX7_faultOf 39 = .ok (.iconst 4, 1) := by decide +kernel
theorem dX7_faultOf_40 : decode cX7_faultOf 40 = .ok (.if_icmp .ge 19, 3) := by decide +kernel
theorem dX7_faultOf_43 : decode cX7_faultOf 43 = .ok (.aload_n 0, 1) := by decide +kernel
theorem dX7_faultOf_44 : decode cX7_faultOf 44 = .ok (.aload_n 0, 1) := by decide +kernel
theorem dX7_faultOf_45 : decode cX7_faultOf 45 = .ok (.getfield 7, 3) := by decide +kernel
theorem dX7_faultOf_48 : decode cX7_faultOf 48 = .ok (.iload_n 1, 1) := by decide +kernel
theorem dX7_faultOf_49 : decode cX7_faultOf 49 = .ok (.iaload, 1) := by decide +kernel
theorem dX7_faultOf_50 : decode cX7_faultOf 50 = .ok (.invokevirtual 90, 3) := by decide +kernel
theorem dX7_faultOf_53 : decode cX7_faultOf 53 = .ok (.ifCond .eq 25, 3) := by decide +kernel
theorem dX7_faultOf_56 : decode cX7_faultOf 56 = .ok (.goto 16, 3) := by decide +kernel
theorem dX7_faultOf_59 : decode cX7_faultOf 59 = .ok (.aload_n 0, 1) := by decide +kernel
theorem dX7_faultOf_60 : decode cX7_faultOf 60 = .ok (.aload_n 0, 1) := by decide +kernel
theorem dX7_faultOf_61 : decode cX7_faultOf 61 = .ok (.getfield 7, 3) := by decide +kernel
theorem dX7_faultOf_64 : decode cX7_faultOf 64 = .ok (.iload_n 1, 1) := by decide +kernel
theorem dX7_faultOf_65 : decode cX7_faultOf 65 = .ok (.iaload, 1) := by decide +kernel
theorem dX7_faultOf_66 : decode cX7_faultOf 66 = .ok (.invokevirtual 94, 3) := by decide +kernel
theorem dX7_faultOf_69 : decode cX7_faultOf 69 = .ok (.ifCond .eq 9, 3) := by decide +kernel
theorem dX7_faultOf_72 : decode cX7_faultOf 72 = .ok (.iinc 1 1, 3) := by decide +kernel
theorem dX7_faultOf_75 : decode cX7_faultOf 75 = .ok (.goto (-48), 3) := by decide +kernel
theorem dX7_faultOf_78 : decode cX7_faultOf 78 = .ok (.iload_n 1, 1) := by decide +kernel
theorem dX7_faultOf_79 : decode cX7_faultOf 79 = .ok (.ireturn, 1) := by decide +kernel
theorem dX7_fault_0 : decode cX7_fault 0 = .ok (.aload_n 0, 1) := by decide +kernel
theorem dX7_fault_1 : decode cX7_fault 1 = .ok (.invokevirtual 97, 3) := by decide +kernel
theorem dX7_fault_4 : decode cX7_fault 4 = .ok (.ireturn, 1) := by decide +kernel
theorem dX7_room_0 : decode cX7_room 0 = .ok (.aload_n 0, 1) := by decide +kernel
theorem dX7_room_1 : decode cX7_room 1 = .ok (.invokevirtual 97, 3) := by decide +kernel
theorem dX7_room_4 : decode cX7_room 4 = .ok (.aload_n 0, 1) := by decide +kernel
theorem dX7_room_5 : decode cX7_room 5 = .ok (.getfield 62, 3) := by decide +kernel
theorem dX7_room_8 : decode cX7_room 8 = .ok (.if_icmp .lt 19, 3) := by decide +kernel
theorem dX7_room_11 : decode cX7_room 11 = .ok (.aload_n 0, 1) := by decide +kernel
theorem dX7_room_12 : decode cX7_room 12 = .ok (.getfield 76, 3) := by decide +kernel
theorem dX7_room_15 : decode cX7_room 15 = .ok (.iconst 2, 1) := by decide +kernel
theorem dX7_room_16 : decode cX7_room 16 = .ok (.if_icmp .ne 11, 3) := by decide +kernel
theorem dX7_room_19 : decode cX7_room 19 = .ok (.aload_n 0, 1) := by decide +kernel
theorem dX7_room_20 : decode cX7_room 20 = .ok (.getfield 79, 3) := by decide +kernel
theorem dX7_room_23 : decode cX7_room 23 = .ok (.iconst 2, 1) := by decide +kernel
theorem dX7_room_24 : decode cX7_room 24 = .ok (.if_icmp .ge 6, 3) := by decide +kernel
theorem dX7_room_27 : decode cX7_room 27 = .ok (.bipush (-103), 2) := by decide +kernel
theorem dX7_room_29 : decode cX7_room 29 = .ok (.ireturn, 1) := by decide +kernel
theorem dX7_room_30 : decode cX7_room 30 = .ok (.aload_n 0, 1) := by decide +kernel
theorem dX7_room_31 : decode cX7_room 31 = .ok (.aload_n 0, 1) := by decide +kernel
theorem dX7_room_32 : decode cX7_room 32 = .ok (.getfield 79, 3) := by decide +kernel
theorem dX7_room_35 : decode cX7_room 35 = .ok (.putfield 101, 3) := by decide +kernel
theorem dX7_room_38 : decode cX7_room 38 = .ok (.aload_n 0, 1) := by decide +kernel
theorem dX7_room_39 : decode cX7_room 39 = .ok (.getfield 13, 3) := by decide +kernel
theorem dX7_room_42 : decode cX7_room 42 = .ok (.aload_n 0, 1) := by decide +kernel
theorem dX7_room_43 : decode cX7_room 43 = .ok (.getfield 19, 3) := by decide +kernel
theorem dX7_room_46 : decode cX7_room 46 = .ok (.invokestatic 104, 3) := by decide +kernel
theorem dX7_room_49 : decode cX7_room 49 = .ok (.iconst 0, 1) := by decide +kernel
theorem dX7_room_50 : decode cX7_room 50 = .ok (.istore_n 1, 1) := by decide +kernel
theorem dX7_room_51 : decode cX7_room 51 = .ok (.iload_n 1, 1) := by decide +kernel
theorem dX7_room_52 : decode cX7_room 52 = .ok (.aload_n 0, 1) := by decide +kernel
theorem dX7_room_53 : decode cX7_room 53 = .ok (.getfield 101, 3) := by decide +kernel
theorem dX7_room_56 : decode cX7_room 56 = .ok (.if_icmp .ge 56, 3) := by decide +kernel
theorem dX7_room_59 : decode cX7_room 59 = .ok (.aload_n 0, 1) := by decide +kernel
theorem dX7_room_60 : decode cX7_room 60 = .ok (.getfield 22, 3) := by decide +kernel
theorem dX7_room_63 : decode cX7_room 63 = .ok (.iconst 3, 1) := by decide +kernel
theorem dX7_room_64 : decode cX7_room 64 = .ok (.iload_n 1, 1) := by decide +kernel
theorem dX7_room_65 : decode cX7_room 65 = .ok (.imul, 1) := by decide +kernel
theorem dX7_room_66 : decode cX7_room 66 = .ok (.aload_n 0, 1) := by decide +kernel
theorem dX7_room_67 : decode cX7_room 67 = .ok (.getfield 16, 3) := by decide +kernel
theorem dX7_room_70 : decode cX7_room 70 = .ok (.iconst 2, 1) := by decide +kernel
theorem dX7_room_71 : decode cX7_room 71 = .ok (.iload_n 1, 1) := by decide +kernel
theorem dX7_room_72 : decode cX7_room 72 = .ok (.imul, 1) := by decide +kernel
theorem dX7_room_73 : decode cX7_room 73 = .ok (.iaload, 1) := by decide +kernel
theorem dX7_room_74 : decode cX7_room 74 = .ok (.iastore, 1) := by decide +kernel
theorem dX7_room_75 : decode cX7_room 75 = .ok (.aload_n 0, 1) := by decide +kernel
theorem dX7_room_76 : decode cX7_room 76 = .ok (.getfield 22, 3) := by decide +kernel
theorem dX7_room_79 : decode cX7_room 79 = .ok (.iconst 3, 1) := by decide +kernel
theorem dX7_room_80 : decode cX7_room 80 = .ok (.iload_n 1, 1) := by decide +kernel
theorem dX7_room_81 : decode cX7_room 81 = .ok (.imul, 1) := by decide +kernel
theorem dX7_room_82 : decode cX7_room 82 = .ok (.iconst 1, 1) := by decide +kernel
theorem dX7_room_83 : decode cX7_room 83 = .ok (.iadd, 1) := by decide +kernel
theorem dX7_room_84 : decode cX7_room 84 = .ok (.aload_n 0, 1) := by decide +kernel
theorem dX7_room_85 : decode cX7_room 85 = .ok (.getfield 16, 3) := by decide +kernel
theorem dX7_room_88 : decode cX7_room 88 = .ok (.iconst 2, 1) := by decide +kernel
theorem dX7_room_89 : decode cX7_room 89 = .ok (.iload_n 1, 1) := by decide +kernel
theorem dX7_room_90 : decode cX7_room 90 = .ok (.imul, 1) := by decide +kernel
theorem dX7_room_91 : decode cX7_room 91 = .ok (.iconst 1, 1) := by decide +kernel
theorem dX7_room_92 : decode cX7_room 92 = .ok (.iadd, 1) := by decide +kernel
theorem dX7_room_93 : decode cX7_room 93 = .ok (.iaload, 1) := by decide +kernel
theorem dX7_room_94 : decode cX7_room 94 = .ok (.iastore, 1) := by decide +kernel
theorem dX7_room_95 : decode cX7_room 95 = .ok (.aload_n 0, 1) := by decide +kernel
theorem dX7_room_96 : decode cX7_room 96 = .ok (.getfield 22, 3) := by decide +kernel
theorem dX7_room_99 : decode cX7_room 99 = .ok (.iconst 3, 1) := by decide +kernel
theorem dX7_room_100 : decode cX7_room 100 = .ok (.iload_n 1, 1) := by decide +kernel
theorem dX7_room_101 : decode cX7_room 101 = .ok (.imul, 1) := by decide +kernel
theorem dX7_room_102 : decode cX7_room 102 = .ok (.iconst 2, 1) := by decide +kernel
theorem dX7_room_103 : decode cX7_room 103 = .ok (.iadd, 1) := by decide +kernel
theorem dX7_room_104 : decode cX7_room 104 = .ok (.iconst 0, 1) := by decide +kernel
theorem dX7_room_105 : decode cX7_room 105 = .ok (.iastore, 1) := by decide +kernel
theorem dX7_room_106 : decode cX7_room 106 = .ok (.iinc 1 1, 3) := by decide +kernel
theorem dX7_room_109 : decode cX7_room 109 = .ok (.goto (-58), 3) := by decide +kernel
theorem dX7_room_112 : decode cX7_room 112 = .ok (.aload_n 0, 1) := by decide +kernel
theorem dX7_room_113 : decode cX7_room 113 = .ok (.iconst 0, 1) := by decide +kernel
theorem dX7_room_114 : decode cX7_room 114 = .ok (.putfield 108, 3) := by decide +kernel
theorem dX7_room_117 : decode cX7_room 117 = .ok (.aload_n 0, 1) := by decide +kernel
theorem dX7_room_118 : decode cX7_room 118 = .ok (.iconst 0, 1) := by decide +kernel
theorem dX7_room_119 : decode cX7_room 119 = .ok (.putfield 111, 3) := by decide +kernel
theorem dX7_room_122 : decode cX7_room 122 = .ok (.aload_n 0, 1) := by decide +kernel
theorem dX7_room_123 : decode cX7_room 123 = .ok (.iconst 0, 1) := by decide +kernel
theorem dX7_room_124 : decode cX7_room 124 = .ok (.putfield 114, 3) := by decide +kernel
theorem dX7_room_127 : decode cX7_room 127 = .ok (.aload_n 0, 1) := by decide +kernel
theorem dX7_room_128 : decode cX7_room 128 = .ok (.dup, 1) := by decide +kernel
theorem dX7_room_129 : decode cX7_room 129 = .ok (.getfield 117, 3) := by decide +kernel
theorem dX7_room_132 : decode cX7_room 132 = .ok (.iconst 1, 1) := by decide +kernel
theorem dX7_room_133 : decode cX7_room 133 = .ok (.iadd, 1) := by decide +kernel
theorem dX7_room_134 : decode cX7_room 134 = .ok (.putfield 117, 3) := by decide +kernel
theorem dX7_room_137 : decode cX7_room 137 = .ok (.aload_n 0, 1) := by decide +kernel
theorem dX7_room_138 : decode cX7_room 138 = .ok (.iconst 0, 1) := by decide +kernel
theorem dX7_room_139 : decode cX7_room 139 = .ok (.putfield 62, 3) := by decide +kernel
theorem dX7_room_142 : decode cX7_room 142 = .ok (.aload_n 0, 1) := by decide +kernel
theorem dX7_room_143 : decode cX7_room 143 = .ok (.getfield 101, 3) := by decide +kernel
theorem dX7_room_146 : decode cX7_room 146 = .ok (.ireturn, 1) := by decide +kernel
theorem dX7_lacks_0 : decode cX7_lacks 0 = .ok (.aload_n 0, 1) := by decide +kernel
theorem dX7_lacks_1 : decode cX7_lacks 1 = .ok (.getfield 101, 3) := by decide +kernel
theorem dX7_lacks_4 : decode cX7_lacks 4 = .ok (.ifCond .ne 7, 3) := by decide +kernel
theorem dX7_lacks_7 : decode cX7_lacks 7 = .ok (.iconst 1, 1) := by decide +kernel
theorem dX7_lacks_8 : decode cX7_lacks 8 = .ok (.goto 4, 3) := by decide +kernel
theorem dX7_lacks_11 : decode cX7_lacks 11 = .ok (.iconst 0, 1) := by decide +kernel
theorem dX7_lacks_12 : decode cX7_lacks 12 = .ok (.ireturn, 1) := by decide +kernel
theorem dX7_isOpening_0 : decode cX7_isOpening 0 = .ok (.aload_n 0, 1) := by decide +kernel
theorem dX7_isOpening_1 : decode cX7_isOpening 1 = .ok (.invokevirtual 120, 3) := by decide +kernel
theorem dX7_isOpening_4 : decode cX7_isOpening 4 = .ok (.ifCond .ne 19, 3) := by decide +kernel
theorem dX7_isOpening_7 : decode cX7_isOpening 7 = .ok (.iload_n 1, 1) := by decide +kernel
theorem dX7_isOpening_8 : decode cX7_isOpening 8 = .ok (.i2l, 1) := by decide +kernel
theorem dX7_isOpening_9 : decode cX7_isOpening 9 = .ok (.lconst 0, 1) := by decide +kernel
theorem dX7_isOpening_10 : decode cX7_isOpening 10 = .ok (.ldc2_w 124, 3) := by decide +kernel
theorem dX7_isOpening_13 : decode cX7_isOpening 13 = .ok (.invokestatic 58, 3) := by decide +kernel
theorem dX7_isOpening_16 : decode cX7_isOpening 16 = .ok (.ifCond .eq 7, 3) := by decide +kernel
theorem dX7_isOpening_19 : decode cX7_isOpening 19 = .ok (.iconst 1, 1) := by decide +kernel
theorem dX7_isOpening_20 : decode cX7_isOpening 20 = .ok (.goto 4, 3) := by decide +kernel
theorem dX7_isOpening_23 : decode cX7_isOpening 23 = .ok (.iconst 0, 1) := by decide +kernel
theorem dX7_isOpening_24 : decode cX7_isOpening 24 = .ok (.ireturn, 1) := by decide +kernel
theorem dX7_isSpeaker_0 : decode cX7_isSpeaker 0 = .ok (.iload_n 1, 1) := by decide +kernel
theorem dX7_isSpeaker_1 : decode cX7_isSpeaker 1 = .ok (.i2l, 1) := by decide +kernel
theorem dX7_isSpeaker_2 : decode cX7_isSpeaker 2 = .ok (.lconst 0, 1) := by decide +kernel
theorem dX7_isSpeaker_3 : decode cX7_isSpeaker 3 = .ok (.aload_n 0, 1) := by decide +kernel
theorem dX7_isSpeaker_4 : decode cX7_isSpeaker 4 = .ok (.getfield 101, 3) := by decide +kernel
theorem dX7_isSpeaker_7 : decode cX7_isSpeaker 7 = .ok (.iconst 1, 1) := by decide +kernel
theorem dX7_isSpeaker_8 : decode cX7_isSpeaker 8 = .ok (.isub, 1) := by decide +kernel
theorem dX7_isSpeaker_9 : decode cX7_isSpeaker 9 = .ok (.i2l, 1) := by decide +kernel
theorem dX7_isSpeaker_10 : decode cX7_isSpeaker 10 = .ok (.invokestatic 58, 3) := by decide +kernel
theorem dX7_isSpeaker_13 : decode cX7_isSpeaker 13 = .ok (.ireturn, 1) := by decide +kernel
theorem dX7_fits_0 : decode cX7_fits 0 = .ok (.aload_n 0, 1) := by decide +kernel
theorem dX7_fits_1 : decode cX7_fits 1 = .ok (.iload_n 1, 1) := by decide +kernel
theorem dX7_fits_2 : decode cX7_fits 2 = .ok (.invokevirtual 126, 3) := by decide +kernel
theorem dX7_fits_5 : decode cX7_fits 5 = .ok (.ifCond .eq 12, 3) := by decide +kernel
theorem dX7_fits_8 : decode cX7_fits 8 = .ok (.aload_n 0, 1) := by decide +kernel
theorem dX7_fits_9 : decode cX7_fits 9 = .ok (.getfield 19, 3) := by decide +kernel
theorem dX7_fits_12 : decode cX7_fits 12 = .ok (.iload_n 1, 1) := by decide +kernel
theorem dX7_fits_13 : decode cX7_fits 13 = .ok (.iaload, 1) := by decide +kernel
theorem dX7_fits_14 : decode cX7_fits 14 = .ok (.goto 5, 3) := by decide +kernel
theorem dX7_fits_17 : decode cX7_fits 17 = .ok (.bipush (-101), 2) := by decide +kernel
theorem dX7_fits_19 : decode cX7_fits 19 = .ok (.ireturn, 1) := by decide +kernel
theorem dX7_leastOf_0 : decode cX7_leastOf 0 = .ok (.iconst (-1), 1) := by decide +kernel
theorem dX7_leastOf_1 : decode cX7_leastOf 1 = .ok (.istore_n 1, 1) := by decide +kernel
theorem dX7_leastOf_2 : decode cX7_leastOf 2 = .ok (.iconst 5, 1) := by decide +kernel
theorem dX7_leastOf_3 : decode cX7_leastOf 3 = .ok (.istore_n 2, 1) := by decide +kernel
theorem dX7_leastOf_4 : decode cX7_leastOf 4 = .ok (.iload_n 2, 1) := by decide +kernel
theorem dX7_leastOf_5 : decode cX7_leastOf 5 = .ok (.ifCond .lt 24, 3) := by decide +kernel
theorem dX7_leastOf_8 : decode cX7_leastOf 8 = .ok (.iload_n 0, 1) := by decide +kernel
theorem dX7_leastOf_9 : decode cX7_leastOf 9 = .ok (.iload_n 2, 1) := by decide +kernel
theorem dX7_leastOf_10 : decode cX7_leastOf 10 = .ok (.ishr, 1) := by decide +kernel
theorem dX7_leastOf_11 : decode cX7_leastOf 11 = .ok (.iconst 1, 1) := by decide +kernel
theorem dX7_leastOf_12 : decode cX7_leastOf 12 = .ok (.iand, 1) := by decide +kernel
theorem dX7_leastOf_13 : decode cX7_leastOf 13 = .ok (.iconst 1, 1) := by decide +kernel
theorem dX7_leastOf_14 : decode cX7_leastOf 14 = .ok (.if_icmp .ne 7, 3) := by decide +kernel
theorem dX7_leastOf_17 : decode cX7_leastOf 17 = .ok (.iload_n 2, 1) := by decide +kernel
theorem dX7_leastOf_18 : decode cX7_leastOf 18 = .ok (.goto 4, 3) := by decide +kernel
theorem dX7_leastOf_21 : decode cX7_leastOf 21 = .ok (.iload_n 1, 1) := by decide +kernel
theorem dX7_leastOf_22 : decode cX7_leastOf 22 = .ok (.istore_n 1, 1) := by decide +kernel
theorem dX7_leastOf_23 : decode cX7_leastOf 23 = .ok (.iinc 2 (-1), 3) := by decide +kernel
theorem dX7_leastOf_26 : decode cX7_leastOf 26 = .ok (.goto (-22), 3) := by decide +kernel
theorem dX7_leastOf_29 : decode cX7_leastOf 29 = .ok (.iload_n 1, 1) := by decide +kernel
theorem dX7_leastOf_30 : decode cX7_leastOf 30 = .ok (.ireturn, 1) := by decide +kernel
theorem dX7_greatestOf_0 : decode cX7_greatestOf 0 = .ok (.iconst (-1), 1) := by decide +kernel
theorem dX7_greatestOf_1 : decode cX7_greatestOf 1 = .ok (.istore_n 1, 1) := by decide +kernel
theorem dX7_greatestOf_2 : decode cX7_greatestOf 2 = .ok (.iconst 0, 1) := by decide +kernel
theorem dX7_greatestOf_3 : decode cX7_greatestOf 3 = .ok (.istore_n 2, 1) := by decide +kernel
theorem dX7_greatestOf_4 : decode cX7_greatestOf 4 = .ok (.iload_n 2, 1) := by decide +kernel
theorem dX7_greatestOf_5 : decode cX7_greatestOf 5 = .ok (.bipush 6, 2) := by decide +kernel
theorem dX7_greatestOf_7 : decode cX7_greatestOf 7 = .ok (.if_icmp .ge 24, 3) := by decide +kernel
theorem dX7_greatestOf_10 : decode cX7_greatestOf 10 = .ok (.iload_n 0, 1) := by decide +kernel
theorem dX7_greatestOf_11 : decode cX7_greatestOf 11 = .ok (.iload_n 2, 1) := by decide +kernel
theorem dX7_greatestOf_12 : decode cX7_greatestOf 12 = .ok (.ishr, 1) := by decide +kernel
theorem dX7_greatestOf_13 : decode cX7_greatestOf 13 = .ok (.iconst 1, 1) := by decide +kernel
theorem dX7_greatestOf_14 : decode cX7_greatestOf 14 = .ok (.iand, 1) := by decide +kernel
theorem dX7_greatestOf_15 : decode cX7_greatestOf 15 = .ok (.iconst 1, 1) := by decide +kernel
theorem dX7_greatestOf_16 : decode cX7_greatestOf 16 = .ok (.if_icmp .ne 7, 3) := by decide +kernel
theorem dX7_greatestOf_19 : decode cX7_greatestOf 19 = .ok (.iload_n 2, 1) := by decide +kernel
theorem dX7_greatestOf_20 : decode cX7_greatestOf 20 = .ok (.goto 4, 3) := by decide +kernel
theorem dX7_greatestOf_23 : decode cX7_greatestOf 23 = .ok (.iload_n 1, 1) := by decide +kernel
theorem dX7_greatestOf_24 : decode cX7_greatestOf 24 = .ok (.istore_n 1, 1) := by decide +kernel
theorem dX7_greatestOf_25 : decode cX7_greatestOf 25 = .ok (.iinc 2 1, 3) := by decide +kernel
theorem dX7_greatestOf_28 : decode cX7_greatestOf 28 = .ok (.goto (-24), 3) := by decide +kernel
theorem dX7_greatestOf_31 : decode cX7_greatestOf 31 = .ok (.iload_n 1, 1) := by decide +kernel
theorem dX7_greatestOf_32 : decode cX7_greatestOf 32 = .ok (.ireturn, 1) := by decide +kernel
theorem dX7_ones_0 : decode cX7_ones 0 = .ok (.iconst 0, 1) := by decide +kernel
theorem dX7_ones_1 : decode cX7_ones 1 = .ok (.istore_n 1, 1) := by decide +kernel
theorem dX7_ones_2 : decode cX7_ones 2 = .ok (.iconst 0, 1) := by decide +kernel
theorem dX7_ones_3 : decode cX7_ones 3 = .ok (.istore_n 2, 1) := by decide +kernel
theorem dX7_ones_4 : decode cX7_ones 4 = .ok (.iload_n 2, 1) := by decide +kernel
theorem dX7_ones_5 : decode cX7_ones 5 = .ok (.bipush 6, 2) := by decide +kernel
theorem dX7_ones_7 : decode cX7_ones 7 = .ok (.if_icmp .ge 17, 3) := by decide +kernel
theorem dX7_ones_10 : decode cX7_ones 10 = .ok (.iload_n 1, 1) := by decide +kernel
theorem dX7_ones_11 : decode cX7_ones 11 = .ok (.iload_n 0, 1) := by decide +kernel
theorem dX7_ones_12 : decode cX7_ones 12 = .ok (.iload_n 2, 1) := by decide +kernel
theorem dX7_ones_13 : decode cX7_ones 13 = .ok (.ishr, 1) := by decide +kernel
theorem dX7_ones_14 : decode cX7_ones 14 = .ok (.iconst 1, 1) := by decide +kernel
theorem dX7_ones_15 : decode cX7_ones 15 = .ok (.iand, 1) := by decide +kernel
theorem dX7_ones_16 : decode cX7_ones 16 = .ok (.iadd, 1) := by decide +kernel
theorem dX7_ones_17 : decode cX7_ones 17 = .ok (.istore_n 1, 1) := by decide +kernel
theorem dX7_ones_18 : decode cX7_ones 18 = .ok (.iinc 2 1, 3) := by decide +kernel
theorem dX7_ones_21 : decode cX7_ones 21 = .ok (.goto (-17), 3) := by decide +kernel
theorem dX7_ones_24 : decode cX7_ones 24 = .ok (.iload_n 1, 1) := by decide +kernel
theorem dX7_ones_25 : decode cX7_ones 25 = .ok (.ireturn, 1) := by decide +kernel
theorem dX7_endsBy_0 : decode cX7_endsBy 0 = .ok (.aload_n 0, 1) := by decide +kernel
theorem dX7_endsBy_1 : decode cX7_endsBy 1 = .ok (.getfield 19, 3) := by decide +kernel
theorem dX7_endsBy_4 : decode cX7_endsBy 4 = .ok (.iload 4, 2) := by decide +kernel
theorem dX7_endsBy_6 : decode cX7_endsBy 6 = .ok (.iaload, 1) := by decide +kernel
theorem dX7_endsBy_7 : decode cX7_endsBy 7 = .ok (.istore 5, 2) := by decide +kernel
theorem dX7_endsBy_9 : decode cX7_endsBy 9 = .ok (.iload 5, 2) := by decide +kernel
theorem dX7_endsBy_11 : decode cX7_endsBy 11 = .ok (.iload_n 2, 1) := by decide +kernel
theorem dX7_endsBy_12 : decode cX7_endsBy 12 = .ok (.ishr, 1) := by decide +kernel
theorem dX7_endsBy_13 : decode cX7_endsBy 13 = .ok (.iconst 1, 1) := by decide +kernel
theorem dX7_endsBy_14 : decode cX7_endsBy 14 = .ok (.iand, 1) := by decide +kernel
theorem dX7_endsBy_15 : decode cX7_endsBy 15 = .ok (.iconst 1, 1) := by decide +kernel
theorem dX7_endsBy_16 : decode cX7_endsBy 16 = .ok (.if_icmp .ne 7, 3) := by decide +kernel
theorem dX7_endsBy_19 : decode cX7_endsBy 19 = .ok (.iconst 1, 1) := by decide +kernel
theorem dX7_endsBy_20 : decode cX7_endsBy 20 = .ok (.goto 4, 3) := by decide +kernel
theorem dX7_endsBy_23 : decode cX7_endsBy 23 = .ok (.iconst 0, 1) := by decide +kernel
theorem dX7_endsBy_24 : decode cX7_endsBy 24 = .ok (.istore 6, 2) := by decide +kernel
theorem dX7_endsBy_26 : decode cX7_endsBy 26 = .ok (.iload 5, 2) := by decide +kernel
theorem dX7_endsBy_28 : decode cX7_endsBy 28 = .ok (.iload_n 3, 1) := by decide +kernel
theorem dX7_endsBy_29 : decode cX7_endsBy 29 = .ok (.iconst (-1), 1) := by decide +kernel
theorem dX7_endsBy_30 : decode cX7_endsBy 30 = .ok (.ixor, 1) := by decide +kernel
theorem dX7_endsBy_31 : decode cX7_endsBy 31 = .ok (.iand, 1) := by decide +kernel
theorem dX7_endsBy_32 : decode cX7_endsBy 32 = .ok (.istore 7, 2) := by decide +kernel
theorem dX7_endsBy_34 : decode cX7_endsBy 34 = .ok (.iload_n 1, 1) := by decide +kernel
theorem dX7_endsBy_35 : decode cX7_endsBy 35 = .ok (.tableswitch 64 1 4 #[29, 40, 42, 48], 29) := by decide +kernel
theorem dX7_endsBy_64 : decode cX7_endsBy 64 = .ok (.iload 6, 2) := by decide +kernel
theorem dX7_endsBy_66 : decode cX7_endsBy 66 = .ok (.ifCond .eq 7, 3) := by decide +kernel
theorem dX7_endsBy_69 : decode cX7_endsBy 69 = .ok (.iload_n 2, 1) := by decide +kernel
theorem dX7_endsBy_70 : decode cX7_endsBy 70 = .ok (.goto 4, 3) := by decide +kernel
theorem dX7_endsBy_73 : decode cX7_endsBy 73 = .ok (.iconst (-1), 1) := by decide +kernel
theorem dX7_endsBy_74 : decode cX7_endsBy 74 = .ok (.ireturn, 1) := by decide +kernel
theorem dX7_endsBy_75 : decode cX7_endsBy 75 = .ok (.iload_n 2, 1) := by decide +kernel
theorem dX7_endsBy_76 : decode cX7_endsBy 76 = .ok (.ireturn, 1) := by decide +kernel
theorem dX7_endsBy_77 : decode cX7_endsBy 77 = .ok (.iload 5, 2) := by decide +kernel
theorem dX7_endsBy_79 : decode cX7_endsBy 79 = .ok (.invokestatic 129, 3) := by decide +kernel
theorem dX7_endsBy_82 : decode cX7_endsBy 82 = .ok (.ireturn, 1) := by decide +kernel
theorem dX7_endsBy_83 : decode cX7_endsBy 83 = .ok (.iload 7, 2) := by decide +kernel
theorem dX7_endsBy_85 : decode cX7_endsBy 85 = .ok (.ifCond .ne 8, 3) := by decide +kernel
theorem dX7_endsBy_88 : decode cX7_endsBy 88 = .ok (.iload 5, 2) := by decide +kernel
theorem dX7_endsBy_90 : decode cX7_endsBy 90 = .ok (.goto 5, 3) := by decide +kernel
theorem dX7_endsBy_93 : decode cX7_endsBy 93 = .ok (.iload 7, 2) := by decide +kernel
theorem dX7_endsBy_95 : decode cX7_endsBy 95 = .ok (.invokestatic 129, 3) := by decide +kernel
theorem dX7_endsBy_98 : decode cX7_endsBy 98 = .ok (.ireturn, 1) := by decide +kernel
theorem dX7_endsBy_99 : decode cX7_endsBy 99 = .ok (.iload 6, 2) := by decide +kernel
theorem dX7_endsBy_101 : decode cX7_endsBy 101 = .ok (.ifCond .eq 7, 3) := by decide +kernel
theorem dX7_endsBy_104 : decode cX7_endsBy 104 = .ok (.iload_n 2, 1) := by decide +kernel
theorem dX7_endsBy_105 : decode cX7_endsBy 105 = .ok (.goto 8, 3) := by decide +kernel
theorem dX7_endsBy_108 : decode cX7_endsBy 108 = .ok (.iload 5, 2) := by decide +kernel
theorem dX7_endsBy_110 : decode cX7_endsBy 110 = .ok (.invokestatic 132, 3) := by decide +kernel
theorem dX7_endsBy_113 : decode cX7_endsBy 113 = .ok (.ireturn, 1) := by decide +kernel
theorem dX7_wouldOf_0 : decode cX7_wouldOf 0 = .ok (.aload_n 0, 1) := by decide +kernel
theorem dX7_wouldOf_1 : decode cX7_wouldOf 1 = .ok (.aload_n 0, 1) := by decide +kernel
theorem dX7_wouldOf_2 : decode cX7_wouldOf 2 = .ok (.getfield 22, 3) := by decide +kernel
theorem dX7_wouldOf_5 : decode cX7_wouldOf 5 = .ok (.iconst 3, 1) := by decide +kernel
theorem dX7_wouldOf_6 : decode cX7_wouldOf 6 = .ok (.iload_n 1, 1) := by decide +kernel
theorem dX7_wouldOf_7 : decode cX7_wouldOf 7 = .ok (.imul, 1) := by decide +kernel
theorem dX7_wouldOf_8 : decode cX7_wouldOf 8 = .ok (.iaload, 1) := by decide +kernel
theorem dX7_wouldOf_9 : decode cX7_wouldOf 9 = .ok (.aload_n 0, 1) := by decide +kernel
theorem dX7_wouldOf_10 : decode cX7_wouldOf 10 = .ok (.getfield 22, 3) := by decide +kernel
theorem dX7_wouldOf_13 : decode cX7_wouldOf 13 = .ok (.iconst 3, 1) := by decide +kernel
theorem dX7_wouldOf_14 : decode cX7_wouldOf 14 = .ok (.iload_n 1, 1) := by decide +kernel
theorem dX7_wouldOf_15 : decode cX7_wouldOf 15 = .ok (.imul, 1) := by decide +kernel
theorem dX7_wouldOf_16 : decode cX7_wouldOf 16 = .ok (.iconst 1, 1) := by decide +kernel
theorem dX7_wouldOf_17 : decode cX7_wouldOf 17 = .ok (.iadd, 1) := by decide +kernel
theorem dX7_wouldOf_18 : decode cX7_wouldOf 18 = .ok (.iaload, 1) := by decide +kernel
theorem dX7_wouldOf_19 : decode cX7_wouldOf 19 = .ok (.aload_n 0, 1) := by decide +kernel
theorem dX7_wouldOf_20 : decode cX7_wouldOf 20 = .ok (.getfield 22, 3) := by decide +kernel
theorem dX7_wouldOf_23 : decode cX7_wouldOf 23 = .ok (.iconst 3, 1) := by decide +kernel
theorem dX7_wouldOf_24 : decode cX7_wouldOf 24 = .ok (.iload_n 1, 1) := by decide +kernel
theorem dX7_wouldOf_25 : decode cX7_wouldOf 25 = .ok (.imul, 1) := by decide +kernel
theorem dX7_wouldOf_26 : decode cX7_wouldOf 26 = .ok (.iconst 2, 1) := by decide +kernel
theorem dX7_wouldOf_27 : decode cX7_wouldOf 27 = .ok (.iadd, 1) := by decide +kernel
theorem dX7_wouldOf_28 : decode cX7_wouldOf 28 = .ok (.iaload, 1) := by decide +kernel
theorem dX7_wouldOf_29 : decode cX7_wouldOf 29 = .ok (.iload_n 2, 1) := by decide +kernel
theorem dX7_wouldOf_30 : decode cX7_wouldOf 30 = .ok (.invokevirtual 135, 3) := by decide +kernel
theorem dX7_wouldOf_33 : decode cX7_wouldOf 33 = .ok (.ireturn, 1) := by decide +kernel
theorem dX7_openOf_0 : decode cX7_openOf 0 = .ok (.iconst (-1), 1) := by decide +kernel
theorem dX7_openOf_1 : decode cX7_openOf 1 = .ok (.istore_n 2, 1) := by decide +kernel
theorem dX7_openOf_2 : decode cX7_openOf 2 = .ok (.iconst 0, 1) := by decide +kernel
theorem dX7_openOf_3 : decode cX7_openOf 3 = .ok (.istore_n 3, 1) := by decide +kernel
theorem dX7_openOf_4 : decode cX7_openOf 4 = .ok (.iload_n 3, 1) := by decide +kernel
theorem dX7_openOf_5 : decode cX7_openOf 5 = .ok (.aload_n 0, 1) := by decide +kernel
theorem dX7_openOf_6 : decode cX7_openOf 6 = .ok (.getfield 111, 3) := by decide +kernel
theorem dX7_openOf_9 : decode cX7_openOf 9 = .ok (.if_icmp .ge 41, 3) := by decide +kernel
theorem dX7_openOf_12 : decode cX7_openOf 12 = .ok (.aload_n 0, 1) := by decide +kernel
theorem dX7_openOf_13 : decode cX7_openOf 13 = .ok (.getfield 25, 3) := by decide +kernel
theorem dX7_openOf_16 : decode cX7_openOf 16 = .ok (.iconst 4, 1) := by decide +kernel
theorem dX7_openOf_17 : decode cX7_openOf 17 = .ok (.iload_n 3, 1) := by decide +kernel
theorem dX7_openOf_18 : decode cX7_openOf 18 = .ok (.imul, 1) := by decide +kernel
theorem dX7_openOf_19 : decode cX7_openOf 19 = .ok (.iaload, 1) := by decide +kernel
theorem dX7_openOf_20 : decode cX7_openOf 20 = .ok (.iload_n 1, 1) := by decide +kernel
theorem dX7_openOf_21 : decode cX7_openOf 21 = .ok (.if_icmp .ne 21, 3) := by decide +kernel
theorem dX7_openOf_24 : decode cX7_openOf 24 = .ok (.aload_n 0, 1) := by decide +kernel
theorem dX7_openOf_25 : decode cX7_openOf 25 = .ok (.getfield 25, 3) := by decide +kernel
theorem dX7_openOf_28 : decode cX7_openOf 28 = .ok (.iconst 4, 1) := by decide +kernel
theorem dX7_openOf_29 : decode cX7_openOf 29 = .ok (.iload_n 3, 1) := by decide +kernel
theorem dX7_openOf_30 : decode cX7_openOf 30 = .ok (.imul, 1) := by decide +kernel
theorem dX7_openOf_31 : decode cX7_openOf 31 = .ok (.iconst 2, 1) := by decide +kernel
theorem dX7_openOf_32 : decode cX7_openOf 32 = .ok (.iadd, 1) := by decide +kernel
theorem dX7_openOf_33 : decode cX7_openOf 33 = .ok (.iaload, 1) := by decide +kernel
theorem dX7_openOf_34 : decode cX7_openOf 34 = .ok (.iconst (-1), 1) := by decide +kernel
theorem dX7_openOf_35 : decode cX7_openOf 35 = .ok (.if_icmp .ne 7, 3) := by decide +kernel
theorem dX7_openOf_38 : decode cX7_openOf 38 = .ok (.iload_n 3, 1) := by decide +kernel
theorem dX7_openOf_39 : decode cX7_openOf 39 = .ok (.goto 4, 3) := by decide +kernel
theorem dX7_openOf_42 : decode cX7_openOf 42 = .ok (.iload_n 2, 1) := by decide +kernel
theorem dX7_openOf_43 : decode cX7_openOf 43 = .ok (.istore_n 2, 1) := by decide +kernel
theorem dX7_openOf_44 : decode cX7_openOf 44 = .ok (.iinc 3 1, 3) := by decide +kernel
theorem dX7_openOf_47 : decode cX7_openOf 47 = .ok (.goto (-43), 3) := by decide +kernel
theorem dX7_openOf_50 : decode cX7_openOf 50 = .ok (.iload_n 2, 1) := by decide +kernel
theorem dX7_openOf_51 : decode cX7_openOf 51 = .ok (.ireturn, 1) := by decide +kernel
theorem dX7_saidBy_0 : decode cX7_saidBy 0 = .ok (.iconst 0, 1) := by decide +kernel
theorem dX7_saidBy_1 : decode cX7_saidBy 1 = .ok (.istore_n 3, 1) := by decide +kernel
theorem dX7_saidBy_2 : decode cX7_saidBy 2 = .ok (.iconst 0, 1) := by decide +kernel
theorem dX7_saidBy_3 : decode cX7_saidBy 3 = .ok (.istore 4, 2) := by decide +kernel
theorem dX7_saidBy_5 : decode cX7_saidBy 5 = .ok (.iload 4, 2) := by decide +kernel
theorem dX7_saidBy_7 : decode cX7_saidBy 7 = .ok (.aload_n 0, 1) := by decide +kernel
theorem dX7_saidBy_8 : decode cX7_saidBy 8 = .ok (.getfield 111, 3) := by decide +kernel
theorem dX7_saidBy_11 : decode cX7_saidBy 11 = .ok (.if_icmp .ge 32, 3) := by decide +kernel
theorem dX7_saidBy_14 : decode cX7_saidBy 14 = .ok (.iload_n 3, 1) := by decide +kernel
theorem dX7_saidBy_15 : decode cX7_saidBy 15 = .ok (.aload_n 0, 1) := by decide +kernel
theorem dX7_saidBy_16 : decode cX7_saidBy 16 = .ok (.getfield 25, 3) := by decide +kernel
theorem dX7_saidBy_19 : decode cX7_saidBy 19 = .ok (.iconst 4, 1) := by decide +kernel
theorem dX7_saidBy_20 : decode cX7_saidBy 20 = .ok (.iload 4, 2) := by decide +kernel
theorem dX7_saidBy_22 : decode cX7_saidBy 22 = .ok (.imul, 1) := by decide +kernel
theorem dX7_saidBy_23 : decode cX7_saidBy 23 = .ok (.iload_n 1, 1) := by decide +kernel
theorem dX7_saidBy_24 : decode cX7_saidBy 24 = .ok (.iadd, 1) := by decide +kernel
theorem dX7_saidBy_25 : decode cX7_saidBy 25 = .ok (.iaload, 1) := by decide +kernel
theorem dX7_saidBy_26 : decode cX7_saidBy 26 = .ok (.iload_n 2, 1) := by decide +kernel
theorem dX7_saidBy_27 : decode cX7_saidBy 27 = .ok (.if_icmp .ne 7, 3) := by decide +kernel
theorem dX7_saidBy_30 : decode cX7_saidBy 30 = .ok (.iconst 1, 1) := by decide +kernel
theorem dX7_saidBy_31 : decode cX7_saidBy 31 = .ok (.goto 4, 3) := by decide +kernel
theorem dX7_saidBy_34 : decode cX7_saidBy 34 = .ok (.iconst 0, 1) := by decide +kernel
theorem dX7_saidBy_35 : decode cX7_saidBy 35 = .ok (.iadd, 1) := by decide +kernel
theorem dX7_saidBy_36 : decode cX7_saidBy 36 = .ok (.istore_n 3, 1) := by decide +kernel
theorem dX7_saidBy_37 : decode cX7_saidBy 37 = .ok (.iinc 4 1, 3) := by decide +kernel
theorem dX7_saidBy_40 : decode cX7_saidBy 40 = .ok (.goto (-35), 3) := by decide +kernel
theorem dX7_saidBy_43 : decode cX7_saidBy 43 = .ok (.iload_n 3, 1) := by decide +kernel
theorem dX7_saidBy_44 : decode cX7_saidBy 44 = .ok (.ireturn, 1) := by decide +kernel
theorem dX7_sureOf_0 : decode cX7_sureOf 0 = .ok (.iconst (-1), 1) := by decide +kernel
theorem dX7_sureOf_1 : decode cX7_sureOf 1 = .ok (.istore_n 2, 1) := by decide +kernel
theorem dX7_sureOf_2 : decode cX7_sureOf 2 = .ok (.iconst 3, 1) := by decide +kernel
theorem dX7_sureOf_3 : decode cX7_sureOf 3 = .ok (.istore_n 3, 1) := by decide +kernel
theorem dX7_sureOf_4 : decode cX7_sureOf 4 = .ok (.iload_n 3, 1) := by decide +kernel
theorem dX7_sureOf_5 : decode cX7_sureOf 5 = .ok (.ifCond .lt 117, 3) := by decide +kernel
theorem dX7_sureOf_8 : decode cX7_sureOf 8 = .ok (.iconst 1, 1) := by decide +kernel
theorem dX7_sureOf_9 : decode cX7_sureOf 9 = .ok (.istore 4, 2) := by decide +kernel
theorem dX7_sureOf_11 : decode cX7_sureOf 11 = .ok (.iconst 0, 1) := by decide +kernel
theorem dX7_sureOf_12 : decode cX7_sureOf 12 = .ok (.istore 5, 2) := by decide +kernel
theorem dX7_sureOf_14 : decode cX7_sureOf 14 = .ok (.iconst 0, 1) := by decide +kernel
theorem dX7_sureOf_15 : decode cX7_sureOf 15 = .ok (.istore 6, 2) := by decide +kernel
theorem dX7_sureOf_17 : decode cX7_sureOf 17 = .ok (.iload 6, 2) := by decide +kernel
theorem dX7_sureOf_19 : decode cX7_sureOf 19 = .ok (.aload_n 0, 1) := by decide +kernel
theorem dX7_sureOf_20 : decode cX7_sureOf 20 = .ok (.getfield 101, 3) := by decide +kernel
theorem dX7_sureOf_23 : decode cX7_sureOf 23 = .ok (.if_icmp .ge 77, 3) := by decide +kernel
theorem dX7_sureOf_26 : decode cX7_sureOf 26 = .ok (.iload 6, 2) := by decide +kernel
theorem dX7_sureOf_28 : decode cX7_sureOf 28 = .ok (.iload_n 1, 1) := by decide +kernel
theorem dX7_sureOf_29 : decode cX7_sureOf 29 = .ok (.if_icmp .ne 7, 3) := by decide +kernel
theorem dX7_sureOf_32 : decode cX7_sureOf 32 = .ok (.iconst (-1), 1) := by decide +kernel
theorem dX7_sureOf_33 : decode cX7_sureOf 33 = .ok (.goto 10, 3) := by decide +kernel
theorem dX7_sureOf_36 : decode cX7_sureOf 36 = .ok (.aload_n 0, 1) := by decide +kernel
theorem dX7_sureOf_37 : decode cX7_sureOf 37 = .ok (.iload 6, 2) := by decide +kernel
theorem dX7_sureOf_39 : decode cX7_sureOf 39 = .ok (.iload_n 3, 1) := by decide +kernel
theorem dX7_sureOf_40 : decode cX7_sureOf 40 = .ok (.invokevirtual 139, 3) := by decide +kernel
theorem dX7_sureOf_43 : decode cX7_sureOf 43 = .ok (.istore 7, 2) := by decide +kernel
theorem dX7_sureOf_45 : decode cX7_sureOf 45 = .ok (.iload 4, 2) := by decide +kernel
theorem dX7_sureOf_47 : decode cX7_sureOf 47 = .ok (.ifCond .eq 28, 3) := by decide +kernel
theorem dX7_sureOf_50 : decode cX7_sureOf 50 = .ok (.iload 7, 2) := by decide +kernel
theorem dX7_sureOf_52 : decode cX7_sureOf 52 = .ok (.iconst (-1), 1) := by decide +kernel
theorem dX7_sureOf_53 : decode cX7_sureOf 53 = .ok (.if_icmp .eq 18, 3) := by decide +kernel
theorem dX7_sureOf_56 : decode cX7_sureOf 56 = .ok (.iload 7, 2) := by decide +kernel
theorem dX7_sureOf_58 : decode cX7_sureOf 58 = .ok (.aload_n 0, 1) := by decide +kernel
theorem dX7_sureOf_59 : decode cX7_sureOf 59 = .ok (.getfield 22, 3) := by decide +kernel
theorem dX7_sureOf_62 : decode cX7_sureOf 62 = .ok (.iconst 3, 1) := by decide +kernel
theorem dX7_sureOf_63 : decode cX7_sureOf 63 = .ok (.iload_n 1, 1) := by decide +kernel
theorem dX7_sureOf_64 : decode cX7_sureOf 64 = .ok (.imul, 1) := by decide +kernel
theorem dX7_sureOf_65 : decode cX7_sureOf 65 = .ok (.iconst 1, 1) := by decide +kernel
theorem dX7_sureOf_66 : decode cX7_sureOf 66 = .ok (.iadd, 1) := by decide +kernel
theorem dX7_sureOf_67 : decode cX7_sureOf 67 = .ok (.iaload, 1) := by decide +kernel
theorem dX7_sureOf_68 : decode cX7_sureOf 68 = .ok (.if_icmp .ne 7, 3) := by decide +kernel
theorem dX7_sureOf_71 : decode cX7_sureOf 71 = .ok (.iconst 1, 1) := by decide +kernel
theorem dX7_sureOf_72 : decode cX7_sureOf 72 = .ok (.goto 4, 3) := by decide +kernel
theorem dX7_sureOf_75 : decode cX7_sureOf 75 = .ok (.iconst 0, 1) := by decide +kernel
theorem dX7_sureOf_76 : decode cX7_sureOf 76 = .ok (.istore 4, 2) := by decide +kernel
theorem dX7_sureOf_78 : decode cX7_sureOf 78 = .ok (.iload 5, 2) := by decide +kernel
theorem dX7_sureOf_80 : decode cX7_sureOf 80 = .ok (.iload 7, 2) := by decide +kernel
theorem dX7_sureOf_82 : decode cX7_sureOf 82 = .ok (.iconst (-1), 1) := by decide +kernel
theorem dX7_sureOf_83 : decode cX7_sureOf 83 = .ok (.if_icmp .ne 7, 3) := by decide +kernel
theorem dX7_sureOf_86 : decode cX7_sureOf 86 = .ok (.iconst 0, 1) := by decide +kernel
theorem dX7_sureOf_87 : decode cX7_sureOf 87 = .ok (.goto 4, 3) := by decide +kernel
theorem dX7_sureOf_90 : decode cX7_sureOf 90 = .ok (.iconst 1, 1) := by decide +kernel
theorem dX7_sureOf_91 : decode cX7_sureOf 91 = .ok (.iadd, 1) := by decide +kernel
theorem dX7_sureOf_92 : decode cX7_sureOf 92 = .ok (.istore 5, 2) := by decide +kernel
theorem dX7_sureOf_94 : decode cX7_sureOf 94 = .ok (.iinc 6 1, 3) := by decide +kernel
theorem dX7_sureOf_97 : decode cX7_sureOf 97 = .ok (.goto (-80), 3) := by decide +kernel
theorem dX7_sureOf_100 : decode cX7_sureOf 100 = .ok (.iload 4, 2) := by decide +kernel
theorem dX7_sureOf_102 : decode cX7_sureOf 102 = .ok (.ifCond .eq 12, 3) := by decide +kernel
theorem dX7_sureOf_105 : decode cX7_sureOf 105 = .ok (.iload 5, 2) := by decide +kernel
theorem dX7_sureOf_107 : decode cX7_sureOf 107 = .ok (.ifCond .le 7, 3) := by decide +kernel
theorem dX7_sureOf_110 : decode cX7_sureOf 110 = .ok (.iload_n 3, 1) := by decide +kernel
theorem dX7_sureOf_111 : decode cX7_sureOf 111 = .ok (.goto 4, 3) := by decide +kernel
theorem dX7_sureOf_114 : decode cX7_sureOf 114 = .ok (.iload_n 2, 1) := by decide +kernel
theorem dX7_sureOf_115 : decode cX7_sureOf 115 = .ok (.istore_n 2, 1) := by decide +kernel
theorem dX7_sureOf_116 : decode cX7_sureOf 116 = .ok (.iinc 3 (-1), 3) := by decide +kernel
theorem dX7_sureOf_119 : decode cX7_sureOf 119 = .ok (.goto (-115), 3) := by decide +kernel
theorem dX7_sureOf_122 : decode cX7_sureOf 122 = .ok (.iload_n 2, 1) := by decide +kernel
theorem dX7_sureOf_123 : decode cX7_sureOf 123 = .ok (.ireturn, 1) := by decide +kernel
theorem dX7_tell_0 : decode cX7_tell 0 = .ok (.iload_n 2, 1) := by decide +kernel
theorem dX7_tell_1 : decode cX7_tell 1 = .ok (.tableswitch 100 0 8 #[51, 51, 51, 62, 68, 75, 82, 88, 94], 51) := by decide +kernel
theorem dX7_tell_52 : decode cX7_tell 52 = .ok (.aload_n 0, 1) := by decide +kernel
theorem dX7_tell_53 : decode cX7_tell 53 = .ok (.getfield 22, 3) := by decide +kernel
theorem dX7_tell_56 : decode cX7_tell 56 = .ok (.iconst 3, 1) := by decide +kernel
theorem dX7_tell_57 : decode cX7_tell 57 = .ok (.iload_n 1, 1) := by decide +kernel
theorem dX7_tell_58 : decode cX7_tell 58 = .ok (.imul, 1) := by decide +kernel
theorem dX7_tell_59 : decode cX7_tell 59 = .ok (.iload_n 2, 1) := by decide +kernel
theorem dX7_tell_60 : decode cX7_tell 60 = .ok (.iadd, 1) := by decide +kernel
theorem dX7_tell_61 : decode cX7_tell 61 = .ok (.iaload, 1) := by decide +kernel
theorem dX7_tell_62 : decode cX7_tell 62 = .ok (.ireturn, 1) := by decide +kernel
theorem dX7_tell_63 : decode cX7_tell 63 = .ok (.aload_n 0, 1) := by decide +kernel
theorem dX7_tell_64 : decode cX7_tell 64 = .ok (.iload_n 1, 1) := by decide +kernel
theorem dX7_tell_65 : decode cX7_tell 65 = .ok (.invokevirtual 143, 3) := by decide +kernel
theorem dX7_tell_68 : decode cX7_tell 68 = .ok (.ireturn, 1) := by decide +kernel
theorem dX7_tell_69 : decode cX7_tell 69 = .ok (.aload_n 0, 1) := by decide +kernel
theorem dX7_tell_70 : decode cX7_tell 70 = .ok (.iconst 0, 1) := by decide +kernel
theorem dX7_tell_71 : decode cX7_tell 71 = .ok (.iload_n 1, 1) := by decide +kernel
theorem dX7_tell_72 : decode cX7_tell 72 = .ok (.invokevirtual 146, 3) := by decide +kernel
theorem dX7_tell_75 : decode cX7_tell 75 = .ok (.ireturn, 1) := by decide +kernel
theorem dX7_tell_76 : decode cX7_tell 76 = .ok (.aload_n 0, 1) := by decide +kernel
theorem dX7_tell_77 : decode cX7_tell 77 = .ok (.iconst 2, 1) := by decide +kernel
theorem dX7_tell_78 : decode cX7_tell 78 = .ok (.iload_n 1, 1) := by decide +kernel
theorem dX7_tell_79 : decode cX7_tell 79 = .ok (.invokevirtual 146, 3) := by decide +kernel
theorem dX7_tell_82 : decode cX7_tell 82 = .ok (.ireturn, 1) := by decide +kernel
theorem dX7_tell_83 : decode cX7_tell 83 = .ok (.aload_n 0, 1) := by decide +kernel
theorem dX7_tell_84 : decode cX7_tell 84 = .ok (.iload_n 1, 1) := by decide +kernel
theorem dX7_tell_85 : decode cX7_tell 85 = .ok (.invokevirtual 149, 3) := by decide +kernel
theorem dX7_tell_88 : decode cX7_tell 88 = .ok (.ireturn, 1) := by decide +kernel
theorem dX7_tell_89 : decode cX7_tell 89 = .ok (.aload_n 0, 1) := by decide +kernel
theorem dX7_tell_90 : decode cX7_tell 90 = .ok (.iload_n 1, 1) := by decide +kernel
theorem dX7_tell_91 : decode cX7_tell 91 = .ok (.invokevirtual 152, 3) := by decide +kernel
theorem dX7_tell_94 : decode cX7_tell 94 = .ok (.ireturn, 1) := by decide +kernel
theorem dX7_tell_95 : decode cX7_tell 95 = .ok (.aload_n 0, 1) := by decide +kernel
theorem dX7_tell_96 : decode cX7_tell 96 = .ok (.iload_n 1, 1) := by decide +kernel
theorem dX7_tell_97 : decode cX7_tell 97 = .ok (.invokevirtual 155, 3) := by decide +kernel
theorem dX7_tell_100 : decode cX7_tell 100 = .ok (.ireturn, 1) := by decide +kernel
theorem dX7_tell_101 : decode cX7_tell 101 = .ok (.bipush (-102), 2) := by decide +kernel
theorem dX7_tell_103 : decode cX7_tell 103 = .ok (.ireturn, 1) := by decide +kernel
theorem dX7_about_0 : decode cX7_about 0 = .ok (.aload_n 0, 1) := by decide +kernel
theorem dX7_about_1 : decode cX7_about 1 = .ok (.iload_n 1, 1) := by decide +kernel
theorem dX7_about_2 : decode cX7_about 2 = .ok (.invokevirtual 158, 3) := by decide +kernel
theorem dX7_about_5 : decode cX7_about 5 = .ok (.ifCond .eq 12, 3) := by decide +kernel
theorem dX7_about_8 : decode cX7_about 8 = .ok (.aload_n 0, 1) := by decide +kernel
theorem dX7_about_9 : decode cX7_about 9 = .ok (.iload_n 1, 1) := by decide +kernel
theorem dX7_about_10 : decode cX7_about 10 = .ok (.iload_n 2, 1) := by decide +kernel
theorem dX7_about_11 : decode cX7_about 11 = .ok (.invokevirtual 161, 3) := by decide +kernel
theorem dX7_about_14 : decode cX7_about 14 = .ok (.goto 5, 3) := by decide +kernel
theorem dX7_about_17 : decode cX7_about 17 = .ok (.bipush (-101), 2) := by decide +kernel
theorem dX7_about_19 : decode cX7_about 19 = .ok (.ireturn, 1) := by decide +kernel
theorem dX7_as_0 : decode cX7_as 0 = .ok (.aload_n 0, 1) := by decide +kernel
theorem dX7_as_1 : decode cX7_as 1 = .ok (.iload_n 1, 1) := by decide +kernel
theorem dX7_as_2 : decode cX7_as 2 = .ok (.invokevirtual 158, 3) := by decide +kernel
theorem dX7_as_5 : decode cX7_as 5 = .ok (.ifCond .ne 6, 3) := by decide +kernel
theorem dX7_as_8 : decode cX7_as 8 = .ok (.bipush (-101), 2) := by decide +kernel
theorem dX7_as_10 : decode cX7_as 10 = .ok (.ireturn, 1) := by decide +kernel
theorem dX7_as_11 : decode cX7_as 11 = .ok (.iload_n 2, 1) := by decide +kernel
theorem dX7_as_12 : decode cX7_as 12 = .ok (.i2l, 1) := by decide +kernel
theorem dX7_as_13 : decode cX7_as 13 = .ok (.lconst 0, 1) := by decide +kernel
theorem dX7_as_14 : decode cX7_as 14 = .ok (.ldc2_w 164, 3) := by decide +kernel
theorem dX7_as_17 : decode cX7_as 17 = .ok (.invokestatic 58, 3) := by decide +kernel
theorem dX7_as_20 : decode cX7_as 20 = .ok (.ifCond .ne 6, 3) := by decide +kernel
theorem dX7_as_23 : decode cX7_as 23 = .ok (.bipush (-102), 2) := by decide +kernel
theorem dX7_as_25 : decode cX7_as 25 = .ok (.ireturn, 1) := by decide +kernel
theorem dX7_as_26 : decode cX7_as 26 = .ok (.aload_n 0, 1) := by decide +kernel
theorem dX7_as_27 : decode cX7_as 27 = .ok (.getfield 22, 3) := by decide +kernel
theorem dX7_as_30 : decode cX7_as 30 = .ok (.iconst 3, 1) := by decide +kernel
theorem dX7_as_31 : decode cX7_as 31 = .ok (.iload_n 1, 1) := by decide +kernel
theorem dX7_as_32 : decode cX7_as 32 = .ok (.imul, 1) := by decide +kernel
theorem dX7_as_33 : decode cX7_as 33 = .ok (.iaload, 1) := by decide +kernel
theorem dX7_as_34 : decode cX7_as 34 = .ok (.istore_n 3, 1) := by decide +kernel
theorem dX7_as_35 : decode cX7_as 35 = .ok (.iload_n 2, 1) := by decide +kernel
theorem dX7_as_36 : decode cX7_as 36 = .ok (.ifCond .eq 18, 3) := by decide +kernel
theorem dX7_as_39 : decode cX7_as 39 = .ok (.iload_n 2, 1) := by decide +kernel
theorem dX7_as_40 : decode cX7_as 40 = .ok (.iload_n 3, 1) := by decide +kernel
theorem dX7_as_41 : decode cX7_as 41 = .ok (.if_icmp .eq 13, 3) := by decide +kernel
theorem dX7_as_44 : decode cX7_as 44 = .ok (.iload_n 2, 1) := by decide +kernel
theorem dX7_as_45 : decode cX7_as 45 = .ok (.iconst 3, 1) := by decide +kernel
theorem dX7_as_46 : decode cX7_as 46 = .ok (.if_icmp .ne 12, 3) := by decide +kernel
theorem dX7_as_49 : decode cX7_as 49 = .ok (.iload_n 3, 1) := by decide +kernel
theorem dX7_as_50 : decode cX7_as 50 = .ok (.iconst 4, 1) := by decide +kernel
theorem dX7_as_51 : decode cX7_as 51 = .ok (.if_icmp .ne 7, 3) := by decide +kernel
theorem dX7_as_54 : decode cX7_as 54 = .ok (.iconst 1, 1) := by decide +kernel
theorem dX7_as_55 : decode cX7_as 55 = .ok (.goto 4, 3) := by decide +kernel
theorem dX7_as_58 : decode cX7_as 58 = .ok (.iconst 0, 1) := by decide +kernel
theorem dX7_as_59 : decode cX7_as 59 = .ok (.istore 4, 2) := by decide +kernel
theorem dX7_as_61 : decode cX7_as 61 = .ok (.iload 4, 2) := by decide +kernel
theorem dX7_as_63 : decode cX7_as 63 = .ok (.ifCond .eq 7, 3) := by decide +kernel
theorem dX7_as_66 : decode cX7_as 66 = .ok (.iload_n 1, 1) := by decide +kernel
theorem dX7_as_67 : decode cX7_as 67 = .ok (.goto 4, 3) := by decide +kernel
theorem dX7_as_70 : decode cX7_as 70 = .ok (.iconst (-1), 1) := by decide +kernel
theorem dX7_as_71 : decode cX7_as 71 = .ok (.ireturn, 1) := by decide +kernel
theorem dX7_want_0 : decode cX7_want 0 = .ok (.aload_n 0, 1) := by decide +kernel
theorem dX7_want_1 : decode cX7_want 1 = .ok (.iload_n 1, 1) := by decide +kernel
theorem dX7_want_2 : decode cX7_want 2 = .ok (.invokevirtual 158, 3) := by decide +kernel
theorem dX7_want_5 : decode cX7_want 5 = .ok (.ifCond .ne 6, 3) := by decide +kernel
theorem dX7_want_8 : decode cX7_want 8 = .ok (.bipush (-101), 2) := by decide +kernel
theorem dX7_want_10 : decode cX7_want 10 = .ok (.ireturn, 1) := by decide +kernel
theorem dX7_want_11 : decode cX7_want 11 = .ok (.iload_n 2, 1) := by decide +kernel
theorem dX7_want_12 : decode cX7_want 12 = .ok (.i2l, 1) := by decide +kernel
theorem dX7_want_13 : decode cX7_want 13 = .ok (.lconst 0, 1) := by decide +kernel
theorem dX7_want_14 : decode cX7_want 14 = .ok (.ldc2_w 74, 3) := by decide +kernel
theorem dX7_want_17 : decode cX7_want 17 = .ok (.invokestatic 58, 3) := by decide +kernel
theorem dX7_want_20 : decode cX7_want 20 = .ok (.ifCond .ne 6, 3) := by decide +kernel
theorem dX7_want_23 : decode cX7_want 23 = .ok (.bipush (-102), 2) := by decide +kernel
theorem dX7_want_25 : decode cX7_want 25 = .ok (.ireturn, 1) := by decide +kernel
theorem dX7_want_26 : decode cX7_want 26 = .ok (.aload_n 0, 1) := by decide +kernel
theorem dX7_want_27 : decode cX7_want 27 = .ok (.getfield 22, 3) := by decide +kernel
theorem dX7_want_30 : decode cX7_want 30 = .ok (.iconst 3, 1) := by decide +kernel
theorem dX7_want_31 : decode cX7_want 31 = .ok (.iload_n 1, 1) := by decide +kernel
theorem dX7_want_32 : decode cX7_want 32 = .ok (.imul, 1) := by decide +kernel
theorem dX7_want_33 : decode cX7_want 33 = .ok (.iconst 1, 1) := by decide +kernel
theorem dX7_want_34 : decode cX7_want 34 = .ok (.iadd, 1) := by decide +kernel
theorem dX7_want_35 : decode cX7_want 35 = .ok (.iaload, 1) := by decide +kernel
theorem dX7_want_36 : decode cX7_want 36 = .ok (.istore_n 3, 1) := by decide +kernel
theorem dX7_want_37 : decode cX7_want 37 = .ok (.aload_n 0, 1) := by decide +kernel
theorem dX7_want_38 : decode cX7_want 38 = .ok (.getfield 22, 3) := by decide +kernel
theorem dX7_want_41 : decode cX7_want 41 = .ok (.iconst 3, 1) := by decide +kernel
theorem dX7_want_42 : decode cX7_want 42 = .ok (.iload_n 1, 1) := by decide +kernel
theorem dX7_want_43 : decode cX7_want 43 = .ok (.imul, 1) := by decide +kernel
theorem dX7_want_44 : decode cX7_want 44 = .ok (.iconst 1, 1) := by decide +kernel
theorem dX7_want_45 : decode cX7_want 45 = .ok (.iadd, 1) := by decide +kernel
theorem dX7_want_46 : decode cX7_want 46 = .ok (.iload_n 2, 1) := by decide +kernel
theorem dX7_want_47 : decode cX7_want 47 = .ok (.iastore, 1) := by decide +kernel
theorem dX7_want_48 : decode cX7_want 48 = .ok (.aload_n 0, 1) := by decide +kernel
theorem dX7_want_49 : decode cX7_want 49 = .ok (.dup, 1) := by decide +kernel
theorem dX7_want_50 : decode cX7_want 50 = .ok (.getfield 108, 3) := by decide +kernel
theorem dX7_want_53 : decode cX7_want 53 = .ok (.iconst 1, 1) := by decide +kernel
theorem dX7_want_54 : decode cX7_want 54 = .ok (.iadd, 1) := by decide +kernel
theorem dX7_want_55 : decode cX7_want 55 = .ok (.putfield 108, 3) := by decide +kernel
theorem dX7_want_58 : decode cX7_want 58 = .ok (.iload_n 3, 1) := by decide +kernel
theorem dX7_want_59 : decode cX7_want 59 = .ok (.ireturn, 1) := by decide +kernel
theorem dX7_would_0 : decode cX7_would 0 = .ok (.aload_n 0, 1) := by decide +kernel
theorem dX7_would_1 : decode cX7_would 1 = .ok (.iload_n 1, 1) := by decide +kernel
theorem dX7_would_2 : decode cX7_would 2 = .ok (.invokevirtual 158, 3) := by decide +kernel
theorem dX7_would_5 : decode cX7_would 5 = .ok (.ifCond .eq 20, 3) := by decide +kernel
theorem dX7_would_8 : decode cX7_would 8 = .ok (.aload_n 0, 1) := by decide +kernel
theorem dX7_would_9 : decode cX7_would 9 = .ok (.iload_n 2, 1) := by decide +kernel
theorem dX7_would_10 : decode cX7_would 10 = .ok (.invokevirtual 126, 3) := by decide +kernel
theorem dX7_would_13 : decode cX7_would 13 = .ok (.ifCond .eq 12, 3) := by decide +kernel
theorem dX7_would_16 : decode cX7_would 16 = .ok (.aload_n 0, 1) := by decide +kernel
theorem dX7_would_17 : decode cX7_would 17 = .ok (.iload_n 1, 1) := by decide +kernel
theorem dX7_would_18 : decode cX7_would 18 = .ok (.iload_n 2, 1) := by decide +kernel
theorem dX7_would_19 : decode cX7_would 19 = .ok (.invokevirtual 139, 3) := by decide +kernel
theorem dX7_would_22 : decode cX7_would 22 = .ok (.goto 5, 3) := by decide +kernel
theorem dX7_would_25 : decode cX7_would 25 = .ok (.bipush (-101), 2) := by decide +kernel
theorem dX7_would_27 : decode cX7_would 27 = .ok (.ireturn, 1) := by decide +kernel
theorem dX7_isSentence_0 : decode cX7_isSentence 0 = .ok (.iload_n 1, 1) := by decide +kernel
theorem dX7_isSentence_1 : decode cX7_isSentence 1 = .ok (.i2l, 1) := by decide +kernel
theorem dX7_isSentence_2 : decode cX7_isSentence 2 = .ok (.lconst 0, 1) := by decide +kernel
theorem dX7_isSentence_3 : decode cX7_isSentence 3 = .ok (.aload_n 0, 1) := by decide +kernel
theorem dX7_isSentence_4 : decode cX7_isSentence 4 = .ok (.getfield 111, 3) := by decide +kernel
theorem dX7_isSentence_7 : decode cX7_isSentence 7 = .ok (.iconst 1, 1) := by decide +kernel
theorem dX7_isSentence_8 : decode cX7_isSentence 8 = .ok (.isub, 1) := by decide +kernel
theorem dX7_isSentence_9 : decode cX7_isSentence 9 = .ok (.i2l, 1) := by decide +kernel
theorem dX7_isSentence_10 : decode cX7_isSentence 10 = .ok (.invokestatic 58, 3) := by decide +kernel
theorem dX7_isSentence_13 : decode cX7_isSentence 13 = .ok (.ireturn, 1) := by decide +kernel
theorem dX7_begin_0 : decode cX7_begin 0 = .ok (.aload_n 0, 1) := by decide +kernel
theorem dX7_begin_1 : decode cX7_begin 1 = .ok (.iload_n 1, 1) := by decide +kernel
theorem dX7_begin_2 : decode cX7_begin 2 = .ok (.invokevirtual 158, 3) := by decide +kernel
theorem dX7_begin_5 : decode cX7_begin 5 = .ok (.ifCond .eq 11, 3) := by decide +kernel
theorem dX7_begin_8 : decode cX7_begin 8 = .ok (.aload_n 0, 1) := by decide +kernel
theorem dX7_begin_9 : decode cX7_begin 9 = .ok (.iload_n 2, 1) := by decide +kernel
theorem dX7_begin_10 : decode cX7_begin 10 = .ok (.invokevirtual 126, 3) := by decide +kernel
theorem dX7_begin_13 : decode cX7_begin 13 = .ok (.ifCond .ne 6, 3) := by decide +kernel
theorem dX7_begin_16 : decode cX7_begin 16 = .ok (.bipush (-101), 2) := by decide +kernel
theorem dX7_begin_18 : decode cX7_begin 18 = .ok (.ireturn, 1) := by decide +kernel
theorem dX7_begin_19 : decode cX7_begin 19 = .ok (.aload_n 0, 1) := by decide +kernel
theorem dX7_begin_20 : decode cX7_begin 20 = .ok (.iload_n 1, 1) := by decide +kernel
theorem dX7_begin_21 : decode cX7_begin 21 = .ok (.invokevirtual 143, 3) := by decide +kernel
theorem dX7_begin_24 : decode cX7_begin 24 = .ok (.iconst (-1), 1) := by decide +kernel
theorem dX7_begin_25 : decode cX7_begin 25 = .ok (.if_icmp .eq 6, 3) := by decide +kernel
theorem dX7_begin_28 : decode cX7_begin 28 = .ok (.bipush (-103), 2) := by decide +kernel
theorem dX7_begin_30 : decode cX7_begin 30 = .ok (.ireturn, 1) := by decide +kernel
theorem dX7_begin_31 : decode cX7_begin 31 = .ok (.aload_n 0, 1) := by decide +kernel
theorem dX7_begin_32 : decode cX7_begin 32 = .ok (.getfield 111, 3) := by decide +kernel
theorem dX7_begin_35 : decode cX7_begin 35 = .ok (.bipush 8, 2) := by decide +kernel
theorem dX7_begin_37 : decode cX7_begin 37 = .ok (.if_icmp .ne 6, 3) := by decide +kernel
theorem dX7_begin_40 : decode cX7_begin 40 = .ok (.bipush (-104), 2) := by decide +kernel
theorem dX7_begin_42 : decode cX7_begin 42 = .ok (.ireturn, 1) := by decide +kernel
theorem dX7_begin_43 : decode cX7_begin 43 = .ok (.aload_n 0, 1) := by decide +kernel
theorem dX7_begin_44 : decode cX7_begin 44 = .ok (.getfield 25, 3) := by decide +kernel
theorem dX7_begin_47 : decode cX7_begin 47 = .ok (.iconst 4, 1) := by decide +kernel
theorem dX7_begin_48 : decode cX7_begin 48 = .ok (.aload_n 0, 1) := by decide +kernel
theorem dX7_begin_49 : decode cX7_begin 49 = .ok (.getfield 111, 3) := by decide +kernel
theorem dX7_begin_52 : decode cX7_begin 52 = .ok (.imul, 1) := by decide +kernel
theorem dX7_begin_53 : decode cX7_begin 53 = .ok (.iload_n 1, 1) := by decide +kernel
theorem dX7_begin_54 : decode cX7_begin 54 = .ok (.iastore, 1) := by decide +kernel
theorem dX7_begin_55 : decode cX7_begin 55 = .ok (.aload_n 0, 1) := by decide +kernel
theorem dX7_begin_56 : decode cX7_begin 56 = .ok (.getfield 25, 3) := by decide +kernel
theorem dX7_begin_59 : decode cX7_begin 59 = .ok (.iconst 4, 1) := by decide +kernel
theorem dX7_begin_60 : decode cX7_begin 60 = .ok (.aload_n 0, 1) := by decide +kernel
theorem dX7_begin_61 : decode cX7_begin 61 = .ok (.getfield 111, 3) := by decide +kernel
theorem dX7_begin_64 : decode cX7_begin 64 = .ok (.imul, 1) := by decide +kernel
theorem dX7_begin_65 : decode cX7_begin 65 = .ok (.iconst 1, 1) := by decide +kernel
theorem dX7_begin_66 : decode cX7_begin 66 = .ok (.iadd, 1) := by decide +kernel
theorem dX7_begin_67 : decode cX7_begin 67 = .ok (.iload_n 2, 1) := by decide +kernel
theorem dX7_begin_68 : decode cX7_begin 68 = .ok (.iastore, 1) := by decide +kernel
theorem dX7_begin_69 : decode cX7_begin 69 = .ok (.aload_n 0, 1) := by decide +kernel
theorem dX7_begin_70 : decode cX7_begin 70 = .ok (.getfield 25, 3) := by decide +kernel
theorem dX7_begin_73 : decode cX7_begin 73 = .ok (.iconst 4, 1) := by decide +kernel
theorem dX7_begin_74 : decode cX7_begin 74 = .ok (.aload_n 0, 1) := by decide +kernel
theorem dX7_begin_75 : decode cX7_begin 75 = .ok (.getfield 111, 3) := by decide +kernel
theorem dX7_begin_78 : decode cX7_begin 78 = .ok (.imul, 1) := by decide +kernel
theorem dX7_begin_79 : decode cX7_begin 79 = .ok (.iconst 2, 1) := by decide +kernel
theorem dX7_begin_80 : decode cX7_begin 80 = .ok (.iadd, 1) := by decide +kernel
theorem dX7_begin_81 : decode cX7_begin 81 = .ok (.iconst (-1), 1) := by decide +kernel
theorem dX7_begin_82 : decode cX7_begin 82 = .ok (.iastore, 1) := by decide +kernel
theorem dX7_begin_83 : decode cX7_begin 83 = .ok (.aload_n 0, 1) := by decide +kernel
theorem dX7_begin_84 : decode cX7_begin 84 = .ok (.getfield 25, 3) := by decide +kernel
theorem dX7_begin_87 : decode cX7_begin 87 = .ok (.iconst 4, 1) := by decide +kernel
theorem dX7_begin_88 : decode cX7_begin 88 = .ok (.aload_n 0, 1) := by decide +kernel
theorem dX7_begin_89 : decode cX7_begin 89 = .ok (.getfield 111, 3) := by decide +kernel
theorem dX7_begin_92 : decode cX7_begin 92 = .ok (.imul, 1) := by decide +kernel
theorem dX7_begin_93 : decode cX7_begin 93 = .ok (.iconst 3, 1) := by decide +kernel
theorem dX7_begin_94 : decode cX7_begin 94 = .ok (.iadd, 1) := by decide +kernel
theorem dX7_begin_95 : decode cX7_begin 95 = .ok (.iconst (-1), 1) := by decide +kernel
theorem dX7_begin_96 : decode cX7_begin 96 = .ok (.iastore, 1) := by decide +kernel
theorem dX7_begin_97 : decode cX7_begin 97 = .ok (.aload_n 0, 1) := by decide +kernel
theorem dX7_begin_98 : decode cX7_begin 98 = .ok (.dup, 1) := by decide +kernel
theorem dX7_begin_99 : decode cX7_begin 99 = .ok (.getfield 111, 3) := by decide +kernel
theorem dX7_begin_102 : decode cX7_begin 102 = .ok (.iconst 1, 1) := by decide +kernel
theorem dX7_begin_103 : decode cX7_begin 103 = .ok (.iadd, 1) := by decide +kernel
theorem dX7_begin_104 : decode cX7_begin 104 = .ok (.putfield 111, 3) := by decide +kernel
theorem dX7_begin_107 : decode cX7_begin 107 = .ok (.aload_n 0, 1) := by decide +kernel
theorem dX7_begin_108 : decode cX7_begin 108 = .ok (.getfield 111, 3) := by decide +kernel
theorem dX7_begin_111 : decode cX7_begin 111 = .ok (.iconst 1, 1) := by decide +kernel
theorem dX7_begin_112 : decode cX7_begin 112 = .ok (.isub, 1) := by decide +kernel
theorem dX7_begin_113 : decode cX7_begin 113 = .ok (.ireturn, 1) := by decide +kernel
theorem dX7_end_0 : decode cX7_end 0 = .ok (.aload_n 0, 1) := by decide +kernel
theorem dX7_end_1 : decode cX7_end 1 = .ok (.iload_n 1, 1) := by decide +kernel
theorem dX7_end_2 : decode cX7_end 2 = .ok (.invokevirtual 166, 3) := by decide +kernel
theorem dX7_end_5 : decode cX7_end 5 = .ok (.ifCond .eq 11, 3) := by decide +kernel
theorem dX7_end_8 : decode cX7_end 8 = .ok (.aload_n 0, 1) := by decide +kernel
theorem dX7_end_9 : decode cX7_end 9 = .ok (.iload_n 2, 1) := by decide +kernel
theorem dX7_end_10 : decode cX7_end 10 = .ok (.invokevirtual 158, 3) := by decide +kernel
theorem dX7_end_13 : decode cX7_end 13 = .ok (.ifCond .ne 6, 3) := by decide +kernel
theorem dX7_end_16 : decode cX7_end 16 = .ok (.bipush (-101), 2) := by decide +kernel
theorem dX7_end_18 : decode cX7_end 18 = .ok (.ireturn, 1) := by decide +kernel
theorem dX7_end_19 : decode cX7_end 19 = .ok (.aload_n 0, 1) := by decide +kernel
theorem dX7_end_20 : decode cX7_end 20 = .ok (.getfield 25, 3) := by decide +kernel
theorem dX7_end_23 : decode cX7_end 23 = .ok (.iconst 4, 1) := by decide +kernel
theorem dX7_end_24 : decode cX7_end 24 = .ok (.iload_n 1, 1) := by decide +kernel
theorem dX7_end_25 : decode cX7_end 25 = .ok (.imul, 1) := by decide +kernel
theorem dX7_end_26 : decode cX7_end 26 = .ok (.iconst 2, 1) := by decide +kernel
theorem dX7_end_27 : decode cX7_end 27 = .ok (.iadd, 1) := by decide +kernel
theorem dX7_end_28 : decode cX7_end 28 = .ok (.iaload, 1) := by decide +kernel
theorem dX7_end_29 : decode cX7_end 29 = .ok (.iconst (-1), 1) := by decide +kernel
theorem dX7_end_30 : decode cX7_end 30 = .ok (.if_icmp .ne 15, 3) := by decide +kernel
theorem dX7_end_33 : decode cX7_end 33 = .ok (.aload_n 0, 1) := by decide +kernel
theorem dX7_end_34 : decode cX7_end 34 = .ok (.getfield 25, 3) := by decide +kernel
theorem dX7_end_37 : decode cX7_end 37 = .ok (.iconst 4, 1) := by decide +kernel
theorem dX7_end_38 : decode cX7_end 38 = .ok (.iload_n 1, 1) := by decide +kernel
theorem dX7_end_39 : decode cX7_end 39 = .ok (.imul, 1) := by decide +kernel
theorem dX7_end_40 : decode cX7_end 40 = .ok (.iaload, 1) := by decide +kernel
theorem dX7_end_41 : decode cX7_end 41 = .ok (.iload_n 2, 1) := by decide +kernel
theorem dX7_end_42 : decode cX7_end 42 = .ok (.if_icmp .ne 6, 3) := by decide +kernel
theorem dX7_end_45 : decode cX7_end 45 = .ok (.bipush (-103), 2) := by decide +kernel
theorem dX7_end_47 : decode cX7_end 47 = .ok (.ireturn, 1) := by decide +kernel
theorem dX7_end_48 : decode cX7_end 48 = .ok (.aload_n 0, 1) := by decide +kernel
theorem dX7_end_49 : decode cX7_end 49 = .ok (.iload_n 2, 1) := by decide +kernel
theorem dX7_end_50 : decode cX7_end 50 = .ok (.aload_n 0, 1) := by decide +kernel
theorem dX7_end_51 : decode cX7_end 51 = .ok (.getfield 25, 3) := by decide +kernel
theorem dX7_end_54 : decode cX7_end 54 = .ok (.iconst 4, 1) := by decide +kernel
theorem dX7_end_55 : decode cX7_end 55 = .ok (.iload_n 1, 1) := by decide +kernel
theorem dX7_end_56 : decode cX7_end 56 = .ok (.imul, 1) := by decide +kernel
theorem dX7_end_57 : decode cX7_end 57 = .ok (.iconst 1, 1) := by decide +kernel
theorem dX7_end_58 : decode cX7_end 58 = .ok (.iadd, 1) := by decide +kernel
theorem dX7_end_59 : decode cX7_end 59 = .ok (.iaload, 1) := by decide +kernel
theorem dX7_end_60 : decode cX7_end 60 = .ok (.invokevirtual 139, 3) := by decide +kernel
theorem dX7_end_63 : decode cX7_end 63 = .ok (.istore_n 3, 1) := by decide +kernel
theorem dX7_end_64 : decode cX7_end 64 = .ok (.iload_n 3, 1) := by decide +kernel
theorem dX7_end_65 : decode cX7_end 65 = .ok (.iconst (-1), 1) := by decide +kernel
theorem dX7_end_66 : decode cX7_end 66 = .ok (.if_icmp .eq 41, 3) := by decide +kernel
theorem dX7_end_69 : decode cX7_end 69 = .ok (.aload_n 0, 1) := by decide +kernel
theorem dX7_end_70 : decode cX7_end 70 = .ok (.getfield 25, 3) := by decide +kernel
theorem dX7_end_73 : decode cX7_end 73 = .ok (.iconst 4, 1) := by decide +kernel
theorem dX7_end_74 : decode cX7_end 74 = .ok (.iload_n 1, 1) := by decide +kernel
theorem dX7_end_75 : decode cX7_end 75 = .ok (.imul, 1) := by decide +kernel
theorem dX7_end_76 : decode cX7_end 76 = .ok (.iconst 2, 1) := by decide +kernel
theorem dX7_end_77 : decode cX7_end 77 = .ok (.iadd, 1) := by decide +kernel
theorem dX7_end_78 : decode cX7_end 78 = .ok (.iload_n 2, 1) := by decide +kernel
theorem dX7_end_79 : decode cX7_end 79 = .ok (.iastore, 1) := by decide +kernel
theorem dX7_end_80 : decode cX7_end 80 = .ok (.aload_n 0, 1) := by decide +kernel
theorem dX7_end_81 : decode cX7_end 81 = .ok (.getfield 25, 3) := by decide +kernel
theorem dX7_end_84 : decode cX7_end 84 = .ok (.iconst 4, 1) := by decide +kernel
theorem dX7_end_85 : decode cX7_end 85 = .ok (.iload_n 1, 1) := by decide +kernel
theorem dX7_end_86 : decode cX7_end 86 = .ok (.imul, 1) := by decide +kernel
theorem dX7_end_87 : decode cX7_end 87 = .ok (.iconst 3, 1) := by decide +kernel
theorem dX7_end_88 : decode cX7_end 88 = .ok (.iadd, 1) := by decide +kernel
theorem dX7_end_89 : decode cX7_end 89 = .ok (.iload_n 3, 1) := by decide +kernel
theorem dX7_end_90 : decode cX7_end 90 = .ok (.iastore, 1) := by decide +kernel
theorem dX7_end_91 : decode cX7_end 91 = .ok (.aload_n 0, 1) := by decide +kernel
theorem dX7_end_92 : decode cX7_end 92 = .ok (.getfield 22, 3) := by decide +kernel
theorem dX7_end_95 : decode cX7_end 95 = .ok (.iconst 3, 1) := by decide +kernel
theorem dX7_end_96 : decode cX7_end 96 = .ok (.iload_n 2, 1) := by decide +kernel
theorem dX7_end_97 : decode cX7_end 97 = .ok (.imul, 1) := by decide +kernel
theorem dX7_end_98 : decode cX7_end 98 = .ok (.iconst 2, 1) := by decide +kernel
theorem dX7_end_99 : decode cX7_end 99 = .ok (.iadd, 1) := by decide +kernel
theorem dX7_end_100 : decode cX7_end 100 = .ok (.dup2, 1) := by decide +kernel
theorem dX7_end_101 : decode cX7_end 101 = .ok (.iaload, 1) := by decide +kernel
theorem dX7_end_102 : decode cX7_end 102 = .ok (.iconst 1, 1) := by decide +kernel
theorem dX7_end_103 : decode cX7_end 103 = .ok (.iload_n 3, 1) := by decide +kernel
theorem dX7_end_104 : decode cX7_end 104 = .ok (.ishl, 1) := by decide +kernel
theorem dX7_end_105 : decode cX7_end 105 = .ok (.ior, 1) := by decide +kernel
theorem dX7_end_106 : decode cX7_end 106 = .ok (.iastore, 1) := by decide +kernel
theorem dX7_end_107 : decode cX7_end 107 = .ok (.iload_n 3, 1) := by decide +kernel
theorem dX7_end_108 : decode cX7_end 108 = .ok (.ireturn, 1) := by decide +kernel
theorem dX7_isWanted_0 : decode cX7_isWanted 0 = .ok (.aload_n 0, 1) := by decide +kernel
theorem dX7_isWanted_1 : decode cX7_isWanted 1 = .ok (.getfield 25, 3) := by decide +kernel
theorem dX7_isWanted_4 : decode cX7_isWanted 4 = .ok (.iconst 4, 1) := by decide +kernel
theorem dX7_isWanted_5 : decode cX7_isWanted 5 = .ok (.iload_n 1, 1) := by decide +kernel
theorem dX7_isWanted_6 : decode cX7_isWanted 6 = .ok (.imul, 1) := by decide +kernel
theorem dX7_isWanted_7 : decode cX7_isWanted 7 = .ok (.iconst 2, 1) := by decide +kernel
theorem dX7_isWanted_8 : decode cX7_isWanted 8 = .ok (.iadd, 1) := by decide +kernel
theorem dX7_isWanted_9 : decode cX7_isWanted 9 = .ok (.iaload, 1) := by decide +kernel
theorem dX7_isWanted_10 : decode cX7_isWanted 10 = .ok (.iconst (-1), 1) := by decide +kernel
theorem dX7_isWanted_11 : decode cX7_isWanted 11 = .ok (.if_icmp .eq 37, 3) := by decide +kernel
theorem dX7_isWanted_14 : decode cX7_isWanted 14 = .ok (.aload_n 0, 1) := by decide +kernel
theorem dX7_isWanted_15 : decode cX7_isWanted 15 = .ok (.getfield 25, 3) := by decide +kernel
theorem dX7_isWanted_18 : decode cX7_isWanted 18 = .ok (.iconst 4, 1) := by decide +kernel
theorem dX7_isWanted_19 : decode cX7_isWanted 19 = .ok (.iload_n 1, 1) := by decide +kernel
theorem dX7_isWanted_20 : decode cX7_isWanted 20 = .ok (.imul, 1) := by decide +kernel
theorem dX7_isWanted_21 : decode cX7_isWanted 21 = .ok (.iconst 3, 1) := by decide +kernel
theorem dX7_isWanted_22 : decode cX7_isWanted 22 = .ok (.iadd, 1) := by decide +kernel
theorem dX7_isWanted_23 : decode cX7_isWanted 23 = .ok (.iaload, 1) := by decide +kernel
theorem dX7_isWanted_24 : decode cX7_isWanted 24 = .ok (.aload_n 0, 1) := by decide +kernel
theorem dX7_isWanted_25 : decode cX7_isWanted 25 = .ok (.getfield 22, 3) := by decide +kernel
theorem dX7_isWanted_28 : decode cX7_isWanted 28 = .ok (.iconst 3, 1) := by decide +kernel
theorem dX7_isWanted_29 : decode cX7_isWanted 29 = .ok (.aload_n 0, 1) := by decide +kernel
theorem dX7_isWanted_30 : decode cX7_isWanted 30 = .ok (.getfield 25, 3) := by decide +kernel
theorem dX7_isWanted_33 : decode cX7_isWanted 33 = .ok (.iconst 4, 1) := by decide +kernel
theorem dX7_isWanted_34 : decode cX7_isWanted 34 = .ok (.iload_n 1, 1) := by decide +kernel
theorem dX7_isWanted_35 : decode cX7_isWanted 35 = .ok (.imul, 1) := by decide +kernel
theorem dX7_isWanted_36 : decode cX7_isWanted 36 = .ok (.iaload, 1) := by decide +kernel
theorem dX7_isWanted_37 : decode cX7_isWanted 37 = .ok (.imul, 1) := by decide +kernel
theorem dX7_isWanted_38 : decode cX7_isWanted 38 = .ok (.iconst 1, 1) := by decide +kernel
theorem dX7_isWanted_39 : decode cX7_isWanted 39 = .ok (.iadd, 1) := by decide +kernel
theorem dX7_isWanted_40 : decode cX7_isWanted 40 = .ok (.iaload, 1) := by decide +kernel
theorem dX7_isWanted_41 : decode cX7_isWanted 41 = .ok (.if_icmp .ne 7, 3) := by decide +kernel
theorem dX7_isWanted_44 : decode cX7_isWanted 44 = .ok (.iconst 1, 1) := by decide +kernel
theorem dX7_isWanted_45 : decode cX7_isWanted 45 = .ok (.goto 4, 3) := by decide +kernel
theorem dX7_isWanted_48 : decode cX7_isWanted 48 = .ok (.iconst 0, 1) := by decide +kernel
theorem dX7_isWanted_49 : decode cX7_isWanted 49 = .ok (.ireturn, 1) := by decide +kernel
theorem dX7_tellSentence_0 : decode cX7_tellSentence 0 = .ok (.iload_n 2, 1) := by decide +kernel
theorem dX7_tellSentence_1 : decode cX7_tellSentence 1 = .ok (.i2l, 1) := by decide +kernel
theorem dX7_tellSentence_2 : decode cX7_tellSentence 2 = .ok (.lconst 0, 1) := by decide +kernel
theorem dX7_tellSentence_3 : decode cX7_tellSentence 3 = .ok (.ldc2_w 124, 3) := by decide +kernel
theorem dX7_tellSentence_6 : decode cX7_tellSentence 6 = .ok (.invokestatic 58, 3) := by decide +kernel
theorem dX7_tellSentence_9 : decode cX7_tellSentence 9 = .ok (.ifCond .eq 16, 3) := by decide +kernel
theorem dX7_tellSentence_12 : decode cX7_tellSentence 12 = .ok (.aload_n 0, 1) := by decide +kernel
theorem dX7_tellSentence_13 : decode cX7_tellSentence 13 = .ok (.getfield 25, 3) := by decide +kernel
theorem dX7_tellSentence_16 : decode cX7_tellSentence 16 = .ok (.iconst 4, 1) := by decide +kernel
theorem dX7_tellSentence_17 : decode cX7_tellSentence 17 = .ok (.iload_n 1, 1) := by decide +kernel
theorem dX7_tellSentence_18 : decode cX7_tellSentence 18 = .ok (.imul, 1) := by decide +kernel
theorem dX7_tellSentence_19 : decode cX7_tellSentence 19 = .ok (.iload_n 2, 1) := by decide +kernel
theorem dX7_tellSentence_20 : decode cX7_tellSentence 20 = .ok (.iadd, 1) := by decide +kernel
theorem dX7_tellSentence_21 : decode cX7_tellSentence 21 = .ok (.iaload, 1) := by decide +kernel
theorem dX7_tellSentence_22 : decode cX7_tellSentence 22 = .ok (.goto 26, 3) := by decide +kernel
theorem dX7_tellSentence_25 : decode cX7_tellSentence 25 = .ok (.iload_n 2, 1) := by decide +kernel
theorem dX7_tellSentence_26 : decode cX7_tellSentence 26 = .ok (.iconst 4, 1) := by decide +kernel
theorem dX7_tellSentence_27 : decode cX7_tellSentence 27 = .ok (.if_icmp .ne 19, 3) := by decide +kernel
theorem dX7_tellSentence_30 : decode cX7_tellSentence 30 = .ok (.aload_n 0, 1) := by decide +kernel
theorem dX7_tellSentence_31 : decode cX7_tellSentence 31 = .ok (.iload_n 1, 1) := by decide +kernel
theorem dX7_tellSentence_32 : decode cX7_tellSentence 32 = .ok (.invokevirtual 169, 3) := by decide +kernel
theorem dX7_tellSentence_35 : decode cX7_tellSentence 35 = .ok (.ifCond .eq 7, 3) := by decide +kernel
theorem dX7_tellSentence_38 : decode cX7_tellSentence 38 = .ok (.iconst 1, 1) := by decide +kernel
theorem dX7_tellSentence_39 : decode cX7_tellSentence 39 = .ok (.goto 9, 3) := by decide +kernel
theorem dX7_tellSentence_42 : decode cX7_tellSentence 42 = .ok (.iconst 0, 1) := by decide +kernel
theorem dX7_tellSentence_43 : decode cX7_tellSentence 43 = .ok (.goto 5, 3) := by decide +kernel
theorem dX7_tellSentence_46 : decode cX7_tellSentence 46 = .ok (.bipush (-102), 2) := by decide +kernel
theorem dX7_tellSentence_48 : decode cX7_tellSentence 48 = .ok (.ireturn, 1) := by decide +kernel
theorem dX7_sentence_0 : decode cX7_sentence 0 = .ok (.aload_n 0, 1) := by decide +kernel
theorem dX7_sentence_1 : decode cX7_sentence 1 = .ok (.iload_n 1, 1) := by decide +kernel
theorem dX7_sentence_2 : decode cX7_sentence 2 = .ok (.invokevirtual 166, 3) := by decide +kernel
theorem dX7_sentence_5 : decode cX7_sentence 5 = .ok (.ifCond .eq 12, 3) := by decide +kernel
theorem dX7_sentence_8 : decode cX7_sentence 8 = .ok (.aload_n 0, 1) := by decide +kernel
theorem dX7_sentence_9 : decode cX7_sentence 9 = .ok (.iload_n 1, 1) := by decide +kernel
theorem dX7_sentence_10 : decode cX7_sentence 10 = .ok (.iload_n 2, 1) := by decide +kernel
theorem dX7_sentence_11 : decode cX7_sentence 11 = .ok (.invokevirtual 172, 3) := by decide +kernel
theorem dX7_sentence_14 : decode cX7_sentence 14 = .ok (.goto 5, 3) := by decide +kernel
theorem dX7_sentence_17 : decode cX7_sentence 17 = .ok (.bipush (-101), 2) := by decide +kernel
theorem dX7_sentence_19 : decode cX7_sentence 19 = .ok (.ireturn, 1) := by decide +kernel
theorem dX7_endsAsWanted_0 : decode cX7_endsAsWanted 0 = .ok (.aload_n 0, 1) := by decide +kernel
theorem dX7_endsAsWanted_1 : decode cX7_endsAsWanted 1 = .ok (.getfield 25, 3) := by decide +kernel
theorem dX7_endsAsWanted_4 : decode cX7_endsAsWanted 4 = .ok (.iconst 4, 1) := by decide +kernel
theorem dX7_endsAsWanted_5 : decode cX7_endsAsWanted 5 = .ok (.iload_n 2, 1) := by decide +kernel
theorem dX7_endsAsWanted_6 : decode cX7_endsAsWanted 6 = .ok (.imul, 1) := by decide +kernel
theorem dX7_endsAsWanted_7 : decode cX7_endsAsWanted 7 = .ok (.iaload, 1) := by decide +kernel
theorem dX7_endsAsWanted_8 : decode cX7_endsAsWanted 8 = .ok (.istore_n 3, 1) := by decide +kernel
theorem dX7_endsAsWanted_9 : decode cX7_endsAsWanted 9 = .ok (.aload_n 0, 1) := by decide +kernel
theorem dX7_endsAsWanted_10 : decode cX7_endsAsWanted 10 = .ok (.getfield 25, 3) := by decide +kernel
theorem dX7_endsAsWanted_13 : decode cX7_endsAsWanted 13 = .ok (.iconst 4, 1) := by decide +kernel
theorem dX7_endsAsWanted_14 : decode cX7_endsAsWanted 14 = .ok (.iload_n 2, 1) := by decide +kernel
theorem dX7_endsAsWanted_15 : decode cX7_endsAsWanted 15 = .ok (.imul, 1) := by decide +kernel
theorem dX7_endsAsWanted_16 : decode cX7_endsAsWanted 16 = .ok (.iconst 2, 1) := by decide +kernel
theorem dX7_endsAsWanted_17 : decode cX7_endsAsWanted 17 = .ok (.iadd, 1) := by decide +kernel
theorem dX7_endsAsWanted_18 : decode cX7_endsAsWanted 18 = .ok (.iaload, 1) := by decide +kernel
theorem dX7_endsAsWanted_19 : decode cX7_endsAsWanted 19 = .ok (.iconst (-1), 1) := by decide +kernel
theorem dX7_endsAsWanted_20 : decode cX7_endsAsWanted 20 = .ok (.if_icmp .ne 40, 3) := by decide +kernel
theorem dX7_endsAsWanted_23 : decode cX7_endsAsWanted 23 = .ok (.iload_n 3, 1) := by decide +kernel
theorem dX7_endsAsWanted_24 : decode cX7_endsAsWanted 24 = .ok (.iload_n 1, 1) := by decide +kernel
theorem dX7_endsAsWanted_25 : decode cX7_endsAsWanted 25 = .ok (.if_icmp .eq 35, 3) := by decide +kernel
theorem dX7_endsAsWanted_28 : decode cX7_endsAsWanted 28 = .ok (.aload_n 0, 1) := by decide +kernel
theorem dX7_endsAsWanted_29 : decode cX7_endsAsWanted 29 = .ok (.iload_n 1, 1) := by decide +kernel
theorem dX7_endsAsWanted_30 : decode cX7_endsAsWanted 30 = .ok (.aload_n 0, 1) := by decide +kernel
theorem dX7_endsAsWanted_31 : decode cX7_endsAsWanted 31 = .ok (.getfield 25, 3) := by decide +kernel
theorem dX7_endsAsWanted_34 : decode cX7_endsAsWanted 34 = .ok (.iconst 4, 1) := by decide +kernel
theorem dX7_endsAsWanted_35 : decode cX7_endsAsWanted 35 = .ok (.iload_n 2, 1) := by decide +kernel
theorem dX7_endsAsWanted_36 : decode cX7_endsAsWanted 36 = .ok (.imul, 1) := by decide +kernel
theorem dX7_endsAsWanted_37 : decode cX7_endsAsWanted 37 = .ok (.iconst 1, 1) := by decide +kernel
theorem dX7_endsAsWanted_38 : decode cX7_endsAsWanted 38 = .ok (.iadd, 1) := by decide +kernel
theorem dX7_endsAsWanted_39 : decode cX7_endsAsWanted 39 = .ok (.iaload, 1) := by decide +kernel
theorem dX7_endsAsWanted_40 : decode cX7_endsAsWanted 40 = .ok (.invokevirtual 139, 3) := by decide +kernel
theorem dX7_endsAsWanted_43 : decode cX7_endsAsWanted 43 = .ok (.aload_n 0, 1) := by decide +kernel
theorem dX7_endsAsWanted_44 : decode cX7_endsAsWanted 44 = .ok (.getfield 22, 3) := by decide +kernel
theorem dX7_endsAsWanted_47 : decode cX7_endsAsWanted 47 = .ok (.iconst 3, 1) := by decide +kernel
theorem dX7_endsAsWanted_48 : decode cX7_endsAsWanted 48 = .ok (.iload_n 3, 1) := by decide +kernel
theorem dX7_endsAsWanted_49 : decode cX7_endsAsWanted 49 = .ok (.imul, 1) := by decide +kernel
theorem dX7_endsAsWanted_50 : decode cX7_endsAsWanted 50 = .ok (.iconst 1, 1) := by decide +kernel
theorem dX7_endsAsWanted_51 : decode cX7_endsAsWanted 51 = .ok (.iadd, 1) := by decide +kernel
theorem dX7_endsAsWanted_52 : decode cX7_endsAsWanted 52 = .ok (.iaload, 1) := by decide +kernel
theorem dX7_endsAsWanted_53 : decode cX7_endsAsWanted 53 = .ok (.if_icmp .ne 7, 3) := by decide +kernel
theorem dX7_endsAsWanted_56 : decode cX7_endsAsWanted 56 = .ok (.iconst 1, 1) := by decide +kernel
theorem dX7_endsAsWanted_57 : decode cX7_endsAsWanted 57 = .ok (.goto 4, 3) := by decide +kernel
theorem dX7_endsAsWanted_60 : decode cX7_endsAsWanted 60 = .ok (.iconst 0, 1) := by decide +kernel
theorem dX7_endsAsWanted_61 : decode cX7_endsAsWanted 61 = .ok (.ireturn, 1) := by decide +kernel
theorem dX7_layRow_0 : decode cX7_layRow 0 = .ok (.iload_n 1, 1) := by decide +kernel
theorem dX7_layRow_1 : decode cX7_layRow 1 = .ok (.istore_n 2, 1) := by decide +kernel
theorem dX7_layRow_2 : decode cX7_layRow 2 = .ok (.iconst 0, 1) := by decide +kernel
theorem dX7_layRow_3 : decode cX7_layRow 3 = .ok (.istore_n 3, 1) := by decide +kernel
theorem dX7_layRow_4 : decode cX7_layRow 4 = .ok (.iconst 1, 1) := by decide +kernel
theorem dX7_layRow_5 : decode cX7_layRow 5 = .ok (.istore 4, 2) := by decide +kernel
theorem dX7_layRow_7 : decode cX7_layRow 7 = .ok (.aload_n 0, 1) := by decide +kernel
theorem dX7_layRow_8 : decode cX7_layRow 8 = .ok (.getfield 101, 3) := by decide +kernel
theorem dX7_layRow_11 : decode cX7_layRow 11 = .ok (.iconst 1, 1) := by decide +kernel
theorem dX7_layRow_12 : decode cX7_layRow 12 = .ok (.isub, 1) := by decide +kernel
theorem dX7_layRow_13 : decode cX7_layRow 13 = .ok (.istore 5, 2) := by decide +kernel
theorem dX7_layRow_15 : decode cX7_layRow 15 = .ok (.iload 5, 2) := by decide +kernel
theorem dX7_layRow_17 : decode cX7_layRow 17 = .ok (.ifCond .lt 100, 3) := by decide +kernel
theorem dX7_layRow_20 : decode cX7_layRow 20 = .ok (.aload_n 0, 1) := by decide +kernel
theorem dX7_layRow_21 : decode cX7_layRow 21 = .ok (.getfield 28, 3) := by decide +kernel
theorem dX7_layRow_24 : decode cX7_layRow 24 = .ok (.iload 5, 2) := by decide +kernel
theorem dX7_layRow_26 : decode cX7_layRow 26 = .ok (.iload_n 2, 1) := by decide +kernel
theorem dX7_layRow_27 : decode cX7_layRow 27 = .ok (.aload_n 0, 1) := by decide +kernel
theorem dX7_layRow_28 : decode cX7_layRow 28 = .ok (.getfield 111, 3) := by decide +kernel
theorem dX7_layRow_31 : decode cX7_layRow 31 = .ok (.iconst 1, 1) := by decide +kernel
theorem dX7_layRow_32 : decode cX7_layRow 32 = .ok (.iadd, 1) := by decide +kernel
theorem dX7_layRow_33 : decode cX7_layRow 33 = .ok (.irem, 1) := by decide +kernel
theorem dX7_layRow_34 : decode cX7_layRow 34 = .ok (.iconst 1, 1) := by decide +kernel
theorem dX7_layRow_35 : decode cX7_layRow 35 = .ok (.isub, 1) := by decide +kernel
theorem dX7_layRow_36 : decode cX7_layRow 36 = .ok (.iastore, 1) := by decide +kernel
theorem dX7_layRow_37 : decode cX7_layRow 37 = .ok (.iload_n 2, 1) := by decide +kernel
theorem dX7_layRow_38 : decode cX7_layRow 38 = .ok (.aload_n 0, 1) := by decide +kernel
theorem dX7_layRow_39 : decode cX7_layRow 39 = .ok (.getfield 111, 3) := by decide +kernel
theorem dX7_layRow_42 : decode cX7_layRow 42 = .ok (.iconst 1, 1) := by decide +kernel
theorem dX7_layRow_43 : decode cX7_layRow 43 = .ok (.iadd, 1) := by decide +kernel
theorem dX7_layRow_44 : decode cX7_layRow 44 = .ok (.idiv, 1) := by decide +kernel
theorem dX7_layRow_45 : decode cX7_layRow 45 = .ok (.istore_n 2, 1) := by decide +kernel
theorem dX7_layRow_46 : decode cX7_layRow 46 = .ok (.aload_n 0, 1) := by decide +kernel
theorem dX7_layRow_47 : decode cX7_layRow 47 = .ok (.getfield 28, 3) := by decide +kernel
theorem dX7_layRow_50 : decode cX7_layRow 50 = .ok (.iload 5, 2) := by decide +kernel
theorem dX7_layRow_52 : decode cX7_layRow 52 = .ok (.iaload, 1) := by decide +kernel
theorem dX7_layRow_53 : decode cX7_layRow 53 = .ok (.iconst (-1), 1) := by decide +kernel
theorem dX7_layRow_54 : decode cX7_layRow 54 = .ok (.if_icmp .eq 57, 3) := by decide +kernel
theorem dX7_layRow_57 : decode cX7_layRow 57 = .ok (.iload 4, 2) := by decide +kernel
theorem dX7_layRow_59 : decode cX7_layRow 59 = .ok (.ifCond .eq 37, 3) := by decide +kernel
theorem dX7_layRow_62 : decode cX7_layRow 62 = .ok (.iload_n 3, 1) := by decide +kernel
theorem dX7_layRow_63 : decode cX7_layRow 63 = .ok (.aload_n 0, 1) := by decide +kernel
theorem dX7_layRow_64 : decode cX7_layRow 64 = .ok (.getfield 28, 3) := by decide +kernel
theorem dX7_layRow_67 : decode cX7_layRow 67 = .ok (.iload 5, 2) := by decide +kernel
theorem dX7_layRow_69 : decode cX7_layRow 69 = .ok (.iaload, 1) := by decide +kernel
theorem dX7_layRow_70 : decode cX7_layRow 70 = .ok (.ishr, 1) := by decide +kernel
theorem dX7_layRow_71 : decode cX7_layRow 71 = .ok (.iconst 1, 1) := by decide +kernel
theorem dX7_layRow_72 : decode cX7_layRow 72 = .ok (.iand, 1) := by decide +kernel
theorem dX7_layRow_73 : decode cX7_layRow 73 = .ok (.ifCond .ne 23, 3) := by decide +kernel
theorem dX7_layRow_76 : decode cX7_layRow 76 = .ok (.aload_n 0, 1) := by decide +kernel
theorem dX7_layRow_77 : decode cX7_layRow 77 = .ok (.iload 5, 2) := by decide +kernel
theorem dX7_layRow_79 : decode cX7_layRow 79 = .ok (.aload_n 0, 1) := by decide +kernel
theorem dX7_layRow_80 : decode cX7_layRow 80 = .ok (.getfield 28, 3) := by decide +kernel
theorem dX7_layRow_83 : decode cX7_layRow 83 = .ok (.iload 5, 2) := by decide +kernel
theorem dX7_layRow_85 : decode cX7_layRow 85 = .ok (.iaload, 1) := by decide +kernel
theorem dX7_layRow_86 : decode cX7_layRow 86 = .ok (.invokevirtual 175, 3) := by decide +kernel
theorem dX7_layRow_89 : decode cX7_layRow 89 = .ok (.ifCond .eq 7, 3) := by decide +kernel
theorem dX7_layRow_92 : decode cX7_layRow 92 = .ok (.iconst 1, 1) := by decide +kernel
theorem dX7_layRow_93 : decode cX7_layRow 93 = .ok (.goto 4, 3) := by decide +kernel
theorem dX7_layRow_96 : decode cX7_layRow 96 = .ok (.iconst 0, 1) := by decide +kernel
theorem dX7_layRow_97 : decode cX7_layRow 97 = .ok (.istore 4, 2) := by decide +kernel
theorem dX7_layRow_99 : decode cX7_layRow 99 = .ok (.iload_n 3, 1) := by decide +kernel
theorem dX7_layRow_100 : decode cX7_layRow 100 = .ok (.iconst 1, 1) := by decide +kernel
theorem dX7_layRow_101 : decode cX7_layRow 101 = .ok (.aload_n 0, 1) := by decide +kernel
theorem dX7_layRow_102 : decode cX7_layRow 102 = .ok (.getfield 28, 3) := by decide +kernel
theorem dX7_layRow_105 : decode cX7_layRow 105 = .ok (.iload 5, 2) := by decide +kernel
theorem dX7_layRow_107 : decode cX7_layRow 107 = .ok (.iaload, 1) := by decide +kernel
theorem dX7_layRow_108 : decode cX7_layRow 108 = .ok (.ishl, 1) := by decide +kernel
theorem dX7_layRow_109 : decode cX7_layRow 109 = .ok (.ior, 1) := by decide +kernel
theorem dX7_layRow_110 : decode cX7_layRow 110 = .ok (.istore_n 3, 1) := by decide +kernel
theorem dX7_layRow_111 : decode cX7_layRow 111 = .ok (.iinc 5 (-1), 3) := by decide +kernel
theorem dX7_layRow_114 : decode cX7_layRow 114 = .ok (.goto (-99), 3) := by decide +kernel
theorem dX7_layRow_117 : decode cX7_layRow 117 = .ok (.iload 4, 2) := by decide +kernel
theorem dX7_layRow_119 : decode cX7_layRow 119 = .ok (.ireturn, 1) := by decide +kernel
theorem dX7_matchOf_0 : decode cX7_matchOf 0 = .ok (.iconst 1, 1) := by decide +kernel
theorem dX7_matchOf_1 : decode cX7_matchOf 1 = .ok (.istore_n 2, 1) := by decide +kernel
theorem dX7_matchOf_2 : decode cX7_matchOf 2 = .ok (.iconst 0, 1) := by decide +kernel
theorem dX7_matchOf_3 : decode cX7_matchOf 3 = .ok (.istore_n 3, 1) := by decide +kernel
theorem dX7_matchOf_4 : decode cX7_matchOf 4 = .ok (.iload_n 3, 1) := by decide +kernel
theorem dX7_matchOf_5 : decode cX7_matchOf 5 = .ok (.aload_n 0, 1) := by decide +kernel
theorem dX7_matchOf_6 : decode cX7_matchOf 6 = .ok (.getfield 101, 3) := by decide +kernel
theorem dX7_matchOf_9 : decode cX7_matchOf 9 = .ok (.if_icmp .ge 18, 3) := by decide +kernel
theorem dX7_matchOf_12 : decode cX7_matchOf 12 = .ok (.iload_n 2, 1) := by decide +kernel
theorem dX7_matchOf_13 : decode cX7_matchOf 13 = .ok (.aload_n 0, 1) := by decide +kernel
theorem dX7_matchOf_14 : decode cX7_matchOf 14 = .ok (.getfield 111, 3) := by decide +kernel
theorem dX7_matchOf_17 : decode cX7_matchOf 17 = .ok (.iconst 1, 1) := by decide +kernel
theorem dX7_matchOf_18 : decode cX7_matchOf 18 = .ok (.iadd, 1) := by decide +kernel
theorem dX7_matchOf_19 : decode cX7_matchOf 19 = .ok (.imul, 1) := by decide +kernel
theorem dX7_matchOf_20 : decode cX7_matchOf 20 = .ok (.istore_n 2, 1) := by decide +kernel
theorem dX7_matchOf_21 : decode cX7_matchOf 21 = .ok (.iinc 3 1, 3) := by decide +kernel
theorem dX7_matchOf_24 : decode cX7_matchOf 24 = .ok (.goto (-20), 3) := by decide +kernel
theorem dX7_matchOf_27 : decode cX7_matchOf 27 = .ok (.iconst (-1), 1) := by decide +kernel
theorem dX7_matchOf_28 : decode cX7_matchOf 28 = .ok (.istore_n 3, 1) := by decide +kernel
theorem dX7_matchOf_29 : decode cX7_matchOf 29 = .ok (.iconst 0, 1) := by decide +kernel
theorem dX7_matchOf_30 : decode cX7_matchOf 30 = .ok (.istore 4, 2) := by decide +kernel
theorem dX7_matchOf_32 : decode cX7_matchOf 32 = .ok (.iload 4, 2) := by decide +kernel
theorem dX7_matchOf_34 : decode cX7_matchOf 34 = .ok (.iload_n 2, 1) := by decide +kernel
theorem dX7_matchOf_35 : decode cX7_matchOf 35 = .ok (.if_icmp .ge 80, 3) := by decide +kernel
theorem dX7_matchOf_38 : decode cX7_matchOf 38 = .ok (.aload_n 0, 1) := by decide +kernel
theorem dX7_matchOf_39 : decode cX7_matchOf 39 = .ok (.iload 4, 2) := by decide +kernel
theorem dX7_matchOf_41 : decode cX7_matchOf 41 = .ok (.invokevirtual 179, 3) := by decide +kernel
theorem dX7_matchOf_44 : decode cX7_matchOf 44 = .ok (.ifCond .eq 65, 3) := by decide +kernel
theorem dX7_matchOf_47 : decode cX7_matchOf 47 = .ok (.iconst 0, 1) := by decide +kernel
theorem dX7_matchOf_48 : decode cX7_matchOf 48 = .ok (.istore 5, 2) := by decide +kernel
theorem dX7_matchOf_50 : decode cX7_matchOf 50 = .ok (.iconst 0, 1) := by decide +kernel
theorem dX7_matchOf_51 : decode cX7_matchOf 51 = .ok (.istore 6, 2) := by decide +kernel
theorem dX7_matchOf_53 : decode cX7_matchOf 53 = .ok (.iload 6, 2) := by decide +kernel
theorem dX7_matchOf_55 : decode cX7_matchOf 55 = .ok (.aload_n 0, 1) := by decide +kernel
theorem dX7_matchOf_56 : decode cX7_matchOf 56 = .ok (.getfield 101, 3) := by decide +kernel
theorem dX7_matchOf_59 : decode cX7_matchOf 59 = .ok (.if_icmp .ge 30, 3) := by decide +kernel
theorem dX7_matchOf_62 : decode cX7_matchOf 62 = .ok (.iload 5, 2) := by decide +kernel
theorem dX7_matchOf_64 : decode cX7_matchOf 64 = .ok (.aload_n 0, 1) := by decide +kernel
theorem dX7_matchOf_65 : decode cX7_matchOf 65 = .ok (.getfield 28, 3) := by decide +kernel
theorem dX7_matchOf_68 : decode cX7_matchOf 68 = .ok (.iload 6, 2) := by decide +kernel
theorem dX7_matchOf_70 : decode cX7_matchOf 70 = .ok (.iaload, 1) := by decide +kernel
theorem dX7_matchOf_71 : decode cX7_matchOf 71 = .ok (.iconst (-1), 1) := by decide +kernel
theorem dX7_matchOf_72 : decode cX7_matchOf 72 = .ok (.if_icmp .ne 7, 3) := by decide +kernel
theorem dX7_matchOf_75 : decode cX7_matchOf 75 = .ok (.iconst 0, 1) := by decide +kernel
theorem dX7_matchOf_76 : decode cX7_matchOf 76 = .ok (.goto 4, 3) := by decide +kernel
theorem dX7_matchOf_79 : decode cX7_matchOf 79 = .ok (.iconst 1, 1) := by decide +kernel
theorem dX7_matchOf_80 : decode cX7_matchOf 80 = .ok (.iadd, 1) := by decide +kernel
theorem dX7_matchOf_81 : decode cX7_matchOf 81 = .ok (.istore 5, 2) := by decide +kernel
theorem dX7_matchOf_83 : decode cX7_matchOf 83 = .ok (.iinc 6 1, 3) := by decide +kernel
theorem dX7_matchOf_86 : decode cX7_matchOf 86 = .ok (.goto (-33), 3) := by decide +kernel
theorem dX7_matchOf_89 : decode cX7_matchOf 89 = .ok (.iload 5, 2) := by decide +kernel
theorem dX7_matchOf_91 : decode cX7_matchOf 91 = .ok (.iload_n 3, 1) := by decide +kernel
theorem dX7_matchOf_92 : decode cX7_matchOf 92 = .ok (.if_icmp .le 17, 3) := by decide +kernel
theorem dX7_matchOf_95 : decode cX7_matchOf 95 = .ok (.iload 5, 2) := by decide +kernel
theorem dX7_matchOf_97 : decode cX7_matchOf 97 = .ok (.istore_n 3, 1) := by decide +kernel
theorem dX7_matchOf_98 : decode cX7_matchOf 98 = .ok (.aload_n 0, 1) := by decide +kernel
theorem dX7_matchOf_99 : decode cX7_matchOf 99 = .ok (.getfield 28, 3) := by decide +kernel
theorem dX7_matchOf_102 : decode cX7_matchOf 102 = .ok (.aload_n 0, 1) := by decide +kernel
theorem dX7_matchOf_103 : decode cX7_matchOf 103 = .ok (.getfield 31, 3) := by decide +kernel
theorem dX7_matchOf_106 : decode cX7_matchOf 106 = .ok (.invokestatic 104, 3) := by decide +kernel
theorem dX7_matchOf_109 : decode cX7_matchOf 109 = .ok (.iinc 4 1, 3) := by decide +kernel
theorem dX7_matchOf_112 : decode cX7_matchOf 112 = .ok (.goto (-80), 3) := by decide +kernel
theorem dX7_matchOf_115 : decode cX7_matchOf 115 = .ok (.iload_n 1, 1) := by decide +kernel
theorem dX7_matchOf_116 : decode cX7_matchOf 116 = .ok (.ifCond .ne 7, 3) := by decide +kernel
theorem dX7_matchOf_119 : decode cX7_matchOf 119 = .ok (.iload_n 3, 1) := by decide +kernel
theorem dX7_matchOf_120 : decode cX7_matchOf 120 = .ok (.goto 27, 3) := by decide +kernel
theorem dX7_matchOf_123 : decode cX7_matchOf 123 = .ok (.iload_n 1, 1) := by decide +kernel
theorem dX7_matchOf_124 : decode cX7_matchOf 124 = .ok (.bipush 10, 2) := by decide +kernel
theorem dX7_matchOf_126 : decode cX7_matchOf 126 = .ok (.isub, 1) := by decide +kernel
theorem dX7_matchOf_127 : decode cX7_matchOf 127 = .ok (.aload_n 0, 1) := by decide +kernel
theorem dX7_matchOf_128 : decode cX7_matchOf 128 = .ok (.getfield 101, 3) := by decide +kernel
theorem dX7_matchOf_131 : decode cX7_matchOf 131 = .ok (.if_icmp .ge 15, 3) := by decide +kernel
theorem dX7_matchOf_134 : decode cX7_matchOf 134 = .ok (.aload_n 0, 1) := by decide +kernel
theorem dX7_matchOf_135 : decode cX7_matchOf 135 = .ok (.getfield 31, 3) := by decide +kernel
theorem dX7_matchOf_138 : decode cX7_matchOf 138 = .ok (.iload_n 1, 1) := by decide +kernel
theorem dX7_matchOf_139 : decode cX7_matchOf 139 = .ok (.bipush 10, 2) := by decide +kernel
theorem dX7_matchOf_141 : decode cX7_matchOf 141 = .ok (.isub, 1) := by decide +kernel
theorem dX7_matchOf_142 : decode cX7_matchOf 142 = .ok (.iaload, 1) := by decide +kernel
theorem dX7_matchOf_143 : decode cX7_matchOf 143 = .ok (.goto 4, 3) := by decide +kernel
theorem dX7_matchOf_146 : decode cX7_matchOf 146 = .ok (.iconst (-1), 1) := by decide +kernel
theorem dX7_matchOf_147 : decode cX7_matchOf 147 = .ok (.ireturn, 1) := by decide +kernel
theorem dX7_match_0 : decode cX7_match 0 = .ok (.iload_n 1, 1) := by decide +kernel
theorem dX7_match_1 : decode cX7_match 1 = .ok (.ifCond .eq 20, 3) := by decide +kernel
theorem dX7_match_4 : decode cX7_match 4 = .ok (.iload_n 1, 1) := by decide +kernel
theorem dX7_match_5 : decode cX7_match 5 = .ok (.i2l, 1) := by decide +kernel
theorem dX7_match_6 : decode cX7_match 6 = .ok (.ldc2_w 182, 3) := by decide +kernel
theorem dX7_match_9 : decode cX7_match 9 = .ok (.ldc2_w 184, 3) := by decide +kernel
theorem dX7_match_12 : decode cX7_match 12 = .ok (.invokestatic 58, 3) := by decide +kernel
theorem dX7_match_15 : decode cX7_match 15 = .ok (.ifCond .ne 6, 3) := by decide +kernel
theorem dX7_match_18 : decode cX7_match 18 = .ok (.bipush (-102), 2) := by decide +kernel
theorem dX7_match_20 : decode cX7_match 20 = .ok (.ireturn, 1) := by decide +kernel
theorem dX7_match_21 : decode cX7_match 21 = .ok (.aload_n 0, 1) := by decide +kernel
theorem dX7_match_22 : decode cX7_match 22 = .ok (.invokevirtual 120, 3) := by decide +kernel
theorem dX7_match_25 : decode cX7_match 25 = .ok (.ifCond .eq 8, 3) := by decide +kernel
theorem dX7_match_28 : decode cX7_match 28 = .ok (.bipush (-103), 2) := by decide +kernel
theorem dX7_match_30 : decode cX7_match 30 = .ok (.goto 8, 3) := by decide +kernel
theorem dX7_match_33 : decode cX7_match 33 = .ok (.aload_n 0, 1) := by decide +kernel
theorem dX7_match_34 : decode cX7_match 34 = .ok (.iload_n 1, 1) := by decide +kernel
theorem dX7_match_35 : decode cX7_match 35 = .ok (.invokevirtual 186, 3) := by decide +kernel
theorem dX7_match_38 : decode cX7_match 38 = .ok (.ireturn, 1) := by decide +kernel
theorem dX7_hear_0 : decode cX7_hear 0 = .ok (.aload_n 0, 1) := by decide +kernel
theorem dX7_hear_1 : decode cX7_hear 1 = .ok (.iload_n 1, 1) := by decide +kernel
theorem dX7_hear_2 : decode cX7_hear 2 = .ok (.invokevirtual 158, 3) := by decide +kernel
theorem dX7_hear_5 : decode cX7_hear 5 = .ok (.ifCond .eq 11, 3) := by decide +kernel
theorem dX7_hear_8 : decode cX7_hear 8 = .ok (.aload_n 0, 1) := by decide +kernel
theorem dX7_hear_9 : decode cX7_hear 9 = .ok (.iload_n 2, 1) := by decide +kernel
theorem dX7_hear_10 : decode cX7_hear 10 = .ok (.invokevirtual 126, 3) := by decide +kernel
theorem dX7_hear_13 : decode cX7_hear 13 = .ok (.ifCond .ne 6, 3) := by decide +kernel
theorem dX7_hear_16 : decode cX7_hear 16 = .ok (.bipush (-101), 2) := by decide +kernel
theorem dX7_hear_18 : decode cX7_hear 18 = .ok (.ireturn, 1) := by decide +kernel
theorem dX7_hear_19 : decode cX7_hear 19 = .ok (.iload_n 3, 1) := by decide +kernel
theorem dX7_hear_20 : decode cX7_hear 20 = .ok (.i2l, 1) := by decide +kernel
theorem dX7_hear_21 : decode cX7_hear 21 = .ok (.ldc2_w 189, 3) := by decide +kernel
theorem dX7_hear_24 : decode cX7_hear 24 = .ok (.ldc2_w 74, 3) := by decide +kernel
theorem dX7_hear_27 : decode cX7_hear 27 = .ok (.invokestatic 58, 3) := by decide +kernel
theorem dX7_hear_30 : decode cX7_hear 30 = .ok (.ifCond .ne 6, 3) := by decide +kernel
theorem dX7_hear_33 : decode cX7_hear 33 = .ok (.bipush (-102), 2) := by decide +kernel
theorem dX7_hear_35 : decode cX7_hear 35 = .ok (.ireturn, 1) := by decide +kernel
theorem dX7_hear_36 : decode cX7_hear 36 = .ok (.aload_n 0, 1) := by decide +kernel
theorem dX7_hear_37 : decode cX7_hear 37 = .ok (.getfield 114, 3) := by decide +kernel
theorem dX7_hear_40 : decode cX7_hear 40 = .ok (.bipush 8, 2) := by decide +kernel
theorem dX7_hear_42 : decode cX7_hear 42 = .ok (.if_icmp .ne 6, 3) := by decide +kernel
theorem dX7_hear_45 : decode cX7_hear 45 = .ok (.bipush (-104), 2) := by decide +kernel
theorem dX7_hear_47 : decode cX7_hear 47 = .ok (.ireturn, 1) := by decide +kernel
theorem dX7_hear_48 : decode cX7_hear 48 = .ok (.aload_n 0, 1) := by decide +kernel
theorem dX7_hear_49 : decode cX7_hear 49 = .ok (.getfield 34, 3) := by decide +kernel
theorem dX7_hear_52 : decode cX7_hear 52 = .ok (.iconst 3, 1) := by decide +kernel
theorem dX7_hear_53 : decode cX7_hear 53 = .ok (.aload_n 0, 1) := by decide +kernel
theorem dX7_hear_54 : decode cX7_hear 54 = .ok (.getfield 114, 3) := by decide +kernel
theorem dX7_hear_57 : decode cX7_hear 57 = .ok (.imul, 1) := by decide +kernel
theorem dX7_hear_58 : decode cX7_hear 58 = .ok (.iload_n 1, 1) := by decide +kernel
theorem dX7_hear_59 : decode cX7_hear 59 = .ok (.iastore, 1) := by decide +kernel
theorem dX7_hear_60 : decode cX7_hear 60 = .ok (.aload_n 0, 1) := by decide +kernel
theorem dX7_hear_61 : decode cX7_hear 61 = .ok (.getfield 34, 3) := by decide +kernel
theorem dX7_hear_64 : decode cX7_hear 64 = .ok (.iconst 3, 1) := by decide +kernel
theorem dX7_hear_65 : decode cX7_hear 65 = .ok (.aload_n 0, 1) := by decide +kernel
theorem dX7_hear_66 : decode cX7_hear 66 = .ok (.getfield 114, 3) := by decide +kernel
theorem dX7_hear_69 : decode cX7_hear 69 = .ok (.imul, 1) := by decide +kernel
theorem dX7_hear_70 : decode cX7_hear 70 = .ok (.iconst 1, 1) := by decide +kernel
theorem dX7_hear_71 : decode cX7_hear 71 = .ok (.iadd, 1) := by decide +kernel
theorem dX7_hear_72 : decode cX7_hear 72 = .ok (.iload_n 2, 1) := by decide +kernel
theorem dX7_hear_73 : decode cX7_hear 73 = .ok (.iastore, 1) := by decide +kernel
theorem dX7_hear_74 : decode cX7_hear 74 = .ok (.aload_n 0, 1) := by decide +kernel
theorem dX7_hear_75 : decode cX7_hear 75 = .ok (.getfield 34, 3) := by decide +kernel
theorem dX7_hear_78 : decode cX7_hear 78 = .ok (.iconst 3, 1) := by decide +kernel
theorem dX7_hear_79 : decode cX7_hear 79 = .ok (.aload_n 0, 1) := by decide +kernel
theorem dX7_hear_80 : decode cX7_hear 80 = .ok (.getfield 114, 3) := by decide +kernel
theorem dX7_hear_83 : decode cX7_hear 83 = .ok (.imul, 1) := by decide +kernel
theorem dX7_hear_84 : decode cX7_hear 84 = .ok (.iconst 2, 1) := by decide +kernel
theorem dX7_hear_85 : decode cX7_hear 85 = .ok (.iadd, 1) := by decide +kernel
theorem dX7_hear_86 : decode cX7_hear 86 = .ok (.iload_n 3, 1) := by decide +kernel
theorem dX7_hear_87 : decode cX7_hear 87 = .ok (.iastore, 1) := by decide +kernel
theorem dX7_hear_88 : decode cX7_hear 88 = .ok (.aload_n 0, 1) := by decide +kernel
theorem dX7_hear_89 : decode cX7_hear 89 = .ok (.dup, 1) := by decide +kernel
theorem dX7_hear_90 : decode cX7_hear 90 = .ok (.getfield 114, 3) := by decide +kernel
theorem dX7_hear_93 : decode cX7_hear 93 = .ok (.iconst 1, 1) := by decide +kernel
theorem dX7_hear_94 : decode cX7_hear 94 = .ok (.iadd, 1) := by decide +kernel
theorem dX7_hear_95 : decode cX7_hear 95 = .ok (.putfield 114, 3) := by decide +kernel
theorem dX7_hear_98 : decode cX7_hear 98 = .ok (.aload_n 0, 1) := by decide +kernel
theorem dX7_hear_99 : decode cX7_hear 99 = .ok (.getfield 114, 3) := by decide +kernel
theorem dX7_hear_102 : decode cX7_hear 102 = .ok (.ireturn, 1) := by decide +kernel
theorem dX7_forget_0 : decode cX7_forget 0 = .ok (.aload_n 0, 1) := by decide +kernel
theorem dX7_forget_1 : decode cX7_forget 1 = .ok (.getfield 114, 3) := by decide +kernel
theorem dX7_forget_4 : decode cX7_forget 4 = .ok (.istore_n 1, 1) := by decide +kernel
theorem dX7_forget_5 : decode cX7_forget 5 = .ok (.aload_n 0, 1) := by decide +kernel
theorem dX7_forget_6 : decode cX7_forget 6 = .ok (.iconst 0, 1) := by decide +kernel
theorem dX7_forget_7 : decode cX7_forget 7 = .ok (.putfield 114, 3) := by decide +kernel
theorem dX7_forget_10 : decode cX7_forget 10 = .ok (.iload_n 1, 1) := by decide +kernel
theorem dX7_forget_11 : decode cX7_forget 11 = .ok (.ireturn, 1) := by decide +kernel
theorem dX7_whichOf_0 : decode cX7_whichOf 0 = .ok (.iconst 0, 1) := by decide +kernel
theorem dX7_whichOf_1 : decode cX7_whichOf 1 = .ok (.istore_n 2, 1) := by decide +kernel
theorem dX7_whichOf_2 : decode cX7_whichOf 2 = .ok (.iconst 0, 1) := by decide +kernel
theorem dX7_whichOf_3 : decode cX7_whichOf 3 = .ok (.istore_n 3, 1) := by decide +kernel
theorem dX7_whichOf_4 : decode cX7_whichOf 4 = .ok (.iload_n 3, 1) := by decide +kernel
theorem dX7_whichOf_5 : decode cX7_whichOf 5 = .ok (.iconst 5, 1) := by decide +kernel
theorem dX7_whichOf_6 : decode cX7_whichOf 6 = .ok (.if_icmp .ge 115, 3) := by decide +kernel
theorem dX7_whichOf_9 : decode cX7_whichOf 9 = .ok (.iconst 1, 1) := by decide +kernel
theorem dX7_whichOf_10 : decode cX7_whichOf 10 = .ok (.istore 4, 2) := by decide +kernel
theorem dX7_whichOf_12 : decode cX7_whichOf 12 = .ok (.iconst 0, 1) := by decide +kernel
theorem dX7_whichOf_13 : decode cX7_whichOf 13 = .ok (.istore 5, 2) := by decide +kernel
theorem dX7_whichOf_15 : decode cX7_whichOf 15 = .ok (.iload 5, 2) := by decide +kernel
theorem dX7_whichOf_17 : decode cX7_whichOf 17 = .ok (.aload_n 0, 1) := by decide +kernel
theorem dX7_whichOf_18 : decode cX7_whichOf 18 = .ok (.getfield 114, 3) := by decide +kernel
theorem dX7_whichOf_21 : decode cX7_whichOf 21 = .ok (.if_icmp .ge 79, 3) := by decide +kernel
theorem dX7_whichOf_24 : decode cX7_whichOf 24 = .ok (.aload_n 0, 1) := by decide +kernel
theorem dX7_whichOf_25 : decode cX7_whichOf 25 = .ok (.iload_n 3, 1) := by decide +kernel
theorem dX7_whichOf_26 : decode cX7_whichOf 26 = .ok (.aload_n 0, 1) := by decide +kernel
theorem dX7_whichOf_27 : decode cX7_whichOf 27 = .ok (.getfield 22, 3) := by decide +kernel
theorem dX7_whichOf_30 : decode cX7_whichOf 30 = .ok (.iconst 3, 1) := by decide +kernel
theorem dX7_whichOf_31 : decode cX7_whichOf 31 = .ok (.iload_n 1, 1) := by decide +kernel
theorem dX7_whichOf_32 : decode cX7_whichOf 32 = .ok (.imul, 1) := by decide +kernel
theorem dX7_whichOf_33 : decode cX7_whichOf 33 = .ok (.iconst 1, 1) := by decide +kernel
theorem dX7_whichOf_34 : decode cX7_whichOf 34 = .ok (.iadd, 1) := by decide +kernel
theorem dX7_whichOf_35 : decode cX7_whichOf 35 = .ok (.iaload, 1) := by decide +kernel
theorem dX7_whichOf_36 : decode cX7_whichOf 36 = .ok (.iconst 0, 1) := by decide +kernel
theorem dX7_whichOf_37 : decode cX7_whichOf 37 = .ok (.aload_n 0, 1) := by decide +kernel
theorem dX7_whichOf_38 : decode cX7_whichOf 38 = .ok (.getfield 34, 3) := by decide +kernel
theorem dX7_whichOf_41 : decode cX7_whichOf 41 = .ok (.iconst 3, 1) := by decide +kernel
theorem dX7_whichOf_42 : decode cX7_whichOf 42 = .ok (.iload 5, 2) := by decide +kernel
theorem dX7_whichOf_44 : decode cX7_whichOf 44 = .ok (.imul, 1) := by decide +kernel
theorem dX7_whichOf_45 : decode cX7_whichOf 45 = .ok (.iconst 1, 1) := by decide +kernel
theorem dX7_whichOf_46 : decode cX7_whichOf 46 = .ok (.iadd, 1) := by decide +kernel
theorem dX7_whichOf_47 : decode cX7_whichOf 47 = .ok (.iaload, 1) := by decide +kernel
theorem dX7_whichOf_48 : decode cX7_whichOf 48 = .ok (.invokevirtual 135, 3) := by decide +kernel
theorem dX7_whichOf_51 : decode cX7_whichOf 51 = .ok (.istore 6, 2) := by decide +kernel
theorem dX7_whichOf_53 : decode cX7_whichOf 53 = .ok (.iload 4, 2) := by decide +kernel
theorem dX7_whichOf_55 : decode cX7_whichOf 55 = .ok (.ifCond .eq 36, 3) := by decide +kernel
theorem dX7_whichOf_58 : decode cX7_whichOf 58 = .ok (.aload_n 0, 1) := by decide +kernel
theorem dX7_whichOf_59 : decode cX7_whichOf 59 = .ok (.getfield 34, 3) := by decide +kernel
theorem dX7_whichOf_62 : decode cX7_whichOf 62 = .ok (.iconst 3, 1) := by decide +kernel
theorem dX7_whichOf_63 : decode cX7_whichOf 63 = .ok (.iload 5, 2) := by decide +kernel
theorem dX7_whichOf_65 : decode cX7_whichOf 65 = .ok (.imul, 1) := by decide +kernel
theorem dX7_whichOf_66 : decode cX7_whichOf 66 = .ok (.iaload, 1) := by decide +kernel
theorem dX7_whichOf_67 : decode cX7_whichOf 67 = .ok (.iload_n 1, 1) := by decide +kernel
theorem dX7_whichOf_68 : decode cX7_whichOf 68 = .ok (.if_icmp .ne 19, 3) := by decide +kernel
theorem dX7_whichOf_71 : decode cX7_whichOf 71 = .ok (.iload 6, 2) := by decide +kernel
theorem dX7_whichOf_73 : decode cX7_whichOf 73 = .ok (.aload_n 0, 1) := by decide +kernel
theorem dX7_whichOf_74 : decode cX7_whichOf 74 = .ok (.getfield 34, 3) := by decide +kernel
theorem dX7_whichOf_77 : decode cX7_whichOf 77 = .ok (.iconst 3, 1) := by decide +kernel
theorem dX7_whichOf_78 : decode cX7_whichOf 78 = .ok (.iload 5, 2) := by decide +kernel
theorem dX7_whichOf_80 : decode cX7_whichOf 80 = .ok (.imul, 1) := by decide +kernel
theorem dX7_whichOf_81 : decode cX7_whichOf 81 = .ok (.iconst 2, 1) := by decide +kernel
theorem dX7_whichOf_82 : decode cX7_whichOf 82 = .ok (.iadd, 1) := by decide +kernel
theorem dX7_whichOf_83 : decode cX7_whichOf 83 = .ok (.iaload, 1) := by decide +kernel
theorem dX7_whichOf_84 : decode cX7_whichOf 84 = .ok (.if_icmp .ne 7, 3) := by decide +kernel
theorem dX7_whichOf_87 : decode cX7_whichOf 87 = .ok (.iconst 1, 1) := by decide +kernel
theorem dX7_whichOf_88 : decode cX7_whichOf 88 = .ok (.goto 4, 3) := by decide +kernel
theorem dX7_whichOf_91 : decode cX7_whichOf 91 = .ok (.iconst 0, 1) := by decide +kernel
theorem dX7_whichOf_92 : decode cX7_whichOf 92 = .ok (.istore 4, 2) := by decide +kernel
theorem dX7_whichOf_94 : decode cX7_whichOf 94 = .ok (.iinc 5 1, 3) := by decide +kernel
theorem dX7_whichOf_97 : decode cX7_whichOf 97 = .ok (.goto (-82), 3) := by decide +kernel
theorem dX7_whichOf_100 : decode cX7_whichOf 100 = .ok (.iload_n 2, 1) := by decide +kernel
theorem dX7_whichOf_101 : decode cX7_whichOf 101 = .ok (.iload 4, 2) := by decide +kernel
theorem dX7_whichOf_103 : decode cX7_whichOf 103 = .ok (.ifCond .eq 9, 3) := by decide +kernel
theorem dX7_whichOf_106 : decode cX7_whichOf 106 = .ok (.iconst 1, 1) := by decide +kernel
theorem dX7_whichOf_107 : decode cX7_whichOf 107 = .ok (.iload_n 3, 1) := by decide +kernel
theorem dX7_whichOf_108 : decode cX7_whichOf 108 = .ok (.ishl, 1) := by decide +kernel
theorem dX7_whichOf_109 : decode cX7_whichOf 109 = .ok (.goto 4, 3) := by decide +kernel
theorem dX7_whichOf_112 : decode cX7_whichOf 112 = .ok (.iconst 0, 1) := by decide +kernel
theorem dX7_whichOf_113 : decode cX7_whichOf 113 = .ok (.ior, 1) := by decide +kernel
theorem dX7_whichOf_114 : decode cX7_whichOf 114 = .ok (.istore_n 2, 1) := by decide +kernel
theorem dX7_whichOf_115 : decode cX7_whichOf 115 = .ok (.iinc 3 1, 3) := by decide +kernel
theorem dX7_whichOf_118 : decode cX7_whichOf 118 = .ok (.goto (-114), 3) := by decide +kernel
theorem dX7_whichOf_121 : decode cX7_whichOf 121 = .ok (.iload_n 2, 1) := by decide +kernel
theorem dX7_whichOf_122 : decode cX7_whichOf 122 = .ok (.ireturn, 1) := by decide +kernel
theorem dX7_beginOf_0 : decode cX7_beginOf 0 = .ok (.aload_n 0, 1) := by decide +kernel
theorem dX7_beginOf_1 : decode cX7_beginOf 1 = .ok (.iload_n 1, 1) := by decide +kernel
theorem dX7_beginOf_2 : decode cX7_beginOf 2 = .ok (.invokevirtual 152, 3) := by decide +kernel
theorem dX7_beginOf_5 : decode cX7_beginOf 5 = .ok (.istore_n 2, 1) := by decide +kernel
theorem dX7_beginOf_6 : decode cX7_beginOf 6 = .ok (.iconst (-1), 1) := by decide +kernel
theorem dX7_beginOf_7 : decode cX7_beginOf 7 = .ok (.istore_n 3, 1) := by decide +kernel
theorem dX7_beginOf_8 : decode cX7_beginOf 8 = .ok (.bipush 6, 2) := by decide +kernel
theorem dX7_beginOf_10 : decode cX7_beginOf 10 = .ok (.istore 4, 2) := by decide +kernel
theorem dX7_beginOf_12 : decode cX7_beginOf 12 = .ok (.iconst 0, 1) := by decide +kernel
theorem dX7_beginOf_13 : decode cX7_beginOf 13 = .ok (.istore 5, 2) := by decide +kernel
theorem dX7_beginOf_15 : decode cX7_beginOf 15 = .ok (.iload 5, 2) := by decide +kernel
theorem dX7_beginOf_17 : decode cX7_beginOf 17 = .ok (.iconst 4, 1) := by decide +kernel
theorem dX7_beginOf_18 : decode cX7_beginOf 18 = .ok (.if_icmp .ge 150, 3) := by decide +kernel
theorem dX7_beginOf_21 : decode cX7_beginOf 21 = .ok (.iload_n 2, 1) := by decide +kernel
theorem dX7_beginOf_22 : decode cX7_beginOf 22 = .ok (.ifCond .eq 146, 3) := by decide +kernel
theorem dX7_beginOf_25 : decode cX7_beginOf 25 = .ok (.iconst 0, 1) := by decide +kernel
theorem dX7_beginOf_26 : decode cX7_beginOf 26 = .ok (.istore 6, 2) := by decide +kernel
theorem dX7_beginOf_28 : decode cX7_beginOf 28 = .ok (.iload 6, 2) := by decide +kernel
theorem dX7_beginOf_30 : decode cX7_beginOf 30 = .ok (.bipush 7, 2) := by decide +kernel
theorem dX7_beginOf_32 : decode cX7_beginOf 32 = .ok (.if_icmp .ge 17, 3) := by decide +kernel
theorem dX7_beginOf_35 : decode cX7_beginOf 35 = .ok (.aload_n 0, 1) := by decide +kernel
theorem dX7_beginOf_36 : decode cX7_beginOf 36 = .ok (.getfield 37, 3) := by decide +kernel
theorem dX7_beginOf_39 : decode cX7_beginOf 39 = .ok (.iload 6, 2) := by decide +kernel
theorem dX7_beginOf_41 : decode cX7_beginOf 41 = .ok (.iconst 0, 1) := by decide +kernel
theorem dX7_beginOf_42 : decode cX7_beginOf 42 = .ok (.iastore, 1) := by decide +kernel
theorem dX7_beginOf_43 : decode cX7_beginOf 43 = .ok (.iinc 6 1, 3) := by decide +kernel
theorem dX7_beginOf_46 : decode cX7_beginOf 46 = .ok (.goto (-18), 3) := by decide +kernel
theorem dX7_beginOf_49 : decode cX7_beginOf 49 = .ok (.iconst 0, 1) := by decide +kernel
theorem dX7_beginOf_50 : decode cX7_beginOf 50 = .ok (.istore 6, 2) := by decide +kernel
theorem dX7_beginOf_52 : decode cX7_beginOf 52 = .ok (.iconst 0, 1) := by decide +kernel
theorem dX7_beginOf_53 : decode cX7_beginOf 53 = .ok (.istore 7, 2) := by decide +kernel
theorem dX7_beginOf_55 : decode cX7_beginOf 55 = .ok (.iload 7, 2) := by decide +kernel
theorem dX7_beginOf_57 : decode cX7_beginOf 57 = .ok (.iconst 5, 1) := by decide +kernel
theorem dX7_beginOf_58 : decode cX7_beginOf 58 = .ok (.if_icmp .ge 74, 3) := by decide +kernel
theorem dX7_beginOf_61 : decode cX7_beginOf 61 = .ok (.aload_n 0, 1) := by decide +kernel
theorem dX7_beginOf_62 : decode cX7_beginOf 62 = .ok (.iload 7, 2) := by decide +kernel
theorem dX7_beginOf_64 : decode cX7_beginOf 64 = .ok (.aload_n 0, 1) := by decide +kernel
theorem dX7_beginOf_65 : decode cX7_beginOf 65 = .ok (.getfield 22, 3) := by decide +kernel
theorem dX7_beginOf_68 : decode cX7_beginOf 68 = .ok (.iconst 3, 1) := by decide +kernel
theorem dX7_beginOf_69 : decode cX7_beginOf 69 = .ok (.iload_n 1, 1) := by decide +kernel
theorem dX7_beginOf_70 : decode cX7_beginOf 70 = .ok (.imul, 1) := by decide +kernel
theorem dX7_beginOf_71 : decode cX7_beginOf 71 = .ok (.iconst 1, 1) := by decide +kernel
theorem dX7_beginOf_72 : decode cX7_beginOf 72 = .ok (.iadd, 1) := by decide +kernel
theorem dX7_beginOf_73 : decode cX7_beginOf 73 = .ok (.iaload, 1) := by decide +kernel
theorem dX7_beginOf_74 : decode cX7_beginOf 74 = .ok (.iconst 0, 1) := by decide +kernel
theorem dX7_beginOf_75 : decode cX7_beginOf 75 = .ok (.iload 5, 2) := by decide +kernel
theorem dX7_beginOf_77 : decode cX7_beginOf 77 = .ok (.invokevirtual 135, 3) := by decide +kernel
theorem dX7_beginOf_80 : decode cX7_beginOf 80 = .ok (.iconst 1, 1) := by decide +kernel
theorem dX7_beginOf_81 : decode cX7_beginOf 81 = .ok (.iadd, 1) := by decide +kernel
theorem dX7_beginOf_82 : decode cX7_beginOf 82 = .ok (.istore 8, 2) := by decide +kernel
theorem dX7_beginOf_84 : decode cX7_beginOf 84 = .ok (.aload_n 0, 1) := by decide +kernel
theorem dX7_beginOf_85 : decode cX7_beginOf 85 = .ok (.getfield 37, 3) := by decide +kernel
theorem dX7_beginOf_88 : decode cX7_beginOf 88 = .ok (.iload 8, 2) := by decide +kernel
theorem dX7_beginOf_90 : decode cX7_beginOf 90 = .ok (.dup2, 1) := by decide +kernel
theorem dX7_beginOf_91 : decode cX7_beginOf 91 = .ok (.iaload, 1) := by decide +kernel
theorem dX7_beginOf_92 : decode cX7_beginOf 92 = .ok (.iload_n 2, 1) := by decide +kernel
theorem dX7_beginOf_93 : decode cX7_beginOf 93 = .ok (.iload 7, 2) := by decide +kernel
theorem dX7_beginOf_95 : decode cX7_beginOf 95 = .ok (.ishr, 1) := by decide +kernel
theorem dX7_beginOf_96 : decode cX7_beginOf 96 = .ok (.iconst 1, 1) := by decide +kernel
theorem dX7_beginOf_97 : decode cX7_beginOf 97 = .ok (.iand, 1) := by decide +kernel
theorem dX7_beginOf_98 : decode cX7_beginOf 98 = .ok (.iadd, 1) := by decide +kernel
theorem dX7_beginOf_99 : decode cX7_beginOf 99 = .ok (.iastore, 1) := by decide +kernel
theorem dX7_beginOf_100 : decode cX7_beginOf 100 = .ok (.aload_n 0, 1) := by decide +kernel
theorem dX7_beginOf_101 : decode cX7_beginOf 101 = .ok (.getfield 37, 3) := by decide +kernel
theorem dX7_beginOf_104 : decode cX7_beginOf 104 = .ok (.iload 8, 2) := by decide +kernel
theorem dX7_beginOf_106 : decode cX7_beginOf 106 = .ok (.iaload, 1) := by decide +kernel
theorem dX7_beginOf_107 : decode cX7_beginOf 107 = .ok (.iload 6, 2) := by decide +kernel
theorem dX7_beginOf_109 : decode cX7_beginOf 109 = .ok (.if_icmp .le 13, 3) := by decide +kernel
theorem dX7_beginOf_112 : decode cX7_beginOf 112 = .ok (.aload_n 0, 1) := by decide +kernel
theorem dX7_beginOf_113 : decode cX7_beginOf 113 = .ok (.getfield 37, 3) := by decide +kernel
theorem dX7_beginOf_116 : decode cX7_beginOf 116 = .ok (.iload 8, 2) := by decide +kernel
theorem dX7_beginOf_118 : decode cX7_beginOf 118 = .ok (.iaload, 1) := by decide +kernel
theorem dX7_beginOf_119 : decode cX7_beginOf 119 = .ok (.goto 5, 3) := by decide +kernel
theorem dX7_beginOf_122 : decode cX7_beginOf 122 = .ok (.iload 6, 2) := by decide +kernel
theorem dX7_beginOf_124 : decode cX7_beginOf 124 = .ok (.istore 6, 2) := by decide +kernel
theorem dX7_beginOf_126 : decode cX7_beginOf 126 = .ok (.iinc 7 1, 3) := by decide +kernel
theorem dX7_beginOf_129 : decode cX7_beginOf 129 = .ok (.goto (-74), 3) := by decide +kernel
theorem dX7_beginOf_132 : decode cX7_beginOf 132 = .ok (.iload 6, 2) := by decide +kernel
theorem dX7_beginOf_134 : decode cX7_beginOf 134 = .ok (.iload 4, 2) := by decide +kernel
theorem dX7_beginOf_136 : decode cX7_beginOf 136 = .ok (.if_icmp .ge 8, 3) := by decide +kernel
theorem dX7_beginOf_139 : decode cX7_beginOf 139 = .ok (.iload 5, 2) := by decide +kernel
theorem dX7_beginOf_141 : decode cX7_beginOf 141 = .ok (.goto 4, 3) := by decide +kernel
theorem dX7_beginOf_144 : decode cX7_beginOf 144 = .ok (.iload_n 3, 1) := by decide +kernel
theorem dX7_beginOf_145 : decode cX7_beginOf 145 = .ok (.istore_n 3, 1) := by decide +kernel
theorem dX7_beginOf_146 : decode cX7_beginOf 146 = .ok (.iload 6, 2) := by decide +kernel
theorem dX7_beginOf_148 : decode cX7_beginOf 148 = .ok (.iload 4, 2) := by decide +kernel
theorem dX7_beginOf_150 : decode cX7_beginOf 150 = .ok (.if_icmp .ge 8, 3) := by decide +kernel
theorem dX7_beginOf_153 : decode cX7_beginOf 153 = .ok (.iload 6, 2) := by decide +kernel
theorem dX7_beginOf_155 : decode cX7_beginOf 155 = .ok (.goto 5, 3) := by decide +kernel
theorem dX7_beginOf_158 : decode cX7_beginOf 158 = .ok (.iload 4, 2) := by decide +kernel
theorem dX7_beginOf_160 : decode cX7_beginOf 160 = .ok (.istore 4, 2) := by decide +kernel
theorem dX7_beginOf_162 : decode cX7_beginOf 162 = .ok (.iinc 5 1, 3) := by decide +kernel
theorem dX7_beginOf_165 : decode cX7_beginOf 165 = .ok (.goto (-150), 3) := by decide +kernel
theorem dX7_beginOf_168 : decode cX7_beginOf 168 = .ok (.iload_n 3, 1) := by decide +kernel
theorem dX7_beginOf_169 : decode cX7_beginOf 169 = .ok (.ireturn, 1) := by decide +kernel
theorem dX7_draw_0 : decode cX7_draw 0 = .ok (.aload_n 0, 1) := by decide +kernel
theorem dX7_draw_1 : decode cX7_draw 1 = .ok (.ldc2_w 191, 3) := by decide +kernel
theorem dX7_draw_4 : decode cX7_draw 4 = .ok (.aload_n 0, 1) := by decide +kernel
theorem dX7_draw_5 : decode cX7_draw 5 = .ok (.getfield 193, 3) := by decide +kernel
theorem dX7_draw_8 : decode cX7_draw 8 = .ok (.i2l, 1) := by decide +kernel
theorem dX7_draw_9 : decode cX7_draw 9 = .ok (.lmul, 1) := by decide +kernel
theorem dX7_draw_10 : decode cX7_draw 10 = .ok (.ldc2_w 196, 3) := by decide +kernel
theorem dX7_draw_13 : decode cX7_draw 13 = .ok (.ladd, 1) := by decide +kernel
theorem dX7_draw_14 : decode cX7_draw 14 = .ok (.ldc2_w 198, 3) := by decide +kernel
theorem dX7_draw_17 : decode cX7_draw 17 = .ok (.land, 1) := by decide +kernel
theorem dX7_draw_18 : decode cX7_draw 18 = .ok (.l2i, 1) := by decide +kernel
theorem dX7_draw_19 : decode cX7_draw 19 = .ok (.putfield 193, 3) := by decide +kernel
theorem dX7_draw_22 : decode cX7_draw 22 = .ok (.aload_n 0, 1) := by decide +kernel
theorem dX7_draw_23 : decode cX7_draw 23 = .ok (.getfield 193, 3) := by decide +kernel
theorem dX7_draw_26 : decode cX7_draw 26 = .ok (.ldc 200, 2) := by decide +kernel
theorem dX7_draw_28 : decode cX7_draw 28 = .ok (.idiv, 1) := by decide +kernel
theorem dX7_draw_29 : decode cX7_draw 29 = .ok (.iload_n 1, 1) := by decide +kernel
theorem dX7_draw_30 : decode cX7_draw 30 = .ok (.irem, 1) := by decide +kernel
theorem dX7_draw_31 : decode cX7_draw 31 = .ok (.ireturn, 1) := by decide +kernel
theorem dX7_talks_0 : decode cX7_talks 0 = .ok (.iload_n 1, 1) := by decide +kernel
theorem dX7_talks_1 : decode cX7_talks 1 = .ok (.i2l, 1) := by decide +kernel
theorem dX7_talks_2 : decode cX7_talks 2 = .ok (.lconst 1, 1) := by decide +kernel
theorem dX7_talks_3 : decode cX7_talks 3 = .ok (.ldc2_w 201, 3) := by decide +kernel
theorem dX7_talks_6 : decode cX7_talks 6 = .ok (.invokestatic 58, 3) := by decide +kernel
theorem dX7_talks_9 : decode cX7_talks 9 = .ok (.ifCond .eq 19, 3) := by decide +kernel
theorem dX7_talks_12 : decode cX7_talks 12 = .ok (.iload_n 2, 1) := by decide +kernel
theorem dX7_talks_13 : decode cX7_talks 13 = .ok (.ifCond .lt 15, 3) := by decide +kernel
theorem dX7_talks_16 : decode cX7_talks 16 = .ok (.iload_n 3, 1) := by decide +kernel
theorem dX7_talks_17 : decode cX7_talks 17 = .ok (.i2l, 1) := by decide +kernel
theorem dX7_talks_18 : decode cX7_talks 18 = .ok (.lconst 0, 1) := by decide +kernel
theorem dX7_talks_19 : decode cX7_talks 19 = .ok (.ldc2_w 203, 3) := by decide +kernel
theorem dX7_talks_22 : decode cX7_talks 22 = .ok (.invokestatic 58, 3) := by decide +kernel
theorem dX7_talks_25 : decode cX7_talks 25 = .ok (.ifCond .ne 6, 3) := by decide +kernel
theorem dX7_talks_28 : decode cX7_talks 28 = .ok (.bipush (-102), 2) := by decide +kernel
theorem dX7_talks_30 : decode cX7_talks 30 = .ok (.ireturn, 1) := by decide +kernel
theorem dX7_talks_31 : decode cX7_talks 31 = .ok (.aload_n 0, 1) := by decide +kernel
theorem dX7_talks_32 : decode cX7_talks 32 = .ok (.invokevirtual 120, 3) := by decide +kernel
theorem dX7_talks_35 : decode cX7_talks 35 = .ok (.ifCond .eq 6, 3) := by decide +kernel
theorem dX7_talks_38 : decode cX7_talks 38 = .ok (.bipush (-103), 2) := by decide +kernel
theorem dX7_talks_40 : decode cX7_talks 40 = .ok (.ireturn, 1) := by decide +kernel
theorem dX7_talks_41 : decode cX7_talks 41 = .ok (.aload_n 0, 1) := by decide +kernel
theorem dX7_talks_42 : decode cX7_talks 42 = .ok (.getfield 22, 3) := by decide +kernel
theorem dX7_talks_45 : decode cX7_talks 45 = .ok (.aload_n 0, 1) := by decide +kernel
theorem dX7_talks_46 : decode cX7_talks 46 = .ok (.getfield 40, 3) := by decide +kernel
theorem dX7_talks_49 : decode cX7_talks 49 = .ok (.invokestatic 104, 3) := by decide +kernel
theorem dX7_talks_52 : decode cX7_talks 52 = .ok (.aload_n 0, 1) := by decide +kernel
theorem dX7_talks_53 : decode cX7_talks 53 = .ok (.iload_n 2, 1) := by decide +kernel
theorem dX7_talks_54 : decode cX7_talks 54 = .ok (.putfield 193, 3) := by decide +kernel
theorem dX7_talks_57 : decode cX7_talks 57 = .ok (.iconst 0, 1) := by decide +kernel
theorem dX7_talks_58 : decode cX7_talks 58 = .ok (.istore 4, 2) := by decide +kernel
theorem dX7_talks_60 : decode cX7_talks 60 = .ok (.iconst 0, 1) := by decide +kernel
theorem dX7_talks_61 : decode cX7_talks 61 = .ok (.istore 5, 2) := by decide +kernel
theorem dX7_talks_63 : decode cX7_talks 63 = .ok (.iconst 0, 1) := by decide +kernel
theorem dX7_talks_64 : decode cX7_talks 64 = .ok (.istore 6, 2) := by decide +kernel
theorem dX7_talks_66 : decode cX7_talks 66 = .ok (.iload 6, 2) := by decide +kernel
theorem dX7_talks_68 : decode cX7_talks 68 = .ok (.iload_n 1, 1) := by decide +kernel
theorem dX7_talks_69 : decode cX7_talks 69 = .ok (.if_icmp .ge 110, 3) := by decide +kernel
theorem dX7_talks_72 : decode cX7_talks 72 = .ok (.aload_n 0, 1) := by decide +kernel
theorem dX7_talks_73 : decode cX7_talks 73 = .ok (.aload_n 0, 1) := by decide +kernel
theorem dX7_talks_74 : decode cX7_talks 74 = .ok (.getfield 101, 3) := by decide +kernel
theorem dX7_talks_77 : decode cX7_talks 77 = .ok (.invokevirtual 205, 3) := by decide +kernel
theorem dX7_talks_80 : decode cX7_talks 80 = .ok (.istore 7, 2) := by decide +kernel
theorem dX7_talks_82 : decode cX7_talks 82 = .ok (.aload_n 0, 1) := by decide +kernel
theorem dX7_talks_83 : decode cX7_talks 83 = .ok (.iconst 4, 1) := by decide +kernel
theorem dX7_talks_84 : decode cX7_talks 84 = .ok (.invokevirtual 205, 3) := by decide +kernel
theorem dX7_talks_87 : decode cX7_talks 87 = .ok (.istore 8, 2) := by decide +kernel
theorem dX7_talks_89 : decode cX7_talks 89 = .ok (.aload_n 0, 1) := by decide +kernel
theorem dX7_talks_90 : decode cX7_talks 90 = .ok (.aload_n 0, 1) := by decide +kernel
theorem dX7_talks_91 : decode cX7_talks 91 = .ok (.getfield 101, 3) := by decide +kernel
theorem dX7_talks_94 : decode cX7_talks 94 = .ok (.invokevirtual 205, 3) := by decide +kernel
theorem dX7_talks_97 : decode cX7_talks 97 = .ok (.istore 9, 2) := by decide +kernel
theorem dX7_talks_99 : decode cX7_talks 99 = .ok (.iload 9, 2) := by decide +kernel
theorem dX7_talks_101 : decode cX7_talks 101 = .ok (.iload 7, 2) := by decide +kernel
theorem dX7_talks_103 : decode cX7_talks 103 = .ok (.if_icmp .ne 7, 3) := by decide +kernel
theorem dX7_talks_106 : decode cX7_talks 106 = .ok (.iconst (-1), 1) := by decide +kernel
theorem dX7_talks_107 : decode cX7_talks 107 = .ok (.goto 11, 3) := by decide +kernel
theorem dX7_talks_110 : decode cX7_talks 110 = .ok (.aload_n 0, 1) := by decide +kernel
theorem dX7_talks_111 : decode cX7_talks 111 = .ok (.iload 9, 2) := by decide +kernel
theorem dX7_talks_113 : decode cX7_talks 113 = .ok (.iload 8, 2) := by decide +kernel
theorem dX7_talks_115 : decode cX7_talks 115 = .ok (.invokevirtual 139, 3) := by decide +kernel
theorem dX7_talks_118 : decode cX7_talks 118 = .ok (.istore 10, 2) := by decide +kernel
theorem dX7_talks_120 : decode cX7_talks 120 = .ok (.iload 10, 2) := by decide +kernel
theorem dX7_talks_122 : decode cX7_talks 122 = .ok (.iconst (-1), 1) := by decide +kernel
theorem dX7_talks_123 : decode cX7_talks 123 = .ok (.if_icmp .eq 50, 3) := by decide +kernel
theorem dX7_talks_126 : decode cX7_talks 126 = .ok (.aload_n 0, 1) := by decide +kernel
theorem dX7_talks_127 : decode cX7_talks 127 = .ok (.getfield 22, 3) := by decide +kernel
theorem dX7_talks_130 : decode cX7_talks 130 = .ok (.iconst 3, 1) := by decide +kernel
theorem dX7_talks_131 : decode cX7_talks 131 = .ok (.iload 9, 2) := by decide +kernel
theorem dX7_talks_133 : decode cX7_talks 133 = .ok (.imul, 1) := by decide +kernel
theorem dX7_talks_134 : decode cX7_talks 134 = .ok (.iconst 2, 1) := by decide +kernel
theorem dX7_talks_135 : decode cX7_talks 135 = .ok (.iadd, 1) := by decide +kernel
theorem dX7_talks_136 : decode cX7_talks 136 = .ok (.dup2, 1) := by decide +kernel
theorem dX7_talks_137 : decode cX7_talks 137 = .ok (.iaload, 1) := by decide +kernel
theorem dX7_talks_138 : decode cX7_talks 138 = .ok (.iconst 1, 1) := by decide +kernel
theorem dX7_talks_139 : decode cX7_talks 139 = .ok (.iload 10, 2) := by decide +kernel
theorem dX7_talks_141 : decode cX7_talks 141 = .ok (.ishl, 1) := by decide +kernel
theorem dX7_talks_142 : decode cX7_talks 142 = .ok (.ior, 1) := by decide +kernel
theorem dX7_talks_143 : decode cX7_talks 143 = .ok (.iastore, 1) := by decide +kernel
theorem dX7_talks_144 : decode cX7_talks 144 = .ok (.iinc 4 1, 3) := by decide +kernel
theorem dX7_talks_147 : decode cX7_talks 147 = .ok (.iload 5, 2) := by decide +kernel
theorem dX7_talks_149 : decode cX7_talks 149 = .ok (.iload 10, 2) := by decide +kernel
theorem dX7_talks_151 : decode cX7_talks 151 = .ok (.aload_n 0, 1) := by decide +kernel
theorem dX7_talks_152 : decode cX7_talks 152 = .ok (.getfield 22, 3) := by decide +kernel
theorem dX7_talks_155 : decode cX7_talks 155 = .ok (.iconst 3, 1) := by decide +kernel
theorem dX7_talks_156 : decode cX7_talks 156 = .ok (.iload 7, 2) := by decide +kernel
theorem dX7_talks_158 : decode cX7_talks 158 = .ok (.imul, 1) := by decide +kernel
theorem dX7_talks_159 : decode cX7_talks 159 = .ok (.iconst 1, 1) := by decide +kernel
theorem dX7_talks_160 : decode cX7_talks 160 = .ok (.iadd, 1) := by decide +kernel
theorem dX7_talks_161 : decode cX7_talks 161 = .ok (.iaload, 1) := by decide +kernel
theorem dX7_talks_162 : decode cX7_talks 162 = .ok (.if_icmp .ne 7, 3) := by decide +kernel
theorem dX7_talks_165 : decode cX7_talks 165 = .ok (.iconst 1, 1) := by decide +kernel
theorem dX7_talks_166 : decode cX7_talks 166 = .ok (.goto 4, 3) := by decide +kernel
theorem dX7_talks_169 : decode cX7_talks 169 = .ok (.iconst 0, 1) := by decide +kernel
theorem dX7_talks_170 : decode cX7_talks 170 = .ok (.iadd, 1) := by decide +kernel
theorem dX7_talks_171 : decode cX7_talks 171 = .ok (.istore 5, 2) := by decide +kernel
theorem dX7_talks_173 : decode cX7_talks 173 = .ok (.iinc 6 1, 3) := by decide +kernel
theorem dX7_talks_176 : decode cX7_talks 176 = .ok (.goto (-110), 3) := by decide +kernel
theorem dX7_talks_179 : decode cX7_talks 179 = .ok (.aload_n 0, 1) := by decide +kernel
theorem dX7_talks_180 : decode cX7_talks 180 = .ok (.getfield 40, 3) := by decide +kernel
theorem dX7_talks_183 : decode cX7_talks 183 = .ok (.aload_n 0, 1) := by decide +kernel
theorem dX7_talks_184 : decode cX7_talks 184 = .ok (.getfield 22, 3) := by decide +kernel
theorem dX7_talks_187 : decode cX7_talks 187 = .ok (.invokestatic 104, 3) := by decide +kernel
theorem dX7_talks_190 : decode cX7_talks 190 = .ok (.iload_n 3, 1) := by decide +kernel
theorem dX7_talks_191 : decode cX7_talks 191 = .ok (.ifCond .ne 8, 3) := by decide +kernel
theorem dX7_talks_194 : decode cX7_talks 194 = .ok (.iload 4, 2) := by decide +kernel
theorem dX7_talks_196 : decode cX7_talks 196 = .ok (.goto 17, 3) := by decide +kernel
theorem dX7_talks_199 : decode cX7_talks 199 = .ok (.iload_n 3, 1) := by decide +kernel
theorem dX7_talks_200 : decode cX7_talks 200 = .ok (.iconst 1, 1) := by decide +kernel
theorem dX7_talks_201 : decode cX7_talks 201 = .ok (.if_icmp .ne 8, 3) := by decide +kernel
theorem dX7_talks_204 : decode cX7_talks 204 = .ok (.iload 5, 2) := by decide +kernel
theorem dX7_talks_206 : decode cX7_talks 206 = .ok (.goto 7, 3) := by decide +kernel
theorem dX7_talks_209 : decode cX7_talks 209 = .ok (.aload_n 0, 1) := by decide +kernel
theorem dX7_talks_210 : decode cX7_talks 210 = .ok (.getfield 193, 3) := by decide +kernel
theorem dX7_talks_213 : decode cX7_talks 213 = .ok (.ireturn, 1) := by decide +kernel
theorem dX7_image_0 : decode cX7_image 0 = .ok (.aload_n 0, 1) := by decide +kernel
theorem dX7_image_1 : decode cX7_image 1 = .ok (.invokevirtual 120, 3) := by decide +kernel
theorem dX7_image_4 : decode cX7_image 4 = .ok (.ifCond .eq 6, 3) := by decide +kernel
theorem dX7_image_7 : decode cX7_image 7 = .ok (.bipush (-103), 2) := by decide +kernel
theorem dX7_image_9 : decode cX7_image 9 = .ok (.ireturn, 1) := by decide +kernel
theorem dX7_image_10 : decode cX7_image 10 = .ok (.aload_n 0, 1) := by decide +kernel
theorem dX7_image_11 : decode cX7_image 11 = .ok (.getfield 22, 3) := by decide +kernel
theorem dX7_image_14 : decode cX7_image 14 = .ok (.aload_n 0, 1) := by decide +kernel
theorem dX7_image_15 : decode cX7_image 15 = .ok (.getfield 43, 3) := by decide +kernel
theorem dX7_image_18 : decode cX7_image 18 = .ok (.invokestatic 104, 3) := by decide +kernel
theorem dX7_image_21 : decode cX7_image 21 = .ok (.aload_n 0, 1) := by decide +kernel
theorem dX7_image_22 : decode cX7_image 22 = .ok (.getfield 25, 3) := by decide +kernel
theorem dX7_image_25 : decode cX7_image 25 = .ok (.aload_n 0, 1) := by decide +kernel
theorem dX7_image_26 : decode cX7_image 26 = .ok (.getfield 46, 3) := by decide +kernel
theorem dX7_image_29 : decode cX7_image 29 = .ok (.invokestatic 104, 3) := by decide +kernel
theorem dX7_image_32 : decode cX7_image 32 = .ok (.aload_n 0, 1) := by decide +kernel
theorem dX7_image_33 : decode cX7_image 33 = .ok (.getfield 34, 3) := by decide +kernel
theorem dX7_image_36 : decode cX7_image 36 = .ok (.aload_n 0, 1) := by decide +kernel
theorem dX7_image_37 : decode cX7_image 37 = .ok (.getfield 49, 3) := by decide +kernel
theorem dX7_image_40 : decode cX7_image 40 = .ok (.invokestatic 104, 3) := by decide +kernel
theorem dX7_image_43 : decode cX7_image 43 = .ok (.aload_n 0, 1) := by decide +kernel
theorem dX7_image_44 : decode cX7_image 44 = .ok (.aload_n 0, 1) := by decide +kernel
theorem dX7_image_45 : decode cX7_image 45 = .ok (.getfield 111, 3) := by decide +kernel
theorem dX7_image_48 : decode cX7_image 48 = .ok (.putfield 208, 3) := by decide +kernel
theorem dX7_image_51 : decode cX7_image 51 = .ok (.aload_n 0, 1) := by decide +kernel
theorem dX7_image_52 : decode cX7_image 52 = .ok (.aload_n 0, 1) := by decide +kernel
theorem dX7_image_53 : decode cX7_image 53 = .ok (.getfield 108, 3) := by decide +kernel
theorem dX7_image_56 : decode cX7_image 56 = .ok (.putfield 211, 3) := by decide +kernel
theorem dX7_image_59 : decode cX7_image 59 = .ok (.aload_n 0, 1) := by decide +kernel
theorem dX7_image_60 : decode cX7_image 60 = .ok (.aload_n 0, 1) := by decide +kernel
theorem dX7_image_61 : decode cX7_image 61 = .ok (.getfield 114, 3) := by decide +kernel
theorem dX7_image_64 : decode cX7_image 64 = .ok (.putfield 214, 3) := by decide +kernel
theorem dX7_image_67 : decode cX7_image 67 = .ok (.aload_n 0, 1) := by decide +kernel
theorem dX7_image_68 : decode cX7_image 68 = .ok (.aload_n 0, 1) := by decide +kernel
theorem dX7_image_69 : decode cX7_image 69 = .ok (.getfield 117, 3) := by decide +kernel
theorem dX7_image_72 : decode cX7_image 72 = .ok (.putfield 52, 3) := by decide +kernel
theorem dX7_image_75 : decode cX7_image 75 = .ok (.aload_n 0, 1) := by decide +kernel
theorem dX7_image_76 : decode cX7_image 76 = .ok (.getfield 111, 3) := by decide +kernel
theorem dX7_image_79 : decode cX7_image 79 = .ok (.ireturn, 1) := by decide +kernel
theorem dX7_restore_0 : decode cX7_restore 0 = .ok (.aload_n 0, 1) := by decide +kernel
theorem dX7_restore_1 : decode cX7_restore 1 = .ok (.getfield 52, 3) := by decide +kernel
theorem dX7_restore_4 : decode cX7_restore 4 = .ok (.aload_n 0, 1) := by decide +kernel
theorem dX7_restore_5 : decode cX7_restore 5 = .ok (.getfield 117, 3) := by decide +kernel
theorem dX7_restore_8 : decode cX7_restore 8 = .ok (.if_icmp .eq 6, 3) := by decide +kernel
theorem dX7_restore_11 : decode cX7_restore 11 = .ok (.bipush (-103), 2) := by decide +kernel
theorem dX7_restore_13 : decode cX7_restore 13 = .ok (.ireturn, 1) := by decide +kernel
theorem dX7_restore_14 : decode cX7_restore 14 = .ok (.aload_n 0, 1) := by decide +kernel
theorem dX7_restore_15 : decode cX7_restore 15 = .ok (.getfield 43, 3) := by decide +kernel
theorem dX7_restore_18 : decode cX7_restore 18 = .ok (.aload_n 0, 1) := by decide +kernel
theorem dX7_restore_19 : decode cX7_restore 19 = .ok (.getfield 22, 3) := by decide +kernel
theorem dX7_restore_22 : decode cX7_restore 22 = .ok (.invokestatic 104, 3) := by decide +kernel
theorem dX7_restore_25 : decode cX7_restore 25 = .ok (.aload_n 0, 1) := by decide +kernel
theorem dX7_restore_26 : decode cX7_restore 26 = .ok (.getfield 46, 3) := by decide +kernel
theorem dX7_restore_29 : decode cX7_restore 29 = .ok (.aload_n 0, 1) := by decide +kernel
theorem dX7_restore_30 : decode cX7_restore 30 = .ok (.getfield 25, 3) := by decide +kernel
theorem dX7_restore_33 : decode cX7_restore 33 = .ok (.invokestatic 104, 3) := by decide +kernel
theorem dX7_restore_36 : decode cX7_restore 36 = .ok (.aload_n 0, 1) := by decide +kernel
theorem dX7_restore_37 : decode cX7_restore 37 = .ok (.getfield 49, 3) := by decide +kernel
theorem dX7_restore_40 : decode cX7_restore 40 = .ok (.aload_n 0, 1) := by decide +kernel
theorem dX7_restore_41 : decode cX7_restore 41 = .ok (.getfield 34, 3) := by decide +kernel
theorem dX7_restore_44 : decode cX7_restore 44 = .ok (.invokestatic 104, 3) := by decide +kernel
theorem dX7_restore_47 : decode cX7_restore 47 = .ok (.aload_n 0, 1) := by decide +kernel
theorem dX7_restore_48 : decode cX7_restore 48 = .ok (.aload_n 0, 1) := by decide +kernel
theorem dX7_restore_49 : decode cX7_restore 49 = .ok (.getfield 208, 3) := by decide +kernel
theorem dX7_restore_52 : decode cX7_restore 52 = .ok (.putfield 111, 3) := by decide +kernel
theorem dX7_restore_55 : decode cX7_restore 55 = .ok (.aload_n 0, 1) := by decide +kernel
theorem dX7_restore_56 : decode cX7_restore 56 = .ok (.aload_n 0, 1) := by decide +kernel
theorem dX7_restore_57 : decode cX7_restore 57 = .ok (.getfield 211, 3) := by decide +kernel
theorem dX7_restore_60 : decode cX7_restore 60 = .ok (.putfield 108, 3) := by decide +kernel
theorem dX7_restore_63 : decode cX7_restore 63 = .ok (.aload_n 0, 1) := by decide +kernel
theorem dX7_restore_64 : decode cX7_restore 64 = .ok (.aload_n 0, 1) := by decide +kernel
theorem dX7_restore_65 : decode cX7_restore 65 = .ok (.getfield 214, 3) := by decide +kernel
theorem dX7_restore_68 : decode cX7_restore 68 = .ok (.putfield 114, 3) := by decide +kernel
theorem dX7_restore_71 : decode cX7_restore 71 = .ok (.aload_n 0, 1) := by decide +kernel
theorem dX7_restore_72 : decode cX7_restore 72 = .ok (.getfield 111, 3) := by decide +kernel
theorem dX7_restore_75 : decode cX7_restore 75 = .ok (.ireturn, 1) := by decide +kernel
theorem dX7_wantedMany_0 : decode cX7_wantedMany 0 = .ok (.iconst 0, 1) := by decide +kernel
theorem dX7_wantedMany_1 : decode cX7_wantedMany 1 = .ok (.istore_n 1, 1) := by decide +kernel
theorem dX7_wantedMany_2 : decode cX7_wantedMany 2 = .ok (.iconst 0, 1) := by decide +kernel
theorem dX7_wantedMany_3 : decode cX7_wantedMany 3 = .ok (.istore_n 2, 1) := by decide +kernel
theorem dX7_wantedMany_4 : decode cX7_wantedMany 4 = .ok (.iload_n 2, 1) := by decide +kernel
theorem dX7_wantedMany_5 : decode cX7_wantedMany 5 = .ok (.aload_n 0, 1) := by decide +kernel
theorem dX7_wantedMany_6 : decode cX7_wantedMany 6 = .ok (.getfield 111, 3) := by decide +kernel
theorem dX7_wantedMany_9 : decode cX7_wantedMany 9 = .ok (.if_icmp .ge 25, 3) := by decide +kernel
theorem dX7_wantedMany_12 : decode cX7_wantedMany 12 = .ok (.iload_n 1, 1) := by decide +kernel
theorem dX7_wantedMany_13 : decode cX7_wantedMany 13 = .ok (.aload_n 0, 1) := by decide +kernel
theorem dX7_wantedMany_14 : decode cX7_wantedMany 14 = .ok (.iload_n 2, 1) := by decide +kernel
theorem dX7_wantedMany_15 : decode cX7_wantedMany 15 = .ok (.invokevirtual 169, 3) := by decide +kernel
theorem dX7_wantedMany_18 : decode cX7_wantedMany 18 = .ok (.ifCond .eq 7, 3) := by decide +kernel
theorem dX7_wantedMany_21 : decode cX7_wantedMany 21 = .ok (.iconst 1, 1) := by decide +kernel
theorem dX7_wantedMany_22 : decode cX7_wantedMany 22 = .ok (.goto 4, 3) := by decide +kernel
theorem dX7_wantedMany_25 : decode cX7_wantedMany 25 = .ok (.iconst 0, 1) := by decide +kernel
theorem dX7_wantedMany_26 : decode cX7_wantedMany 26 = .ok (.iadd, 1) := by decide +kernel
theorem dX7_wantedMany_27 : decode cX7_wantedMany 27 = .ok (.istore_n 1, 1) := by decide +kernel
theorem dX7_wantedMany_28 : decode cX7_wantedMany 28 = .ok (.iinc 2 1, 3) := by decide +kernel
theorem dX7_wantedMany_31 : decode cX7_wantedMany 31 = .ok (.goto (-27), 3) := by decide +kernel
theorem dX7_wantedMany_34 : decode cX7_wantedMany 34 = .ok (.iload_n 1, 1) := by decide +kernel
theorem dX7_wantedMany_35 : decode cX7_wantedMany 35 = .ok (.ireturn, 1) := by decide +kernel
theorem dX7_unlike_0 : decode cX7_unlike 0 = .ok (.iconst 0, 1) := by decide +kernel
theorem dX7_unlike_1 : decode cX7_unlike 1 = .ok (.istore_n 1, 1) := by decide +kernel
theorem dX7_unlike_2 : decode cX7_unlike 2 = .ok (.iconst 0, 1) := by decide +kernel
theorem dX7_unlike_3 : decode cX7_unlike 3 = .ok (.istore_n 2, 1) := by decide +kernel
theorem dX7_unlike_4 : decode cX7_unlike 4 = .ok (.iload_n 2, 1) := by decide +kernel
theorem dX7_unlike_5 : decode cX7_unlike 5 = .ok (.aload_n 0, 1) := by decide +kernel
theorem dX7_unlike_6 : decode cX7_unlike 6 = .ok (.getfield 111, 3) := by decide +kernel
theorem dX7_unlike_9 : decode cX7_unlike 9 = .ok (.if_icmp .ge 42, 3) := by decide +kernel
theorem dX7_unlike_12 : decode cX7_unlike 12 = .ok (.iload_n 1, 1) := by decide +kernel
theorem dX7_unlike_13 : decode cX7_unlike 13 = .ok (.aload_n 0, 1) := by decide +kernel
theorem dX7_unlike_14 : decode cX7_unlike 14 = .ok (.getfield 25, 3) := by decide +kernel
theorem dX7_unlike_17 : decode cX7_unlike 17 = .ok (.iconst 4, 1) := by decide +kernel
theorem dX7_unlike_18 : decode cX7_unlike 18 = .ok (.iload_n 2, 1) := by decide +kernel
theorem dX7_unlike_19 : decode cX7_unlike 19 = .ok (.imul, 1) := by decide +kernel
theorem dX7_unlike_20 : decode cX7_unlike 20 = .ok (.iconst 2, 1) := by decide +kernel
theorem dX7_unlike_21 : decode cX7_unlike 21 = .ok (.iadd, 1) := by decide +kernel
theorem dX7_unlike_22 : decode cX7_unlike 22 = .ok (.iaload, 1) := by decide +kernel
theorem dX7_unlike_23 : decode cX7_unlike 23 = .ok (.iconst (-1), 1) := by decide +kernel
theorem dX7_unlike_24 : decode cX7_unlike 24 = .ok (.if_icmp .ne 7, 3) := by decide +kernel
theorem dX7_unlike_27 : decode cX7_unlike 27 = .ok (.iconst 0, 1) := by decide +kernel
theorem dX7_unlike_28 : decode cX7_unlike 28 = .ok (.goto 15, 3) := by decide +kernel
theorem dX7_unlike_31 : decode cX7_unlike 31 = .ok (.iconst 1, 1) := by decide +kernel
theorem dX7_unlike_32 : decode cX7_unlike 32 = .ok (.aload_n 0, 1) := by decide +kernel
theorem dX7_unlike_33 : decode cX7_unlike 33 = .ok (.getfield 25, 3) := by decide +kernel
theorem dX7_unlike_36 : decode cX7_unlike 36 = .ok (.iconst 4, 1) := by decide +kernel
theorem dX7_unlike_37 : decode cX7_unlike 37 = .ok (.iload_n 2, 1) := by decide +kernel
theorem dX7_unlike_38 : decode cX7_unlike 38 = .ok (.imul, 1) := by decide +kernel
theorem dX7_unlike_39 : decode cX7_unlike 39 = .ok (.iconst 3, 1) := by decide +kernel
theorem dX7_unlike_40 : decode cX7_unlike 40 = .ok (.iadd, 1) := by decide +kernel
theorem dX7_unlike_41 : decode cX7_unlike 41 = .ok (.iaload, 1) := by decide +kernel
theorem dX7_unlike_42 : decode cX7_unlike 42 = .ok (.ishl, 1) := by decide +kernel
theorem dX7_unlike_43 : decode cX7_unlike 43 = .ok (.ior, 1) := by decide +kernel
theorem dX7_unlike_44 : decode cX7_unlike 44 = .ok (.istore_n 1, 1) := by decide +kernel
theorem dX7_unlike_45 : decode cX7_unlike 45 = .ok (.iinc 2 1, 3) := by decide +kernel
theorem dX7_unlike_48 : decode cX7_unlike 48 = .ok (.goto (-44), 3) := by decide +kernel
theorem dX7_unlike_51 : decode cX7_unlike 51 = .ok (.iload_n 1, 1) := by decide +kernel
theorem dX7_unlike_52 : decode cX7_unlike 52 = .ok (.invokestatic 217, 3) := by decide +kernel
theorem dX7_unlike_55 : decode cX7_unlike 55 = .ok (.ireturn, 1) := by decide +kernel
theorem dX7_countOf_0 : decode cX7_countOf 0 = .ok (.iload_n 1, 1) := by decide +kernel
theorem dX7_countOf_1 : decode cX7_countOf 1 = .ok (.tableswitch 98 0 8 #[51, 56, 61, 68, 73, 78, 83, 88, 93], 51) := by decide +kernel
theorem dX7_countOf_52 : decode cX7_countOf 52 = .ok (.aload_n 0, 1) := by decide +kernel
theorem dX7_countOf_53 : decode cX7_countOf 53 = .ok (.getfield 101, 3) := by decide +kernel
theorem dX7_countOf_56 : decode cX7_countOf 56 = .ok (.ireturn, 1) := by decide +kernel
theorem dX7_countOf_57 : decode cX7_countOf 57 = .ok (.aload_n 0, 1) := by decide +kernel
theorem dX7_countOf_58 : decode cX7_countOf 58 = .ok (.getfield 111, 3) := by decide +kernel
theorem dX7_countOf_61 : decode cX7_countOf 61 = .ok (.ireturn, 1) := by decide +kernel
theorem dX7_countOf_62 : decode cX7_countOf 62 = .ok (.aload_n 0, 1) := by decide +kernel
theorem dX7_countOf_63 : decode cX7_countOf 63 = .ok (.iconst 2, 1) := by decide +kernel
theorem dX7_countOf_64 : decode cX7_countOf 64 = .ok (.iconst (-1), 1) := by decide +kernel
theorem dX7_countOf_65 : decode cX7_countOf 65 = .ok (.invokevirtual 146, 3) := by decide +kernel
theorem dX7_countOf_68 : decode cX7_countOf 68 = .ok (.ireturn, 1) := by decide +kernel
theorem dX7_countOf_69 : decode cX7_countOf 69 = .ok (.aload_n 0, 1) := by decide +kernel
theorem dX7_countOf_70 : decode cX7_countOf 70 = .ok (.invokevirtual 220, 3) := by decide +kernel
theorem dX7_countOf_73 : decode cX7_countOf 73 = .ok (.ireturn, 1) := by decide +kernel
theorem dX7_countOf_74 : decode cX7_countOf 74 = .ok (.aload_n 0, 1) := by decide +kernel
theorem dX7_countOf_75 : decode cX7_countOf 75 = .ok (.invokevirtual 223, 3) := by decide +kernel
theorem dX7_countOf_78 : decode cX7_countOf 78 = .ok (.ireturn, 1) := by decide +kernel
theorem dX7_countOf_79 : decode cX7_countOf 79 = .ok (.aload_n 0, 1) := by decide +kernel
theorem dX7_countOf_80 : decode cX7_countOf 80 = .ok (.getfield 108, 3) := by decide +kernel
theorem dX7_countOf_83 : decode cX7_countOf 83 = .ok (.ireturn, 1) := by decide +kernel
theorem dX7_countOf_84 : decode cX7_countOf 84 = .ok (.aload_n 0, 1) := by decide +kernel
theorem dX7_countOf_85 : decode cX7_countOf 85 = .ok (.getfield 114, 3) := by decide +kernel
theorem dX7_countOf_88 : decode cX7_countOf 88 = .ok (.ireturn, 1) := by decide +kernel
theorem dX7_countOf_89 : decode cX7_countOf 89 = .ok (.aload_n 0, 1) := by decide +kernel
theorem dX7_countOf_90 : decode cX7_countOf 90 = .ok (.getfield 62, 3) := by decide +kernel
theorem dX7_countOf_93 : decode cX7_countOf 93 = .ok (.ireturn, 1) := by decide +kernel
theorem dX7_countOf_94 : decode cX7_countOf 94 = .ok (.aload_n 0, 1) := by decide +kernel
theorem dX7_countOf_95 : decode cX7_countOf 95 = .ok (.getfield 117, 3) := by decide +kernel
theorem dX7_countOf_98 : decode cX7_countOf 98 = .ok (.ireturn, 1) := by decide +kernel
theorem dX7_countOf_99 : decode cX7_countOf 99 = .ok (.bipush (-102), 2) := by decide +kernel
theorem dX7_countOf_101 : decode cX7_countOf 101 = .ok (.ireturn, 1) := by decide +kernel
theorem dX7_count_0 : decode cX7_count 0 = .ok (.aload_n 0, 1) := by decide +kernel
theorem dX7_count_1 : decode cX7_count 1 = .ok (.iload_n 1, 1) := by decide +kernel
theorem dX7_count_2 : decode cX7_count 2 = .ok (.invokevirtual 226, 3) := by decide +kernel
theorem dX7_count_5 : decode cX7_count 5 = .ok (.ireturn, 1) := by decide +kernel
theorem dX7_say_0 : decode cX7_say 0 = .ok (.aload_n 0, 1) := by decide +kernel
theorem dX7_say_1 : decode cX7_say 1 = .ok (.ldc2_w 229, 3) := by decide +kernel
theorem dX7_say_4 : decode cX7_say 4 = .ok (.aload_n 0, 1) := by decide +kernel
theorem dX7_say_5 : decode cX7_say 5 = .ok (.getfield 231, 3) := by decide +kernel
theorem dX7_say_8 : decode cX7_say 8 = .ok (.lmul, 1) := by decide +kernel
theorem dX7_say_9 : decode cX7_say 9 = .ok (.lload_n 1, 1) := by decide +kernel
theorem dX7_say_10 : decode cX7_say 10 = .ok (.ladd, 1) := by decide +kernel
theorem dX7_say_11 : decode cX7_say 11 = .ok (.putfield 231, 3) := by decide +kernel
theorem dX7_say_14 : decode cX7_say 14 = .ok (.return_, 1) := by decide +kernel
theorem dX7_saySpeaker_0 : decode cX7_saySpeaker 0 = .ok (.iconst 0, 1) := by decide +kernel
theorem dX7_saySpeaker_1 : decode cX7_saySpeaker 1 = .ok (.istore_n 2, 1) := by decide +kernel
theorem dX7_saySpeaker_2 : decode cX7_saySpeaker 2 = .ok (.iload_n 2, 1) := by decide +kernel
theorem dX7_saySpeaker_3 : decode cX7_saySpeaker 3 = .ok (.bipush 9, 2) := by decide +kernel
theorem dX7_saySpeaker_5 : decode cX7_saySpeaker 5 = .ok (.if_icmp .ge 20, 3) := by decide +kernel
theorem dX7_saySpeaker_8 : decode cX7_saySpeaker 8 = .ok (.aload_n 0, 1) := by decide +kernel
theorem dX7_saySpeaker_9 : decode cX7_saySpeaker 9 = .ok (.aload_n 0, 1) := by decide +kernel
theorem dX7_saySpeaker_10 : decode cX7_saySpeaker 10 = .ok (.iload_n 1, 1) := by decide +kernel
theorem dX7_saySpeaker_11 : decode cX7_saySpeaker 11 = .ok (.iload_n 2, 1) := by decide +kernel
theorem dX7_saySpeaker_12 : decode cX7_saySpeaker 12 = .ok (.invokevirtual 161, 3) := by decide +kernel
theorem dX7_saySpeaker_15 : decode cX7_saySpeaker 15 = .ok (.i2l, 1) := by decide +kernel
theorem dX7_saySpeaker_16 : decode cX7_saySpeaker 16 = .ok (.invokevirtual 235, 3) := by decide +kernel
theorem dX7_saySpeaker_19 : decode cX7_saySpeaker 19 = .ok (.iinc 2 1, 3) := by decide +kernel
theorem dX7_saySpeaker_22 : decode cX7_saySpeaker 22 = .ok (.goto (-20), 3) := by decide +kernel
theorem dX7_saySpeaker_25 : decode cX7_saySpeaker 25 = .ok (.iconst 0, 1) := by decide +kernel
theorem dX7_saySpeaker_26 : decode cX7_saySpeaker 26 = .ok (.istore_n 2, 1) := by decide +kernel
theorem dX7_saySpeaker_27 : decode cX7_saySpeaker 27 = .ok (.iload_n 2, 1) := by decide +kernel
theorem dX7_saySpeaker_28 : decode cX7_saySpeaker 28 = .ok (.iconst 4, 1) := by decide +kernel
theorem dX7_saySpeaker_29 : decode cX7_saySpeaker 29 = .ok (.if_icmp .ge 20, 3) := by decide +kernel
theorem dX7_saySpeaker_32 : decode cX7_saySpeaker 32 = .ok (.aload_n 0, 1) := by decide +kernel
theorem dX7_saySpeaker_33 : decode cX7_saySpeaker 33 = .ok (.aload_n 0, 1) := by decide +kernel
theorem dX7_saySpeaker_34 : decode cX7_saySpeaker 34 = .ok (.iload_n 1, 1) := by decide +kernel
theorem dX7_saySpeaker_35 : decode cX7_saySpeaker 35 = .ok (.iload_n 2, 1) := by decide +kernel
theorem dX7_saySpeaker_36 : decode cX7_saySpeaker 36 = .ok (.invokevirtual 139, 3) := by decide +kernel
theorem dX7_saySpeaker_39 : decode cX7_saySpeaker 39 = .ok (.i2l, 1) := by decide +kernel
theorem dX7_saySpeaker_40 : decode cX7_saySpeaker 40 = .ok (.invokevirtual 235, 3) := by decide +kernel
theorem dX7_saySpeaker_43 : decode cX7_saySpeaker 43 = .ok (.iinc 2 1, 3) := by decide +kernel
theorem dX7_saySpeaker_46 : decode cX7_saySpeaker 46 = .ok (.goto (-19), 3) := by decide +kernel
theorem dX7_saySpeaker_49 : decode cX7_saySpeaker 49 = .ok (.return_, 1) := by decide +kernel
theorem dX7_digest_0 : decode cX7_digest 0 = .ok (.aload_n 0, 1) := by decide +kernel
theorem dX7_digest_1 : decode cX7_digest 1 = .ok (.ldc2_w 239, 3) := by decide +kernel
theorem dX7_digest_4 : decode cX7_digest 4 = .ok (.putfield 231, 3) := by decide +kernel
theorem dX7_digest_7 : decode cX7_digest 7 = .ok (.iconst 0, 1) := by decide +kernel
theorem dX7_digest_8 : decode cX7_digest 8 = .ok (.istore_n 1, 1) := by decide +kernel
theorem dX7_digest_9 : decode cX7_digest 9 = .ok (.iload_n 1, 1) := by decide +kernel
theorem dX7_digest_10 : decode cX7_digest 10 = .ok (.iconst 4, 1) := by decide +kernel
theorem dX7_digest_11 : decode cX7_digest 11 = .ok (.if_icmp .ge 27, 3) := by decide +kernel
theorem dX7_digest_14 : decode cX7_digest 14 = .ok (.aload_n 0, 1) := by decide +kernel
theorem dX7_digest_15 : decode cX7_digest 15 = .ok (.invokevirtual 120, 3) := by decide +kernel
theorem dX7_digest_18 : decode cX7_digest 18 = .ok (.ifCond .ne 20, 3) := by decide +kernel
theorem dX7_digest_21 : decode cX7_digest 21 = .ok (.aload_n 0, 1) := by decide +kernel
theorem dX7_digest_22 : decode cX7_digest 22 = .ok (.aload_n 0, 1) := by decide +kernel
theorem dX7_digest_23 : decode cX7_digest 23 = .ok (.getfield 19, 3) := by decide +kernel
theorem dX7_digest_26 : decode cX7_digest 26 = .ok (.iload_n 1, 1) := by decide +kernel
theorem dX7_digest_27 : decode cX7_digest 27 = .ok (.iaload, 1) := by decide +kernel
theorem dX7_digest_28 : decode cX7_digest 28 = .ok (.i2l, 1) := by decide +kernel
theorem dX7_digest_29 : decode cX7_digest 29 = .ok (.invokevirtual 235, 3) := by decide +kernel
theorem dX7_digest_32 : decode cX7_digest 32 = .ok (.iinc 1 1, 3) := by decide +kernel
theorem dX7_digest_35 : decode cX7_digest 35 = .ok (.goto (-26), 3) := by decide +kernel
theorem dX7_digest_38 : decode cX7_digest 38 = .ok (.iconst 0, 1) := by decide +kernel
theorem dX7_digest_39 : decode cX7_digest 39 = .ok (.istore_n 1, 1) := by decide +kernel
theorem dX7_digest_40 : decode cX7_digest 40 = .ok (.iload_n 1, 1) := by decide +kernel
theorem dX7_digest_41 : decode cX7_digest 41 = .ok (.aload_n 0, 1) := by decide +kernel
theorem dX7_digest_42 : decode cX7_digest 42 = .ok (.getfield 101, 3) := by decide +kernel
theorem dX7_digest_45 : decode cX7_digest 45 = .ok (.if_icmp .ge 14, 3) := by decide +kernel
theorem dX7_digest_48 : decode cX7_digest 48 = .ok (.aload_n 0, 1) := by decide +kernel
theorem dX7_digest_49 : decode cX7_digest 49 = .ok (.iload_n 1, 1) := by decide +kernel
theorem dX7_digest_50 : decode cX7_digest 50 = .ok (.invokevirtual 241, 3) := by decide +kernel
theorem dX7_digest_53 : decode cX7_digest 53 = .ok (.iinc 1 1, 3) := by decide +kernel
theorem dX7_digest_56 : decode cX7_digest 56 = .ok (.goto (-16), 3) := by decide +kernel
theorem dX7_digest_59 : decode cX7_digest 59 = .ok (.iconst 0, 1) := by decide +kernel
theorem dX7_digest_60 : decode cX7_digest 60 = .ok (.istore_n 1, 1) := by decide +kernel
theorem dX7_digest_61 : decode cX7_digest 61 = .ok (.iload_n 1, 1) := by decide +kernel
theorem dX7_digest_62 : decode cX7_digest 62 = .ok (.aload_n 0, 1) := by decide +kernel
theorem dX7_digest_63 : decode cX7_digest 63 = .ok (.getfield 111, 3) := by decide +kernel
theorem dX7_digest_66 : decode cX7_digest 66 = .ok (.if_icmp .ge 33, 3) := by decide +kernel
theorem dX7_digest_69 : decode cX7_digest 69 = .ok (.iconst 0, 1) := by decide +kernel
theorem dX7_digest_70 : decode cX7_digest 70 = .ok (.istore_n 2, 1) := by decide +kernel
theorem dX7_digest_71 : decode cX7_digest 71 = .ok (.iload_n 2, 1) := by decide +kernel
theorem dX7_digest_72 : decode cX7_digest 72 = .ok (.iconst 5, 1) := by decide +kernel
theorem dX7_digest_73 : decode cX7_digest 73 = .ok (.if_icmp .ge 20, 3) := by decide +kernel
theorem dX7_digest_76 : decode cX7_digest 76 = .ok (.aload_n 0, 1) := by decide +kernel
theorem dX7_digest_77 : decode cX7_digest 77 = .ok (.aload_n 0, 1) := by decide +kernel
theorem dX7_digest_78 : decode cX7_digest 78 = .ok (.iload_n 1, 1) := by decide +kernel
theorem dX7_digest_79 : decode cX7_digest 79 = .ok (.iload_n 2, 1) := by decide +kernel
theorem dX7_digest_80 : decode cX7_digest 80 = .ok (.invokevirtual 172, 3) := by decide +kernel
theorem dX7_digest_83 : decode cX7_digest 83 = .ok (.i2l, 1) := by decide +kernel
theorem dX7_digest_84 : decode cX7_digest 84 = .ok (.invokevirtual 235, 3) := by decide +kernel
theorem dX7_digest_87 : decode cX7_digest 87 = .ok (.iinc 2 1, 3) := by decide +kernel
theorem dX7_digest_90 : decode cX7_digest 90 = .ok (.goto (-19), 3) := by decide +kernel
theorem dX7_digest_93 : decode cX7_digest 93 = .ok (.iinc 1 1, 3) := by decide +kernel
theorem dX7_digest_96 : decode cX7_digest 96 = .ok (.goto (-35), 3) := by decide +kernel
theorem dX7_digest_99 : decode cX7_digest 99 = .ok (.aload_n 0, 1) := by decide +kernel
theorem dX7_digest_100 : decode cX7_digest 100 = .ok (.invokevirtual 120, 3) := by decide +kernel
theorem dX7_digest_103 : decode cX7_digest 103 = .ok (.ifCond .ne 38, 3) := by decide +kernel
theorem dX7_digest_106 : decode cX7_digest 106 = .ok (.aload_n 0, 1) := by decide +kernel
theorem dX7_digest_107 : decode cX7_digest 107 = .ok (.aload_n 0, 1) := by decide +kernel
theorem dX7_digest_108 : decode cX7_digest 108 = .ok (.iconst 0, 1) := by decide +kernel
theorem dX7_digest_109 : decode cX7_digest 109 = .ok (.invokevirtual 186, 3) := by decide +kernel
theorem dX7_digest_112 : decode cX7_digest 112 = .ok (.i2l, 1) := by decide +kernel
theorem dX7_digest_113 : decode cX7_digest 113 = .ok (.invokevirtual 235, 3) := by decide +kernel
theorem dX7_digest_116 : decode cX7_digest 116 = .ok (.bipush 10, 2) := by decide +kernel
theorem dX7_digest_118 : decode cX7_digest 118 = .ok (.istore_n 1, 1) := by decide +kernel
theorem dX7_digest_119 : decode cX7_digest 119 = .ok (.iload_n 1, 1) := by decide +kernel
theorem dX7_digest_120 : decode cX7_digest 120 = .ok (.bipush 14, 2) := by decide +kernel
theorem dX7_digest_122 : decode cX7_digest 122 = .ok (.if_icmp .ge 19, 3) := by decide +kernel
theorem dX7_digest_125 : decode cX7_digest 125 = .ok (.aload_n 0, 1) := by decide +kernel
theorem dX7_digest_126 : decode cX7_digest 126 = .ok (.aload_n 0, 1) := by decide +kernel
theorem dX7_digest_127 : decode cX7_digest 127 = .ok (.iload_n 1, 1) := by decide +kernel
theorem dX7_digest_128 : decode cX7_digest 128 = .ok (.invokevirtual 186, 3) := by decide +kernel
theorem dX7_digest_131 : decode cX7_digest 131 = .ok (.i2l, 1) := by decide +kernel
theorem dX7_digest_132 : decode cX7_digest 132 = .ok (.invokevirtual 235, 3) := by decide +kernel
theorem dX7_digest_135 : decode cX7_digest 135 = .ok (.iinc 1 1, 3) := by decide +kernel
theorem dX7_digest_138 : decode cX7_digest 138 = .ok (.goto (-19), 3) := by decide +kernel
theorem dX7_digest_141 : decode cX7_digest 141 = .ok (.iconst 0, 1) := by decide +kernel
theorem dX7_digest_142 : decode cX7_digest 142 = .ok (.istore_n 1, 1) := by decide +kernel
theorem dX7_digest_143 : decode cX7_digest 143 = .ok (.iload_n 1, 1) := by decide +kernel
theorem dX7_digest_144 : decode cX7_digest 144 = .ok (.aload_n 0, 1) := by decide +kernel
theorem dX7_digest_145 : decode cX7_digest 145 = .ok (.getfield 62, 3) := by decide +kernel
theorem dX7_digest_148 : decode cX7_digest 148 = .ok (.if_icmp .ge 20, 3) := by decide +kernel
theorem dX7_digest_151 : decode cX7_digest 151 = .ok (.aload_n 0, 1) := by decide +kernel
theorem dX7_digest_152 : decode cX7_digest 152 = .ok (.aload_n 0, 1) := by decide +kernel
theorem dX7_digest_153 : decode cX7_digest 153 = .ok (.getfield 7, 3) := by decide +kernel
theorem dX7_digest_156 : decode cX7_digest 156 = .ok (.iload_n 1, 1) := by decide +kernel
theorem dX7_digest_157 : decode cX7_digest 157 = .ok (.iaload, 1) := by decide +kernel
theorem dX7_digest_158 : decode cX7_digest 158 = .ok (.i2l, 1) := by decide +kernel
theorem dX7_digest_159 : decode cX7_digest 159 = .ok (.invokevirtual 235, 3) := by decide +kernel
theorem dX7_digest_162 : decode cX7_digest 162 = .ok (.iinc 1 1, 3) := by decide +kernel
theorem dX7_digest_165 : decode cX7_digest 165 = .ok (.goto (-22), 3) := by decide +kernel
theorem dX7_digest_168 : decode cX7_digest 168 = .ok (.iconst 0, 1) := by decide +kernel
theorem dX7_digest_169 : decode cX7_digest 169 = .ok (.istore_n 1, 1) := by decide +kernel
theorem dX7_digest_170 : decode cX7_digest 170 = .ok (.iload_n 1, 1) := by decide +kernel
theorem dX7_digest_171 : decode cX7_digest 171 = .ok (.bipush 9, 2) := by decide +kernel
theorem dX7_digest_173 : decode cX7_digest 173 = .ok (.if_icmp .ge 19, 3) := by decide +kernel
theorem dX7_digest_176 : decode cX7_digest 176 = .ok (.aload_n 0, 1) := by decide +kernel
theorem dX7_digest_177 : decode cX7_digest 177 = .ok (.aload_n 0, 1) := by decide +kernel
theorem dX7_digest_178 : decode cX7_digest 178 = .ok (.iload_n 1, 1) := by decide +kernel
theorem dX7_digest_179 : decode cX7_digest 179 = .ok (.invokevirtual 226, 3) := by decide +kernel
theorem dX7_digest_182 : decode cX7_digest 182 = .ok (.i2l, 1) := by decide +kernel
theorem dX7_digest_183 : decode cX7_digest 183 = .ok (.invokevirtual 235, 3) := by decide +kernel
theorem dX7_digest_186 : decode cX7_digest 186 = .ok (.iinc 1 1, 3) := by decide +kernel
theorem dX7_digest_189 : decode cX7_digest 189 = .ok (.goto (-19), 3) := by decide +kernel
theorem dX7_digest_192 : decode cX7_digest 192 = .ok (.aload_n 0, 1) := by decide +kernel
theorem dX7_digest_193 : decode cX7_digest 193 = .ok (.getfield 231, 3) := by decide +kernel
theorem dX7_digest_196 : decode cX7_digest 196 = .ok (.lreturn, 1) := by decide +kernel
theorem dJ11_isValidCodePoint_9a6ad_0 : decode cJ11_isValidCodePoint_9a6ad 0 = .ok (.iload_n 0, 1) := by decide +kernel
theorem dJ11_isValidCodePoint_9a6ad_1 : decode cJ11_isValidCodePoint_9a6ad 1 = .ok (.bipush 16, 2) := by decide +kernel
theorem dJ11_isValidCodePoint_9a6ad_3 : decode cJ11_isValidCodePoint_9a6ad 3 = .ok (.iushr, 1) := by decide +kernel
theorem dJ11_isValidCodePoint_9a6ad_4 : decode cJ11_isValidCodePoint_9a6ad 4 = .ok (.istore_n 1, 1) := by decide +kernel
theorem dJ11_isValidCodePoint_9a6ad_5 : decode cJ11_isValidCodePoint_9a6ad 5 = .ok (.iload_n 1, 1) := by decide +kernel
theorem dJ11_isValidCodePoint_9a6ad_6 : decode cJ11_isValidCodePoint_9a6ad 6 = .ok (.bipush 17, 2) := by decide +kernel
theorem dJ11_isValidCodePoint_9a6ad_8 : decode cJ11_isValidCodePoint_9a6ad 8 = .ok (.if_icmp .ge 7, 3) := by decide +kernel
theorem dJ11_isValidCodePoint_9a6ad_11 : decode cJ11_isValidCodePoint_9a6ad 11 = .ok (.iconst 1, 1) := by decide +kernel
theorem dJ11_isValidCodePoint_9a6ad_12 : decode cJ11_isValidCodePoint_9a6ad 12 = .ok (.goto 4, 3) := by decide +kernel
theorem dJ11_isValidCodePoint_9a6ad_15 : decode cJ11_isValidCodePoint_9a6ad 15 = .ok (.iconst 0, 1) := by decide +kernel
theorem dJ11_isValidCodePoint_9a6ad_16 : decode cJ11_isValidCodePoint_9a6ad 16 = .ok (.ireturn, 1) := by decide +kernel
theorem dJ11_highSurrogate_5068e_0 : decode cJ11_highSurrogate_5068e 0 = .ok (.iload_n 0, 1) := by decide +kernel
theorem dJ11_highSurrogate_5068e_1 : decode cJ11_highSurrogate_5068e 1 = .ok (.bipush 10, 2) := by decide +kernel
theorem dJ11_highSurrogate_5068e_3 : decode cJ11_highSurrogate_5068e 3 = .ok (.iushr, 1) := by decide +kernel
theorem dJ11_highSurrogate_5068e_4 : decode cJ11_highSurrogate_5068e 4 = .ok (.ldc 110, 2) := by decide +kernel
theorem dJ11_highSurrogate_5068e_6 : decode cJ11_highSurrogate_5068e 6 = .ok (.iadd, 1) := by decide +kernel
theorem dJ11_highSurrogate_5068e_7 : decode cJ11_highSurrogate_5068e 7 = .ok (.i2c, 1) := by decide +kernel
theorem dJ11_highSurrogate_5068e_8 : decode cJ11_highSurrogate_5068e 8 = .ok (.ireturn, 1) := by decide +kernel
theorem dJ11_lowSurrogate_5068e_0 : decode cJ11_lowSurrogate_5068e 0 = .ok (.iload_n 0, 1) := by decide +kernel
theorem dJ11_lowSurrogate_5068e_1 : decode cJ11_lowSurrogate_5068e 1 = .ok (.sipush 1023, 3) := by decide +kernel
theorem dJ11_lowSurrogate_5068e_4 : decode cJ11_lowSurrogate_5068e 4 = .ok (.iand, 1) := by decide +kernel
theorem dJ11_lowSurrogate_5068e_5 : decode cJ11_lowSurrogate_5068e 5 = .ok (.ldc 76, 2) := by decide +kernel
theorem dJ11_lowSurrogate_5068e_7 : decode cJ11_lowSurrogate_5068e 7 = .ok (.iadd, 1) := by decide +kernel
theorem dJ11_lowSurrogate_5068e_8 : decode cJ11_lowSurrogate_5068e 8 = .ok (.i2c, 1) := by decide +kernel
theorem dJ11_lowSurrogate_5068e_9 : decode cJ11_lowSurrogate_5068e 9 = .ok (.ireturn, 1) := by decide +kernel
theorem dJ6_bitCount_0f7a4_0 : decode cJ6_bitCount_0f7a4 0 = .ok (.iload_n 0, 1) := by decide +kernel
theorem dJ6_bitCount_0f7a4_1 : decode cJ6_bitCount_0f7a4 1 = .ok (.iload_n 0, 1) := by decide +kernel
theorem dJ6_bitCount_0f7a4_2 : decode cJ6_bitCount_0f7a4 2 = .ok (.iconst 1, 1) := by decide +kernel
theorem dJ6_bitCount_0f7a4_3 : decode cJ6_bitCount_0f7a4 3 = .ok (.iushr, 1) := by decide +kernel
theorem dJ6_bitCount_0f7a4_4 : decode cJ6_bitCount_0f7a4 4 = .ok (.ldc_w 265, 3) := by decide +kernel
theorem dJ6_bitCount_0f7a4_7 : decode cJ6_bitCount_0f7a4 7 = .ok (.iand, 1) := by decide +kernel
theorem dJ6_bitCount_0f7a4_8 : decode cJ6_bitCount_0f7a4 8 = .ok (.isub, 1) := by decide +kernel
theorem dJ6_bitCount_0f7a4_9 : decode cJ6_bitCount_0f7a4 9 = .ok (.istore_n 0, 1) := by decide +kernel
theorem dJ6_bitCount_0f7a4_10 : decode cJ6_bitCount_0f7a4 10 = .ok (.iload_n 0, 1) := by decide +kernel
theorem dJ6_bitCount_0f7a4_11 : decode cJ6_bitCount_0f7a4 11 = .ok (.ldc_w 266, 3) := by decide +kernel
theorem dJ6_bitCount_0f7a4_14 : decode cJ6_bitCount_0f7a4 14 = .ok (.iand, 1) := by decide +kernel
theorem dJ6_bitCount_0f7a4_15 : decode cJ6_bitCount_0f7a4 15 = .ok (.iload_n 0, 1) := by decide +kernel
theorem dJ6_bitCount_0f7a4_16 : decode cJ6_bitCount_0f7a4 16 = .ok (.iconst 2, 1) := by decide +kernel
theorem dJ6_bitCount_0f7a4_17 : decode cJ6_bitCount_0f7a4 17 = .ok (.iushr, 1) := by decide +kernel
theorem dJ6_bitCount_0f7a4_18 : decode cJ6_bitCount_0f7a4 18 = .ok (.ldc_w 266, 3) := by decide +kernel
theorem dJ6_bitCount_0f7a4_21 : decode cJ6_bitCount_0f7a4 21 = .ok (.iand, 1) := by decide +kernel
theorem dJ6_bitCount_0f7a4_22 : decode cJ6_bitCount_0f7a4 22 = .ok (.iadd, 1) := by decide +kernel
theorem dJ6_bitCount_0f7a4_23 : decode cJ6_bitCount_0f7a4 23 = .ok (.istore_n 0, 1) := by decide +kernel
theorem dJ6_bitCount_0f7a4_24 : decode cJ6_bitCount_0f7a4 24 = .ok (.iload_n 0, 1) := by decide +kernel
theorem dJ6_bitCount_0f7a4_25 : decode cJ6_bitCount_0f7a4 25 = .ok (.iload_n 0, 1) := by decide +kernel
theorem dJ6_bitCount_0f7a4_26 : decode cJ6_bitCount_0f7a4 26 = .ok (.iconst 4, 1) := by decide +kernel
theorem dJ6_bitCount_0f7a4_27 : decode cJ6_bitCount_0f7a4 27 = .ok (.iushr, 1) := by decide +kernel
theorem dJ6_bitCount_0f7a4_28 : decode cJ6_bitCount_0f7a4 28 = .ok (.iadd, 1) := by decide +kernel
theorem dJ6_bitCount_0f7a4_29 : decode cJ6_bitCount_0f7a4 29 = .ok (.ldc_w 267, 3) := by decide +kernel
theorem dJ6_bitCount_0f7a4_32 : decode cJ6_bitCount_0f7a4 32 = .ok (.iand, 1) := by decide +kernel
theorem dJ6_bitCount_0f7a4_33 : decode cJ6_bitCount_0f7a4 33 = .ok (.istore_n 0, 1) := by decide +kernel
theorem dJ6_bitCount_0f7a4_34 : decode cJ6_bitCount_0f7a4 34 = .ok (.iload_n 0, 1) := by decide +kernel
theorem dJ6_bitCount_0f7a4_35 : decode cJ6_bitCount_0f7a4 35 = .ok (.iload_n 0, 1) := by decide +kernel
theorem dJ6_bitCount_0f7a4_36 : decode cJ6_bitCount_0f7a4 36 = .ok (.bipush 8, 2) := by decide +kernel
theorem dJ6_bitCount_0f7a4_38 : decode cJ6_bitCount_0f7a4 38 = .ok (.iushr, 1) := by decide +kernel
theorem dJ6_bitCount_0f7a4_39 : decode cJ6_bitCount_0f7a4 39 = .ok (.iadd, 1) := by decide +kernel
theorem dJ6_bitCount_0f7a4_40 : decode cJ6_bitCount_0f7a4 40 = .ok (.istore_n 0, 1) := by decide +kernel
theorem dJ6_bitCount_0f7a4_41 : decode cJ6_bitCount_0f7a4 41 = .ok (.iload_n 0, 1) := by decide +kernel
theorem dJ6_bitCount_0f7a4_42 : decode cJ6_bitCount_0f7a4 42 = .ok (.iload_n 0, 1) := by decide +kernel
theorem dJ6_bitCount_0f7a4_43 : decode cJ6_bitCount_0f7a4 43 = .ok (.bipush 16, 2) := by decide +kernel
theorem dJ6_bitCount_0f7a4_45 : decode cJ6_bitCount_0f7a4 45 = .ok (.iushr, 1) := by decide +kernel
theorem dJ6_bitCount_0f7a4_46 : decode cJ6_bitCount_0f7a4 46 = .ok (.iadd, 1) := by decide +kernel
theorem dJ6_bitCount_0f7a4_47 : decode cJ6_bitCount_0f7a4 47 = .ok (.istore_n 0, 1) := by decide +kernel
theorem dJ6_bitCount_0f7a4_48 : decode cJ6_bitCount_0f7a4 48 = .ok (.iload_n 0, 1) := by decide +kernel
theorem dJ6_bitCount_0f7a4_49 : decode cJ6_bitCount_0f7a4 49 = .ok (.bipush 63, 2) := by decide +kernel
theorem dJ6_bitCount_0f7a4_51 : decode cJ6_bitCount_0f7a4 51 = .ok (.iand, 1) := by decide +kernel
theorem dJ6_bitCount_0f7a4_52 : decode cJ6_bitCount_0f7a4 52 = .ok (.ireturn, 1) := by decide +kernel
theorem dJ9_max_7cf53_0 : decode cJ9_max_7cf53 0 = .ok (.iload_n 0, 1) := by decide +kernel
theorem dJ9_max_7cf53_1 : decode cJ9_max_7cf53 1 = .ok (.iload_n 1, 1) := by decide +kernel
theorem dJ9_max_7cf53_2 : decode cJ9_max_7cf53 2 = .ok (.if_icmp .lt 7, 3) := by decide +kernel
theorem dJ9_max_7cf53_5 : decode cJ9_max_7cf53 5 = .ok (.iload_n 0, 1) := by decide +kernel
theorem dJ9_max_7cf53_6 : decode cJ9_max_7cf53 6 = .ok (.goto 4, 3) := by decide +kernel
theorem dJ9_max_7cf53_9 : decode cJ9_max_7cf53 9 = .ok (.iload_n 1, 1) := by decide +kernel
theorem dJ9_max_7cf53_10 : decode cJ9_max_7cf53 10 = .ok (.ireturn, 1) := by decide +kernel
theorem dJ9_min_7cf53_0 : decode cJ9_min_7cf53 0 = .ok (.iload_n 0, 1) := by decide +kernel
theorem dJ9_min_7cf53_1 : decode cJ9_min_7cf53 1 = .ok (.iload_n 1, 1) := by decide +kernel
theorem dJ9_min_7cf53_2 : decode cJ9_min_7cf53 2 = .ok (.if_icmp .gt 7, 3) := by decide +kernel
theorem dJ9_min_7cf53_5 : decode cJ9_min_7cf53 5 = .ok (.iload_n 0, 1) := by decide +kernel
theorem dJ9_min_7cf53_6 : decode cJ9_min_7cf53 6 = .ok (.goto 4, 3) := by decide +kernel
theorem dJ9_min_7cf53_9 : decode cJ9_min_7cf53 9 = .ok (.iload_n 1, 1) := by decide +kernel
theorem dJ9_min_7cf53_10 : decode cJ9_min_7cf53 10 = .ok (.ireturn, 1) := by decide +kernel
theorem dJ0_length_8abf5_0 : decode cJ0_length_8abf5 0 = .ok (.aload_n 0, 1) := by decide +kernel
theorem dJ0_length_8abf5_1 : decode cJ0_length_8abf5 1 = .ok (.getfield 9, 3) := by decide +kernel
theorem dJ0_length_8abf5_4 : decode cJ0_length_8abf5 4 = .ok (.arraylength, 1) := by decide +kernel
theorem dJ0_length_8abf5_5 : decode cJ0_length_8abf5 5 = .ok (.aload_n 0, 1) := by decide +kernel
theorem dJ0_length_8abf5_6 : decode cJ0_length_8abf5 6 = .ok (.invokevirtual 335, 3) := by decide +kernel
theorem dJ0_length_8abf5_9 : decode cJ0_length_8abf5 9 = .ok (.ishr, 1) := by decide +kernel
theorem dJ0_length_8abf5_10 : decode cJ0_length_8abf5 10 = .ok (.ireturn, 1) := by decide +kernel
theorem dJ0_indexOf_0f7a4_0 : decode cJ0_indexOf_0f7a4 0 = .ok (.aload_n 0, 1) := by decide +kernel
theorem dJ0_indexOf_0f7a4_1 : decode cJ0_indexOf_0f7a4 1 = .ok (.iload_n 1, 1) := by decide +kernel
theorem dJ0_indexOf_0f7a4_2 : decode cJ0_indexOf_0f7a4 2 = .ok (.iconst 0, 1) := by decide +kernel
theorem dJ0_indexOf_0f7a4_3 : decode cJ0_indexOf_0f7a4 3 = .ok (.invokevirtual 633, 3) := by decide +kernel
theorem dJ0_indexOf_0f7a4_6 : decode cJ0_indexOf_0f7a4 6 = .ok (.ireturn, 1) := by decide +kernel
theorem dJ0_indexOf_7cf53_0 : decode cJ0_indexOf_7cf53 0 = .ok (.aload_n 0, 1) := by decide +kernel
theorem dJ0_indexOf_7cf53_1 : decode cJ0_indexOf_7cf53 1 = .ok (.invokevirtual 492, 3) := by decide +kernel
theorem dJ0_indexOf_7cf53_4 : decode cJ0_indexOf_7cf53 4 = .ok (.ifCond .eq 19, 3) := by decide +kernel
theorem dJ0_indexOf_7cf53_7 : decode cJ0_indexOf_7cf53 7 = .ok (.aload_n 0, 1) := by decide +kernel
theorem dJ0_indexOf_7cf53_8 : decode cJ0_indexOf_7cf53 8 = .ok (.getfield 9, 3) := by decide +kernel
theorem dJ0_indexOf_7cf53_11 : decode cJ0_indexOf_7cf53 11 = .ok (.iload_n 1, 1) := by decide +kernel
theorem dJ0_indexOf_7cf53_12 : decode cJ0_indexOf_7cf53 12 = .ok (.iload_n 2, 1) := by decide +kernel
theorem dJ0_indexOf_7cf53_13 : decode cJ0_indexOf_7cf53 13 = .ok (.aload_n 0, 1) := by decide +kernel
theorem dJ0_indexOf_7cf53_14 : decode cJ0_indexOf_7cf53 14 = .ok (.invokevirtual 505, 3) := by decide +kernel
theorem dJ0_indexOf_7cf53_17 : decode cJ0_indexOf_7cf53 17 = .ok (.invokestatic 637, 3) := by decide +kernel
theorem dJ0_indexOf_7cf53_20 : decode cJ0_indexOf_7cf53 20 = .ok (.goto 16, 3) := by decide +kernel
theorem dJ0_indexOf_7cf53_23 : decode cJ0_indexOf_7cf53 23 = .ok (.aload_n 0, 1) := by decide +kernel
theorem dJ0_indexOf_7cf53_24 : decode cJ0_indexOf_7cf53 24 = .ok (.getfield 9, 3) := by decide +kernel
theorem dJ0_indexOf_7cf53_27 : decode cJ0_indexOf_7cf53 27 = .ok (.iload_n 1, 1) := by decide +kernel
theorem dJ0_indexOf_7cf53_28 : decode cJ0_indexOf_7cf53 28 = .ok (.iload_n 2, 1) := by decide +kernel
theorem dJ0_indexOf_7cf53_29 : decode cJ0_indexOf_7cf53 29 = .ok (.aload_n 0, 1) := by decide +kernel
theorem dJ0_indexOf_7cf53_30 : decode cJ0_indexOf_7cf53 30 = .ok (.invokevirtual 505, 3) := by decide +kernel
theorem dJ0_indexOf_7cf53_33 : decode cJ0_indexOf_7cf53 33 = .ok (.invokestatic 640, 3) := by decide +kernel
theorem dJ0_indexOf_7cf53_36 : decode cJ0_indexOf_7cf53 36 = .ok (.ireturn, 1) := by decide +kernel
theorem dJ0_coder_7d493_0 : decode cJ0_coder_7d493 0 = .ok (.getstatic 38, 3) := by decide +kernel
theorem dJ0_coder_7d493_3 : decode cJ0_coder_7d493 3 = .ok (.ifCond .eq 10, 3) := by decide +kernel
theorem dJ0_coder_7d493_6 : decode cJ0_coder_7d493 6 = .ok (.aload_n 0, 1) := by decide +kernel
theorem dJ0_coder_7d493_7 : decode cJ0_coder_7d493 7 = .ok (.getfield 15, 3) := by decide +kernel
theorem dJ0_coder_7d493_10 : decode cJ0_coder_7d493 10 = .ok (.goto 4, 3) := by decide +kernel
theorem dJ0_coder_7d493_13 : decode cJ0_coder_7d493 13 = .ok (.iconst 1, 1) := by decide +kernel
theorem dJ0_coder_7d493_14 : decode cJ0_coder_7d493 14 = .ok (.ireturn, 1) := by decide +kernel
theorem dJ0_isLatin1_aae02_0 : decode cJ0_isLatin1_aae02 0 = .ok (.getstatic 38, 3) := by decide +kernel
theorem dJ0_isLatin1_aae02_3 : decode cJ0_isLatin1_aae02 3 = .ok (.ifCond .eq 14, 3) := by decide +kernel
theorem dJ0_isLatin1_aae02_6 : decode cJ0_isLatin1_aae02 6 = .ok (.aload_n 0, 1) := by decide +kernel
theorem dJ0_isLatin1_aae02_7 : decode cJ0_isLatin1_aae02 7 = .ok (.getfield 15, 3) := by decide +kernel
theorem dJ0_isLatin1_aae02_10 : decode cJ0_isLatin1_aae02 10 = .ok (.ifCond .ne 7, 3) := by decide +kernel
theorem dJ0_isLatin1_aae02_13 : decode cJ0_isLatin1_aae02 13 = .ok (.iconst 1, 1) := by decide +kernel
theorem dJ0_isLatin1_aae02_14 : decode cJ0_isLatin1_aae02 14 = .ok (.goto 4, 3) := by decide +kernel
theorem dJ0_isLatin1_aae02_17 : decode cJ0_isLatin1_aae02 17 = .ok (.iconst 0, 1) := by decide +kernel
theorem dJ0_isLatin1_aae02_18 : decode cJ0_isLatin1_aae02 18 = .ok (.ireturn, 1) := by decide +kernel
theorem dJ0_checkBoundsBeginEnd_23922_0 : decode cJ0_checkBoundsBeginEnd_23922 0 = .ok (.iload_n 0, 1) := by decide +kernel
theorem dJ0_checkBoundsBeginEnd_23922_1 : decode cJ0_checkBoundsBeginEnd_23922 1 = .ok (.iload_n 1, 1) := by decide +kernel
theorem dJ0_checkBoundsBeginEnd_23922_2 : decode cJ0_checkBoundsBeginEnd_23922 2 = .ok (.iload_n 2, 1) := by decide +kernel
theorem dJ0_checkBoundsBeginEnd_23922_3 : decode cJ0_checkBoundsBeginEnd_23922 3 = .ok (.getstatic 1053, 3) := by decide +kernel
theorem dJ0_checkBoundsBeginEnd_23922_6 : decode cJ0_checkBoundsBeginEnd_23922 6 = .ok (.invokestatic 1062, 3) := by decide +kernel
theorem dJ0_checkBoundsBeginEnd_23922_9 : decode cJ0_checkBoundsBeginEnd_23922 9 = .ok (.pop, 1) := by decide +kernel
theorem dJ0_checkBoundsBeginEnd_23922_10 : decode cJ0_checkBoundsBeginEnd_23922 10 = .ok (.return_, 1) := by decide +kernel
theorem dJ1_canEncode_9a6ad_0 : decode cJ1_canEncode_9a6ad 0 = .ok (.iload_n 0, 1) := by decide +kernel
theorem dJ1_canEncode_9a6ad_1 : decode cJ1_canEncode_9a6ad 1 = .ok (.ifCond .lt 14, 3) := by decide +kernel
theorem dJ1_canEncode_9a6ad_4 : decode cJ1_canEncode_9a6ad 4 = .ok (.iload_n 0, 1) := by decide +kernel
theorem dJ1_canEncode_9a6ad_5 : decode cJ1_canEncode_9a6ad 5 = .ok (.sipush 255, 3) := by decide +kernel
theorem dJ1_canEncode_9a6ad_8 : decode cJ1_canEncode_9a6ad 8 = .ok (.if_icmp .gt 7, 3) := by decide +kernel
theorem dJ1_canEncode_9a6ad_11 : decode cJ1_canEncode_9a6ad 11 = .ok (.iconst 1, 1) := by decide +kernel
theorem dJ1_canEncode_9a6ad_12 : decode cJ1_canEncode_9a6ad 12 = .ok (.goto 4, 3) := by decide +kernel
theorem dJ1_canEncode_9a6ad_15 : decode cJ1_canEncode_9a6ad 15 = .ok (.iconst 0, 1) := by decide +kernel
theorem dJ1_canEncode_9a6ad_16 : decode cJ1_canEncode_9a6ad 16 = .ok (.ireturn, 1) := by decide +kernel
theorem dJ1_indexOf_4cfef_0 : decode cJ1_indexOf_4cfef 0 = .ok (.iload_n 1, 1) := by decide +kernel
theorem dJ1_indexOf_4cfef_1 : decode cJ1_indexOf_4cfef 1 = .ok (.invokestatic 88, 3) := by decide +kernel
theorem dJ1_indexOf_4cfef_4 : decode cJ1_indexOf_4cfef 4 = .ok (.ifCond .ne 5, 3) := by decide +kernel
theorem dJ1_indexOf_4cfef_7 : decode cJ1_indexOf_4cfef 7 = .ok (.iconst (-1), 1) := by decide +kernel
theorem dJ1_indexOf_4cfef_8 : decode cJ1_indexOf_4cfef 8 = .ok (.ireturn, 1) := by decide +kernel
theorem dJ1_indexOf_4cfef_9 : decode cJ1_indexOf_4cfef 9 = .ok (.iload_n 2, 1) := by decide +kernel
theorem dJ1_indexOf_4cfef_10 : decode cJ1_indexOf_4cfef 10 = .ok (.iconst 0, 1) := by decide +kernel
theorem dJ1_indexOf_4cfef_11 : decode cJ1_indexOf_4cfef 11 = .ok (.invokestatic 92, 3) := by decide +kernel
theorem dJ1_indexOf_4cfef_14 : decode cJ1_indexOf_4cfef 14 = .ok (.istore_n 2, 1) := by decide +kernel
theorem dJ1_indexOf_4cfef_15 : decode cJ1_indexOf_4cfef 15 = .ok (.iload_n 3, 1) := by decide +kernel
theorem dJ1_indexOf_4cfef_16 : decode cJ1_indexOf_4cfef 16 = .ok (.aload_n 0, 1) := by decide +kernel
theorem dJ1_indexOf_4cfef_17 : decode cJ1_indexOf_4cfef 17 = .ok (.arraylength, 1) := by decide +kernel
theorem dJ1_indexOf_4cfef_18 : decode cJ1_indexOf_4cfef 18 = .ok (.invokestatic 38, 3) := by decide +kernel
theorem dJ1_indexOf_4cfef_21 : decode cJ1_indexOf_4cfef 21 = .ok (.istore_n 3, 1) := by decide +kernel
theorem dJ1_indexOf_4cfef_22 : decode cJ1_indexOf_4cfef 22 = .ok (.iload_n 2, 1) := by decide +kernel
theorem dJ1_indexOf_4cfef_23 : decode cJ1_indexOf_4cfef 23 = .ok (.iload_n 3, 1) := by decide +kernel
theorem dJ1_indexOf_4cfef_24 : decode cJ1_indexOf_4cfef 24 = .ok (.if_icmp .lt 5, 3) := by decide +kernel
theorem dJ1_indexOf_4cfef_27 : decode cJ1_indexOf_4cfef 27 = .ok (.iconst (-1), 1) := by decide +kernel
theorem dJ1_indexOf_4cfef_28 : decode cJ1_indexOf_4cfef 28 = .ok (.ireturn, 1) := by decide +kernel
theorem dJ1_indexOf_4cfef_29 : decode cJ1_indexOf_4cfef 29 = .ok (.aload_n 0, 1) := by decide +kernel
theorem dJ1_indexOf_4cfef_30 : decode cJ1_indexOf_4cfef 30 = .ok (.iload_n 1, 1) := by decide +kernel
theorem dJ1_indexOf_4cfef_31 : decode cJ1_indexOf_4cfef 31 = .ok (.iload_n 2, 1) := by decide +kernel
theorem dJ1_indexOf_4cfef_32 : decode cJ1_indexOf_4cfef 32 = .ok (.iload_n 3, 1) := by decide +kernel
theorem dJ1_indexOf_4cfef_33 : decode cJ1_indexOf_4cfef 33 = .ok (.invokestatic 95, 3) := by decide +kernel
theorem dJ1_indexOf_4cfef_36 : decode cJ1_indexOf_4cfef 36 = .ok (.ireturn, 1) := by decide +kernel
theorem dJ1_indexOfChar_4cfef_0 : decode cJ1_indexOfChar_4cfef 0 = .ok (.iload_n 1, 1) := by decide +kernel
theorem dJ1_indexOfChar_4cfef_1 : decode cJ1_indexOfChar_4cfef 1 = .ok (.i2b, 1) := by decide +kernel
theorem dJ1_indexOfChar_4cfef_2 : decode cJ1_indexOfChar_4cfef 2 = .ok (.istore 4, 2) := by decide +kernel
theorem dJ1_indexOfChar_4cfef_4 : decode cJ1_indexOfChar_4cfef 4 = .ok (.iload_n 2, 1) := by decide +kernel
theorem dJ1_indexOfChar_4cfef_5 : decode cJ1_indexOfChar_4cfef 5 = .ok (.istore 5, 2) := by decide +kernel
theorem dJ1_indexOfChar_4cfef_7 : decode cJ1_indexOfChar_4cfef 7 = .ok (.iload 5, 2) := by decide +kernel
theorem dJ1_indexOfChar_4cfef_9 : decode cJ1_indexOfChar_4cfef 9 = .ok (.iload_n 3, 1) := by decide +kernel
theorem dJ1_indexOfChar_4cfef_10 : decode cJ1_indexOfChar_4cfef 10 = .ok (.if_icmp .ge 21, 3) := by decide +kernel
theorem dJ1_indexOfChar_4cfef_13 : decode cJ1_indexOfChar_4cfef 13 = .ok (.aload_n 0, 1) := by decide +kernel
theorem dJ1_indexOfChar_4cfef_14 : decode cJ1_indexOfChar_4cfef 14 = .ok (.iload 5, 2) := by decide +kernel
theorem dJ1_indexOfChar_4cfef_16 : decode cJ1_indexOfChar_4cfef 16 = .ok (.baload, 1) := by decide +kernel
theorem dJ1_indexOfChar_4cfef_17 : decode cJ1_indexOfChar_4cfef 17 = .ok (.iload 4, 2) := by decide +kernel
theorem dJ1_indexOfChar_4cfef_19 : decode cJ1_indexOfChar_4cfef 19 = .ok (.if_icmp .ne 6, 3) := by decide +kernel
theorem dJ1_indexOfChar_4cfef_22 : decode cJ1_indexOfChar_4cfef 22 = .ok (.iload 5, 2) := by decide +kernel
theorem dJ1_indexOfChar_4cfef_24 : decode cJ1_indexOfChar_4cfef 24 = .ok (.ireturn, 1) := by decide +kernel
theorem dJ1_indexOfChar_4cfef_25 : decode cJ1_indexOfChar_4cfef 25 = .ok (.iinc 5 1, 3) := by decide +kernel
theorem dJ1_indexOfChar_4cfef_28 : decode cJ1_indexOfChar_4cfef 28 = .ok (.goto (-21), 3) := by decide +kernel
theorem dJ1_indexOfChar_4cfef_31 : decode cJ1_indexOfChar_4cfef 31 = .ok (.iconst (-1), 1) := by decide +kernel
theorem dJ1_indexOfChar_4cfef_32 : decode cJ1_indexOfChar_4cfef 32 = .ok (.ireturn, 1) := by decide +kernel
theorem dJ2_getChar_3b067_0 : decode cJ2_getChar_3b067 0 = .ok (.getstatic 44, 3) := by decide +kernel
theorem dJ2_getChar_3b067_3 : decode cJ2_getChar_3b067 3 = .ok (.ifCond .ne 25, 3) := by decide +kernel
theorem dJ2_getChar_3b067_6 : decode cJ2_getChar_3b067 6 = .ok (.iload_n 1, 1) := by decide +kernel
theorem dJ2_getChar_3b067_7 : decode cJ2_getChar_3b067 7 = .ok (.ifCond .lt 11, 3) := by decide +kernel
theorem dJ2_getChar_3b067_10 : decode cJ2_getChar_3b067 10 = .ok (.iload_n 1, 1) := by decide +kernel
theorem dJ2_getChar_3b067_11 : decode cJ2_getChar_3b067 11 = .ok (.aload_n 0, 1) := by decide +kernel
theorem dJ2_getChar_3b067_12 : decode cJ2_getChar_3b067 12 = .ok (.invokestatic 48, 3) := by decide +kernel
theorem dJ2_getChar_3b067_15 : decode cJ2_getChar_3b067 15 = .ok (.if_icmp .lt 13, 3) := by decide +kernel
theorem dJ2_getChar_3b067_18 : decode cJ2_getChar_3b067 18 = .ok (.new 52, 3) := by decide +kernel
theorem dJ2_getChar_3b067_21 : decode cJ2_getChar_3b067 21 = .ok (.dup, 1) := by decide +kernel
theorem dJ2_getChar_3b067_22 : decode cJ2_getChar_3b067 22 = .ok (.ldc 54, 2) := by decide +kernel
theorem dJ2_getChar_3b067_24 : decode cJ2_getChar_3b067 24 = .ok (.invokespecial 56, 3) := by decide +kernel
theorem dJ2_getChar_3b067_27 : decode cJ2_getChar_3b067 27 = .ok (.athrow, 1) := by decide +kernel
theorem dJ2_getChar_3b067_28 : decode cJ2_getChar_3b067 28 = .ok (.iload_n 1, 1) := by decide +kernel
theorem dJ2_getChar_3b067_29 : decode cJ2_getChar_3b067 29 = .ok (.iconst 1, 1) := by decide +kernel
theorem dJ2_getChar_3b067_30 : decode cJ2_getChar_3b067 30 = .ok (.ishl, 1) := by decide +kernel
theorem dJ2_getChar_3b067_31 : decode cJ2_getChar_3b067 31 = .ok (.istore_n 1, 1) := by decide +kernel
theorem dJ2_getChar_3b067_32 : decode cJ2_getChar_3b067 32 = .ok (.aload_n 0, 1) := by decide +kernel
theorem dJ2_getChar_3b067_33 : decode cJ2_getChar_3b067 33 = .ok (.iload_n 1, 1) := by decide +kernel
theorem dJ2_getChar_3b067_34 : decode cJ2_getChar_3b067 34 = .ok (.iinc 1 1, 3) := by decide +kernel
theorem dJ2_getChar_3b067_37 : decode cJ2_getChar_3b067 37 = .ok (.baload, 1) := by decide +kernel
theorem dJ2_getChar_3b067_38 : decode cJ2_getChar_3b067 38 = .ok (.sipush 255, 3) := by decide +kernel
theorem dJ2_getChar_3b067_41 : decode cJ2_getChar_3b067 41 = .ok (.iand, 1) := by decide +kernel
theorem dJ2_getChar_3b067_42 : decode cJ2_getChar_3b067 42 = .ok (.getstatic 59, 3) := by decide +kernel
theorem dJ2_getChar_3b067_45 : decode cJ2_getChar_3b067 45 = .ok (.ishl, 1) := by decide +kernel
theorem dJ2_getChar_3b067_46 : decode cJ2_getChar_3b067 46 = .ok (.aload_n 0, 1) := by decide +kernel
theorem dJ2_getChar_3b067_47 : decode cJ2_getChar_3b067 47 = .ok (.iload_n 1, 1) := by decide +kernel
theorem dJ2_getChar_3b067_48 : decode cJ2_getChar_3b067 48 = .ok (.baload, 1) := by decide +kernel
theorem dJ2_getChar_3b067_49 : decode cJ2_getChar_3b067 49 = .ok (.sipush 255, 3) := by decide +kernel
theorem dJ2_getChar_3b067_52 : decode cJ2_getChar_3b067 52 = .ok (.iand, 1) := by decide +kernel
theorem dJ2_getChar_3b067_53 : decode cJ2_getChar_3b067 53 = .ok (.getstatic 63, 3) := by decide +kernel
theorem dJ2_getChar_3b067_56 : decode cJ2_getChar_3b067 56 = .ok (.ishl, 1) := by decide +kernel
theorem dJ2_getChar_3b067_57 : decode cJ2_getChar_3b067 57 = .ok (.ior, 1) := by decide +kernel
theorem dJ2_getChar_3b067_58 : decode cJ2_getChar_3b067 58 = .ok (.i2c, 1) := by decide +kernel
theorem dJ2_getChar_3b067_59 : decode cJ2_getChar_3b067 59 = .ok (.ireturn, 1) := by decide +kernel
theorem dJ2_length_9d52b_0 : decode cJ2_length_9d52b 0 = .ok (.aload_n 0, 1) := by decide +kernel
theorem dJ2_length_9d52b_1 : decode cJ2_length_9d52b 1 = .ok (.arraylength, 1) := by decide +kernel
theorem dJ2_length_9d52b_2 : decode cJ2_length_9d52b 2 = .ok (.iconst 1, 1) := by decide +kernel
theorem dJ2_length_9d52b_3 : decode cJ2_length_9d52b 3 = .ok (.ishr, 1) := by decide +kernel
theorem dJ2_length_9d52b_4 : decode cJ2_length_9d52b 4 = .ok (.ireturn, 1) := by decide +kernel
theorem dJ2_indexOf_4cfef_0 : decode cJ2_indexOf_4cfef 0 = .ok (.iload_n 2, 1) := by decide +kernel
theorem dJ2_indexOf_4cfef_1 : decode cJ2_indexOf_4cfef 1 = .ok (.iconst 0, 1) := by decide +kernel
theorem dJ2_indexOf_4cfef_2 : decode cJ2_indexOf_4cfef 2 = .ok (.invokestatic 224, 3) := by decide +kernel
theorem dJ2_indexOf_4cfef_5 : decode cJ2_indexOf_4cfef 5 = .ok (.istore_n 2, 1) := by decide +kernel
theorem dJ2_indexOf_4cfef_6 : decode cJ2_indexOf_4cfef 6 = .ok (.iload_n 3, 1) := by decide +kernel
theorem dJ2_indexOf_4cfef_7 : decode cJ2_indexOf_4cfef 7 = .ok (.aload_n 0, 1) := by decide +kernel
theorem dJ2_indexOf_4cfef_8 : decode cJ2_indexOf_4cfef 8 = .ok (.arraylength, 1) := by decide +kernel
theorem dJ2_indexOf_4cfef_9 : decode cJ2_indexOf_4cfef 9 = .ok (.iconst 1, 1) := by decide +kernel
theorem dJ2_indexOf_4cfef_10 : decode cJ2_indexOf_4cfef 10 = .ok (.ishr, 1) := by decide +kernel
theorem dJ2_indexOf_4cfef_11 : decode cJ2_indexOf_4cfef 11 = .ok (.invokestatic 183, 3) := by decide +kernel
theorem dJ2_indexOf_4cfef_14 : decode cJ2_indexOf_4cfef 14 = .ok (.istore_n 3, 1) := by decide +kernel
theorem dJ2_indexOf_4cfef_15 : decode cJ2_indexOf_4cfef 15 = .ok (.iload_n 2, 1) := by decide +kernel
theorem dJ2_indexOf_4cfef_16 : decode cJ2_indexOf_4cfef 16 = .ok (.iload_n 3, 1) := by decide +kernel
theorem dJ2_indexOf_4cfef_17 : decode cJ2_indexOf_4cfef 17 = .ok (.if_icmp .lt 5, 3) := by decide +kernel
theorem dJ2_indexOf_4cfef_20 : decode cJ2_indexOf_4cfef 20 = .ok (.iconst (-1), 1) := by decide +kernel
theorem dJ2_indexOf_4cfef_21 : decode cJ2_indexOf_4cfef 21 = .ok (.ireturn, 1) := by decide +kernel
theorem dJ2_indexOf_4cfef_22 : decode cJ2_indexOf_4cfef 22 = .ok (.iload_n 1, 1) := by decide +kernel
theorem dJ2_indexOf_4cfef_23 : decode cJ2_indexOf_4cfef 23 = .ok (.ldc 227, 2) := by decide +kernel
theorem dJ2_indexOf_4cfef_25 : decode cJ2_indexOf_4cfef 25 = .ok (.if_icmp .ge 11, 3) := by decide +kernel
theorem dJ2_indexOf_4cfef_28 : decode cJ2_indexOf_4cfef 28 = .ok (.aload_n 0, 1) := by decide +kernel
theorem dJ2_indexOf_4cfef_29 : decode cJ2_indexOf_4cfef 29 = .ok (.iload_n 1, 1) := by decide +kernel
theorem dJ2_indexOf_4cfef_30 : decode cJ2_indexOf_4cfef 30 = .ok (.iload_n 2, 1) := by decide +kernel
theorem dJ2_indexOf_4cfef_31 : decode cJ2_indexOf_4cfef 31 = .ok (.iload_n 3, 1) := by decide +kernel
theorem dJ2_indexOf_4cfef_32 : decode cJ2_indexOf_4cfef 32 = .ok (.invokestatic 228, 3) := by decide +kernel
theorem dJ2_indexOf_4cfef_35 : decode cJ2_indexOf_4cfef 35 = .ok (.ireturn, 1) := by decide +kernel
theorem dJ2_indexOf_4cfef_36 : decode cJ2_indexOf_4cfef 36 = .ok (.aload_n 0, 1) := by decide +kernel
theorem dJ2_indexOf_4cfef_37 : decode cJ2_indexOf_4cfef 37 = .ok (.iload_n 1, 1) := by decide +kernel
theorem dJ2_indexOf_4cfef_38 : decode cJ2_indexOf_4cfef 38 = .ok (.iload_n 2, 1) := by decide +kernel
theorem dJ2_indexOf_4cfef_39 : decode cJ2_indexOf_4cfef 39 = .ok (.iload_n 3, 1) := by decide +kernel
theorem dJ2_indexOf_4cfef_40 : decode cJ2_indexOf_4cfef 40 = .ok (.invokestatic 232, 3) := by decide +kernel
theorem dJ2_indexOf_4cfef_43 : decode cJ2_indexOf_4cfef 43 = .ok (.ireturn, 1) := by decide +kernel
theorem dJ2_indexOfChar_4cfef_0 : decode cJ2_indexOfChar_4cfef 0 = .ok (.iload_n 2, 1) := by decide +kernel
theorem dJ2_indexOfChar_4cfef_1 : decode cJ2_indexOfChar_4cfef 1 = .ok (.iload_n 3, 1) := by decide +kernel
theorem dJ2_indexOfChar_4cfef_2 : decode cJ2_indexOfChar_4cfef 2 = .ok (.aload_n 0, 1) := by decide +kernel
theorem dJ2_indexOfChar_4cfef_3 : decode cJ2_indexOfChar_4cfef 3 = .ok (.invokestatic 96, 3) := by decide +kernel
theorem dJ2_indexOfChar_4cfef_6 : decode cJ2_indexOfChar_4cfef 6 = .ok (.aload_n 0, 1) := by decide +kernel
theorem dJ2_indexOfChar_4cfef_7 : decode cJ2_indexOfChar_4cfef 7 = .ok (.iload_n 1, 1) := by decide +kernel
theorem dJ2_indexOfChar_4cfef_8 : decode cJ2_indexOfChar_4cfef 8 = .ok (.iload_n 2, 1) := by decide +kernel
theorem dJ2_indexOfChar_4cfef_9 : decode cJ2_indexOfChar_4cfef 9 = .ok (.iload_n 3, 1) := by decide +kernel
theorem dJ2_indexOfChar_4cfef_10 : decode cJ2_indexOfChar_4cfef 10 = .ok (.invokestatic 244, 3) := by decide +kernel
theorem dJ2_indexOfChar_4cfef_13 : decode cJ2_indexOfChar_4cfef 13 = .ok (.ireturn, 1) := by decide +kernel
theorem dJ2_indexOfCharUnsafe_4cfef_0 : decode cJ2_indexOfCharUnsafe_4cfef 0 = .ok (.iload_n 2, 1) := by decide +kernel
theorem dJ2_indexOfCharUnsafe_4cfef_1 : decode cJ2_indexOfCharUnsafe_4cfef 1 = .ok (.istore 4, 2) := by decide +kernel
theorem dJ2_indexOfCharUnsafe_4cfef_3 : decode cJ2_indexOfCharUnsafe_4cfef 3 = .ok (.iload 4, 2) := by decide +kernel
theorem dJ2_indexOfCharUnsafe_4cfef_5 : decode cJ2_indexOfCharUnsafe_4cfef 5 = .ok (.iload_n 3, 1) := by decide +kernel
theorem dJ2_indexOfCharUnsafe_4cfef_6 : decode cJ2_indexOfCharUnsafe_4cfef 6 = .ok (.if_icmp .ge 22, 3) := by decide +kernel
theorem dJ2_indexOfCharUnsafe_4cfef_9 : decode cJ2_indexOfCharUnsafe_4cfef 9 = .ok (.aload_n 0, 1) := by decide +kernel
theorem dJ2_indexOfCharUnsafe_4cfef_10 : decode cJ2_indexOfCharUnsafe_4cfef 10 = .ok (.iload 4, 2) := by decide +kernel
theorem dJ2_indexOfCharUnsafe_4cfef_12 : decode cJ2_indexOfCharUnsafe_4cfef 12 = .ok (.invokestatic 71, 3) := by decide +kernel
theorem dJ2_indexOfCharUnsafe_4cfef_15 : decode cJ2_indexOfCharUnsafe_4cfef 15 = .ok (.iload_n 1, 1) := by decide +kernel
theorem dJ2_indexOfCharUnsafe_4cfef_16 : decode cJ2_indexOfCharUnsafe_4cfef 16 = .ok (.if_icmp .ne 6, 3) := by decide +kernel
theorem dJ2_indexOfCharUnsafe_4cfef_19 : decode cJ2_indexOfCharUnsafe_4cfef 19 = .ok (.iload 4, 2) := by decide +kernel
theorem dJ2_indexOfCharUnsafe_4cfef_21 : decode cJ2_indexOfCharUnsafe_4cfef 21 = .ok (.ireturn, 1) := by decide +kernel
theorem dJ2_indexOfCharUnsafe_4cfef_22 : decode cJ2_indexOfCharUnsafe_4cfef 22 = .ok (.iinc 4 1, 3) := by decide +kernel
theorem dJ2_indexOfCharUnsafe_4cfef_25 : decode cJ2_indexOfCharUnsafe_4cfef 25 = .ok (.goto (-22), 3) := by decide +kernel
theorem dJ2_indexOfCharUnsafe_4cfef_28 : decode cJ2_indexOfCharUnsafe_4cfef 28 = .ok (.iconst (-1), 1) := by decide +kernel
theorem dJ2_indexOfCharUnsafe_4cfef_29 : decode cJ2_indexOfCharUnsafe_4cfef 29 = .ok (.ireturn, 1) := by decide +kernel
theorem dJ2_indexOfSupplementary_4cfef_0 : decode cJ2_indexOfSupplementary_4cfef 0 = .ok (.iload_n 1, 1) := by decide +kernel
theorem dJ2_indexOfSupplementary_4cfef_1 : decode cJ2_indexOfSupplementary_4cfef 1 = .ok (.invokestatic 164, 3) := by decide +kernel
theorem dJ2_indexOfSupplementary_4cfef_4 : decode cJ2_indexOfSupplementary_4cfef 4 = .ok (.ifCond .eq 65, 3) := by decide +kernel
theorem dJ2_indexOfSupplementary_4cfef_7 : decode cJ2_indexOfSupplementary_4cfef 7 = .ok (.iload_n 1, 1) := by decide +kernel
theorem dJ2_indexOfSupplementary_4cfef_8 : decode cJ2_indexOfSupplementary_4cfef 8 = .ok (.invokestatic 157, 3) := by decide +kernel
theorem dJ2_indexOfSupplementary_4cfef_11 : decode cJ2_indexOfSupplementary_4cfef 11 = .ok (.istore 4, 2) := by decide +kernel
theorem dJ2_indexOfSupplementary_4cfef_13 : decode cJ2_indexOfSupplementary_4cfef 13 = .ok (.iload_n 1, 1) := by decide +kernel
theorem dJ2_indexOfSupplementary_4cfef_14 : decode cJ2_indexOfSupplementary_4cfef 14 = .ok (.invokestatic 161, 3) := by decide +kernel
theorem dJ2_indexOfSupplementary_4cfef_17 : decode cJ2_indexOfSupplementary_4cfef 17 = .ok (.istore 5, 2) := by decide +kernel
theorem dJ2_indexOfSupplementary_4cfef_19 : decode cJ2_indexOfSupplementary_4cfef 19 = .ok (.iload_n 2, 1) := by decide +kernel
theorem dJ2_indexOfSupplementary_4cfef_20 : decode cJ2_indexOfSupplementary_4cfef 20 = .ok (.iload_n 3, 1) := by decide +kernel
theorem dJ2_indexOfSupplementary_4cfef_21 : decode cJ2_indexOfSupplementary_4cfef 21 = .ok (.aload_n 0, 1) := by decide +kernel
theorem dJ2_indexOfSupplementary_4cfef_22 : decode cJ2_indexOfSupplementary_4cfef 22 = .ok (.invokestatic 96, 3) := by decide +kernel
theorem dJ2_indexOfSupplementary_4cfef_25 : decode cJ2_indexOfSupplementary_4cfef 25 = .ok (.iload_n 2, 1) := by decide +kernel
theorem dJ2_indexOfSupplementary_4cfef_26 : decode cJ2_indexOfSupplementary_4cfef 26 = .ok (.istore 6, 2) := by decide +kernel
theorem dJ2_indexOfSupplementary_4cfef_28 : decode cJ2_indexOfSupplementary_4cfef 28 = .ok (.iload 6, 2) := by decide +kernel
theorem dJ2_indexOfSupplementary_4cfef_30 : decode cJ2_indexOfSupplementary_4cfef 30 = .ok (.iload_n 3, 1) := by decide +kernel
theorem dJ2_indexOfSupplementary_4cfef_31 : decode cJ2_indexOfSupplementary_4cfef 31 = .ok (.iconst 1, 1) := by decide +kernel
theorem dJ2_indexOfSupplementary_4cfef_32 : decode cJ2_indexOfSupplementary_4cfef 32 = .ok (.isub, 1) := by decide +kernel
theorem dJ2_indexOfSupplementary_4cfef_33 : decode cJ2_indexOfSupplementary_4cfef 33 = .ok (.if_icmp .ge 36, 3) := by decide +kernel
theorem dJ2_indexOfSupplementary_4cfef_36 : decode cJ2_indexOfSupplementary_4cfef 36 = .ok (.aload_n 0, 1) := by decide +kernel
theorem dJ2_indexOfSupplementary_4cfef_37 : decode cJ2_indexOfSupplementary_4cfef 37 = .ok (.iload 6, 2) := by decide +kernel
theorem dJ2_indexOfSupplementary_4cfef_39 : decode cJ2_indexOfSupplementary_4cfef 39 = .ok (.invokestatic 71, 3) := by decide +kernel
theorem dJ2_indexOfSupplementary_4cfef_42 : decode cJ2_indexOfSupplementary_4cfef 42 = .ok (.iload 4, 2) := by decide +kernel
theorem dJ2_indexOfSupplementary_4cfef_44 : decode cJ2_indexOfSupplementary_4cfef 44 = .ok (.if_icmp .ne 19, 3) := by decide +kernel
theorem dJ2_indexOfSupplementary_4cfef_47 : decode cJ2_indexOfSupplementary_4cfef 47 = .ok (.aload_n 0, 1) := by decide +kernel
theorem dJ2_indexOfSupplementary_4cfef_48 : decode cJ2_indexOfSupplementary_4cfef 48 = .ok (.iload 6, 2) := by decide +kernel
theorem dJ2_indexOfSupplementary_4cfef_50 : decode cJ2_indexOfSupplementary_4cfef 50 = .ok (.iconst 1, 1) := by decide +kernel
theorem dJ2_indexOfSupplementary_4cfef_51 : decode cJ2_indexOfSupplementary_4cfef 51 = .ok (.iadd, 1) := by decide +kernel
theorem dJ2_indexOfSupplementary_4cfef_52 : decode cJ2_indexOfSupplementary_4cfef 52 = .ok (.invokestatic 71, 3) := by decide +kernel
theorem dJ2_indexOfSupplementary_4cfef_55 : decode cJ2_indexOfSupplementary_4cfef 55 = .ok (.iload 5, 2) := by decide +kernel
theorem dJ2_indexOfSupplementary_4cfef_57 : decode cJ2_indexOfSupplementary_4cfef 57 = .ok (.if_icmp .ne 6, 3) := by decide +kernel
theorem dJ2_indexOfSupplementary_4cfef_60 : decode cJ2_indexOfSupplementary_4cfef 60 = .ok (.iload 6, 2) := by decide +kernel
theorem dJ2_indexOfSupplementary_4cfef_62 : decode cJ2_indexOfSupplementary_4cfef 62 = .ok (.ireturn, 1) := by decide +kernel
theorem dJ2_indexOfSupplementary_4cfef_63 : decode cJ2_indexOfSupplementary_4cfef 63 = .ok (.iinc 6 1, 3) := by decide +kernel
theorem dJ2_indexOfSupplementary_4cfef_66 : decode cJ2_indexOfSupplementary_4cfef 66 = .ok (.goto (-38), 3) := by decide +kernel
theorem dJ2_indexOfSupplementary_4cfef_69 : decode cJ2_indexOfSupplementary_4cfef 69 = .ok (.iconst (-1), 1) := by decide +kernel
theorem dJ2_indexOfSupplementary_4cfef_70 : decode cJ2_indexOfSupplementary_4cfef 70 = .ok (.ireturn, 1) := by decide +kernel
theorem dJ2_checkBoundsBeginEnd_d044e_0 : decode cJ2_checkBoundsBeginEnd_d044e 0 = .ok (.iload_n 0, 1) := by decide +kernel
theorem dJ2_checkBoundsBeginEnd_d044e_1 : decode cJ2_checkBoundsBeginEnd_d044e 1 = .ok (.iload_n 1, 1) := by decide +kernel
theorem dJ2_checkBoundsBeginEnd_d044e_2 : decode cJ2_checkBoundsBeginEnd_d044e 2 = .ok (.aload_n 2, 1) := by decide +kernel
theorem dJ2_checkBoundsBeginEnd_d044e_3 : decode cJ2_checkBoundsBeginEnd_d044e 3 = .ok (.invokestatic 48, 3) := by decide +kernel
theorem dJ2_checkBoundsBeginEnd_d044e_6 : decode cJ2_checkBoundsBeginEnd_d044e 6 = .ok (.invokestatic 241, 3) := by decide +kernel
theorem dJ2_checkBoundsBeginEnd_d044e_9 : decode cJ2_checkBoundsBeginEnd_d044e 9 = .ok (.return_, 1) := by decide +kernel
theorem dJ3_checkFromToIndex_8c36e_0 : decode cJ3_checkFromToIndex_8c36e 0 = .ok (.iload_n 0, 1) := by decide +kernel
theorem dJ3_checkFromToIndex_8c36e_1 : decode cJ3_checkFromToIndex_8c36e 1 = .ok (.ifCond .lt 13, 3) := by decide +kernel
theorem dJ3_checkFromToIndex_8c36e_4 : decode cJ3_checkFromToIndex_8c36e 4 = .ok (.iload_n 0, 1) := by decide +kernel
theorem dJ3_checkFromToIndex_8c36e_5 : decode cJ3_checkFromToIndex_8c36e 5 = .ok (.iload_n 1, 1) := by decide +kernel
theorem dJ3_checkFromToIndex_8c36e_6 : decode cJ3_checkFromToIndex_8c36e 6 = .ok (.if_icmp .gt 8, 3) := by decide +kernel
theorem dJ3_checkFromToIndex_8c36e_9 : decode cJ3_checkFromToIndex_8c36e 9 = .ok (.iload_n 1, 1) := by decide +kernel
theorem dJ3_checkFromToIndex_8c36e_10 : decode cJ3_checkFromToIndex_8c36e 10 = .ok (.iload_n 2, 1) := by decide +kernel
theorem dJ3_checkFromToIndex_8c36e_11 : decode cJ3_checkFromToIndex_8c36e 11 = .ok (.if_icmp .le 11, 3) := by decide +kernel
theorem dJ3_checkFromToIndex_8c36e_14 : decode cJ3_checkFromToIndex_8c36e 14 = .ok (.aload_n 3, 1) := by decide +kernel
theorem dJ3_checkFromToIndex_8c36e_15 : decode cJ3_checkFromToIndex_8c36e 15 = .ok (.iload_n 0, 1) := by decide +kernel
theorem dJ3_checkFromToIndex_8c36e_16 : decode cJ3_checkFromToIndex_8c36e 16 = .ok (.iload_n 1, 1) := by decide +kernel
theorem dJ3_checkFromToIndex_8c36e_17 : decode cJ3_checkFromToIndex_8c36e 17 = .ok (.iload_n 2, 1) := by decide +kernel
theorem dJ3_checkFromToIndex_8c36e_18 : decode cJ3_checkFromToIndex_8c36e 18 = .ok (.invokestatic 99, 3) := by decide +kernel
theorem dJ3_checkFromToIndex_8c36e_21 : decode cJ3_checkFromToIndex_8c36e 21 = .ok (.athrow, 1) := by decide +kernel
theorem dJ3_checkFromToIndex_8c36e_22 : decode cJ3_checkFromToIndex_8c36e 22 = .ok (.iload_n 0, 1) := by decide +kernel
theorem dJ3_checkFromToIndex_8c36e_23 : decode cJ3_checkFromToIndex_8c36e 23 = .ok (.ireturn, 1) := by decide +kernel
