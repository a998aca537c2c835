theorem dX11_init_0 : decode cX11_init 0 = .ok (.aload_n 0, 1) := by decide +kernel
theorem dX11_init_1 : decode cX11_init 1 = .ok (.invokespecial 1, 3) := by decide +kernel
theorem dX11_init_4 : decode cX11_init 4 = .ok (.aload_n 0, 1) := by decide +kernel
theorem dX11_init_5 : decode cX11_init 5 = .ok (.bipush 36, 2) := by decide +kernel
theorem dX11_init_7 : decode cX11_init 7 = .ok (.newarray .int, 2) := by decide +kernel
theorem dX11_init_9 : decode cX11_init 9 = .ok (.putfield 7, 3) := by decide +kernel
theorem dX11_init_12 : decode cX11_init 12 = .ok (.aload_n 0, 1) := by decide +kernel
theorem dX11_init_13 : decode cX11_init 13 = .ok (.bipush 20, 2) := by decide +kernel
theorem dX11_init_15 : decode cX11_init 15 = .ok (.newarray .int, 2) := by decide +kernel
theorem dX11_init_17 : decode cX11_init 17 = .ok (.putfield 13, 3) := by decide +kernel
theorem dX11_init_20 : decode cX11_init 20 = .ok (.aload_n 0, 1) := by decide +kernel
theorem dX11_init_21 : decode cX11_init 21 = .ok (.bipush 15, 2) := by decide +kernel
theorem dX11_init_23 : decode cX11_init 23 = .ok (.newarray .int, 2) := by decide +kernel
theorem dX11_init_25 : decode cX11_init 25 = .ok (.putfield 16, 3) := by decide +kernel
theorem dX11_init_28 : decode cX11_init 28 = .ok (.aload_n 0, 1) := by decide +kernel
theorem dX11_init_29 : decode cX11_init 29 = .ok (.iconst 5, 1) := by decide +kernel
theorem dX11_init_30 : decode cX11_init 30 = .ok (.newarray .int, 2) := by decide +kernel
theorem dX11_init_32 : decode cX11_init 32 = .ok (.putfield 19, 3) := by decide +kernel
theorem dX11_init_35 : decode cX11_init 35 = .ok (.aload_n 0, 1) := by decide +kernel
theorem dX11_init_36 : decode cX11_init 36 = .ok (.bipush 80, 2) := by decide +kernel
theorem dX11_init_38 : decode cX11_init 38 = .ok (.newarray .int, 2) := by decide +kernel
theorem dX11_init_40 : decode cX11_init 40 = .ok (.putfield 22, 3) := by decide +kernel
theorem dX11_init_43 : decode cX11_init 43 = .ok (.aload_n 0, 1) := by decide +kernel
theorem dX11_init_44 : decode cX11_init 44 = .ok (.iconst 5, 1) := by decide +kernel
theorem dX11_init_45 : decode cX11_init 45 = .ok (.newarray .int, 2) := by decide +kernel
theorem dX11_init_47 : decode cX11_init 47 = .ok (.putfield 25, 3) := by decide +kernel
theorem dX11_init_50 : decode cX11_init 50 = .ok (.aload_n 0, 1) := by decide +kernel
theorem dX11_init_51 : decode cX11_init 51 = .ok (.iconst 5, 1) := by decide +kernel
theorem dX11_init_52 : decode cX11_init 52 = .ok (.newarray .int, 2) := by decide +kernel
theorem dX11_init_54 : decode cX11_init 54 = .ok (.putfield 28, 3) := by decide +kernel
theorem dX11_init_57 : decode cX11_init 57 = .ok (.aload_n 0, 1) := by decide +kernel
theorem dX11_init_58 : decode cX11_init 58 = .ok (.iconst 5, 1) := by decide +kernel
theorem dX11_init_59 : decode cX11_init 59 = .ok (.newarray .int, 2) := by decide +kernel
theorem dX11_init_61 : decode cX11_init 61 = .ok (.putfield 31, 3) := by decide +kernel
theorem dX11_init_64 : decode cX11_init 64 = .ok (.aload_n 0, 1) := by decide +kernel
theorem dX11_init_65 : decode cX11_init 65 = .ok (.iconst 5, 1) := by decide +kernel
theorem dX11_init_66 : decode cX11_init 66 = .ok (.newarray .int, 2) := by decide +kernel
theorem dX11_init_68 : decode cX11_init 68 = .ok (.putfield 34, 3) := by decide +kernel
theorem dX11_init_71 : decode cX11_init 71 = .ok (.aload_n 0, 1) := by decide +kernel
theorem dX11_init_72 : decode cX11_init 72 = .ok (.bipush 24, 2) := by decide +kernel
theorem dX11_init_74 : decode cX11_init 74 = .ok (.newarray .int, 2) := by decide +kernel
theorem dX11_init_76 : decode cX11_init 76 = .ok (.putfield 37, 3) := by decide +kernel
theorem dX11_init_79 : decode cX11_init 79 = .ok (.aload_n 0, 1) := by decide +kernel
theorem dX11_init_80 : decode cX11_init 80 = .ok (.iconst 5, 1) := by decide +kernel
theorem dX11_init_81 : decode cX11_init 81 = .ok (.newarray .int, 2) := by decide +kernel
theorem dX11_init_83 : decode cX11_init 83 = .ok (.putfield 40, 3) := by decide +kernel
theorem dX11_init_86 : decode cX11_init 86 = .ok (.aload_n 0, 1) := by decide +kernel
theorem dX11_init_87 : decode cX11_init 87 = .ok (.iconst 5, 1) := by decide +kernel
theorem dX11_init_88 : decode cX11_init 88 = .ok (.newarray .int, 2) := by decide +kernel
theorem dX11_init_90 : decode cX11_init 90 = .ok (.putfield 43, 3) := by decide +kernel
theorem dX11_init_93 : decode cX11_init 93 = .ok (.aload_n 0, 1) := by decide +kernel
theorem dX11_init_94 : decode cX11_init 94 = .ok (.iconst 5, 1) := by decide +kernel
theorem dX11_init_95 : decode cX11_init 95 = .ok (.newarray .int, 2) := by decide +kernel
theorem dX11_init_97 : decode cX11_init 97 = .ok (.putfield 46, 3) := by decide +kernel
theorem dX11_init_100 : decode cX11_init 100 = .ok (.aload_n 0, 1) := by decide +kernel
theorem dX11_init_101 : decode cX11_init 101 = .ok (.bipush 15, 2) := by decide +kernel
theorem dX11_init_103 : decode cX11_init 103 = .ok (.newarray .int, 2) := by decide +kernel
theorem dX11_init_105 : decode cX11_init 105 = .ok (.putfield 49, 3) := by decide +kernel
theorem dX11_init_108 : decode cX11_init 108 = .ok (.aload_n 0, 1) := by decide +kernel
theorem dX11_init_109 : decode cX11_init 109 = .ok (.iconst 5, 1) := by decide +kernel
theorem dX11_init_110 : decode cX11_init 110 = .ok (.newarray .int, 2) := by decide +kernel
theorem dX11_init_112 : decode cX11_init 112 = .ok (.putfield 52, 3) := by decide +kernel
theorem dX11_init_115 : decode cX11_init 115 = .ok (.aload_n 0, 1) := by decide +kernel
theorem dX11_init_116 : decode cX11_init 116 = .ok (.bipush 24, 2) := by decide +kernel
theorem dX11_init_118 : decode cX11_init 118 = .ok (.newarray .int, 2) := by decide +kernel
theorem dX11_init_120 : decode cX11_init 120 = .ok (.putfield 55, 3) := by decide +kernel
theorem dX11_init_123 : decode cX11_init 123 = .ok (.aload_n 0, 1) := by decide +kernel
theorem dX11_init_124 : decode cX11_init 124 = .ok (.iconst (-1), 1) := by decide +kernel
theorem dX11_init_125 : decode cX11_init 125 = .ok (.putfield 58, 3) := by decide +kernel
theorem dX11_init_128 : decode cX11_init 128 = .ok (.return_, 1) := by decide +kernel
theorem dX11_in_0 : decode cX11_in 0 = .ok (.lload_n 0, 1) := by decide +kernel
theorem dX11_in_1 : decode cX11_in 1 = .ok (.lload_n 2, 1) := by decide +kernel
theorem dX11_in_2 : decode cX11_in 2 = .ok (.lcmp, 1) := by decide +kernel
theorem dX11_in_3 : decode cX11_in 3 = .ok (.ifCond .lt 14, 3) := by decide +kernel
theorem dX11_in_6 : decode cX11_in 6 = .ok (.lload_n 0, 1) := by decide +kernel
theorem dX11_in_7 : decode cX11_in 7 = .ok (.lload 4, 2) := by decide +kernel
theorem dX11_in_9 : decode cX11_in 9 = .ok (.lcmp, 1) := by decide +kernel
theorem dX11_in_10 : decode cX11_in 10 = .ok (.ifCond .gt 7, 3) := by decide +kernel
theorem dX11_in_13 : decode cX11_in 13 = .ok (.iconst 1, 1) := by decide +kernel
theorem dX11_in_14 : decode cX11_in 14 = .ok (.goto 4, 3) := by decide +kernel
theorem dX11_in_17 : decode cX11_in 17 = .ok (.iconst 0, 1) := by decide +kernel
theorem dX11_in_18 : decode cX11_in 18 = .ok (.ireturn, 1) := by decide +kernel
theorem dX11_copy_0 : decode cX11_copy 0 = .ok (.iconst 0, 1) := by decide +kernel
theorem dX11_copy_1 : decode cX11_copy 1 = .ok (.istore_n 2, 1) := by decide +kernel
theorem dX11_copy_2 : decode cX11_copy 2 = .ok (.iload_n 2, 1) := by decide +kernel
theorem dX11_copy_3 : decode cX11_copy 3 = .ok (.aload_n 0, 1) := by decide +kernel
theorem dX11_copy_4 : decode cX11_copy 4 = .ok (.arraylength, 1) := by decide +kernel
theorem dX11_copy_5 : decode cX11_copy 5 = .ok (.if_icmp .ge 15, 3) := by decide +kernel
theorem dX11_copy_8 : decode cX11_copy 8 = .ok (.aload_n 1, 1) := by decide +kernel
theorem dX11_copy_9 : decode cX11_copy 9 = .ok (.iload_n 2, 1) := by decide +kernel
theorem dX11_copy_10 : decode cX11_copy 10 = .ok (.aload_n 0, 1) := by decide +kernel
theorem dX11_copy_11 : decode cX11_copy 11 = .ok (.iload_n 2, 1) := by decide +kernel
theorem dX11_copy_12 : decode cX11_copy 12 = .ok (.iaload, 1) := by decide +kernel
theorem dX11_copy_13 : decode cX11_copy 13 = .ok (.iastore, 1) := by decide +kernel
theorem dX11_copy_14 : decode cX11_copy 14 = .ok (.iinc 2 1, 3) := by decide +kernel
theorem dX11_copy_17 : decode cX11_copy 17 = .ok (.goto (-15), 3) := by decide +kernel
theorem dX11_copy_20 : decode cX11_copy 20 = .ok (.return_, 1) := by decide +kernel
theorem dX11_ones_0 : decode cX11_ones 0 = .ok (.iconst 0, 1) := by decide +kernel
theorem dX11_ones_1 : decode cX11_ones 1 = .ok (.istore_n 1, 1) := by decide +kernel
theorem dX11_ones_2 : decode cX11_ones 2 = .ok (.iconst 0, 1) := by decide +kernel
theorem dX11_ones_3 : decode cX11_ones 3 = .ok (.istore_n 2, 1) := by decide +kernel
theorem dX11_ones_4 : decode cX11_ones 4 = .ok (.iload_n 2, 1) := by decide +kernel
theorem dX11_ones_5 : decode cX11_ones 5 = .ok (.bipush 12, 2) := by decide +kernel
theorem dX11_ones_7 : decode cX11_ones 7 = .ok (.if_icmp .ge 17, 3) := by decide +kernel
theorem dX11_ones_10 : decode cX11_ones 10 = .ok (.iload_n 1, 1) := by decide +kernel
theorem dX11_ones_11 : decode cX11_ones 11 = .ok (.iload_n 0, 1) := by decide +kernel
theorem dX11_ones_12 : decode cX11_ones 12 = .ok (.iload_n 2, 1) := by decide +kernel
theorem dX11_ones_13 : decode cX11_ones 13 = .ok (.ishr, 1) := by decide +kernel
theorem dX11_ones_14 : decode cX11_ones 14 = .ok (.iconst 1, 1) := by decide +kernel
theorem dX11_ones_15 : decode cX11_ones 15 = .ok (.iand, 1) := by decide +kernel
theorem dX11_ones_16 : decode cX11_ones 16 = .ok (.iadd, 1) := by decide +kernel
theorem dX11_ones_17 : decode cX11_ones 17 = .ok (.istore_n 1, 1) := by decide +kernel
theorem dX11_ones_18 : decode cX11_ones 18 = .ok (.iinc 2 1, 3) := by decide +kernel
theorem dX11_ones_21 : decode cX11_ones 21 = .ok (.goto (-17), 3) := by decide +kernel
theorem dX11_ones_24 : decode cX11_ones 24 = .ok (.iload_n 1, 1) := by decide +kernel
theorem dX11_ones_25 : decode cX11_ones 25 = .ok (.ireturn, 1) := by decide +kernel
theorem dX11_letter_0 : decode cX11_letter 0 = .ok (.iload_n 1, 1) := by decide +kernel
theorem dX11_letter_1 : decode cX11_letter 1 = .ok (.i2l, 1) := by decide +kernel
theorem dX11_letter_2 : decode cX11_letter 2 = .ok (.lconst 1, 1) := by decide +kernel
theorem dX11_letter_3 : decode cX11_letter 3 = .ok (.ldc2_w 62, 3) := by decide +kernel
theorem dX11_letter_6 : decode cX11_letter 6 = .ok (.invokestatic 64, 3) := by decide +kernel
theorem dX11_letter_9 : decode cX11_letter 9 = .ok (.ifCond .ne 6, 3) := by decide +kernel
theorem dX11_letter_12 : decode cX11_letter 12 = .ok (.bipush (-102), 2) := by decide +kernel
theorem dX11_letter_14 : decode cX11_letter 14 = .ok (.ireturn, 1) := by decide +kernel
theorem dX11_letter_15 : decode cX11_letter 15 = .ok (.aload_n 0, 1) := by decide +kernel
theorem dX11_letter_16 : decode cX11_letter 16 = .ok (.getfield 68, 3) := by decide +kernel
theorem dX11_letter_19 : decode cX11_letter 19 = .ok (.bipush 36, 2) := by decide +kernel
theorem dX11_letter_21 : decode cX11_letter 21 = .ok (.if_icmp .ne 6, 3) := by decide +kernel
theorem dX11_letter_24 : decode cX11_letter 24 = .ok (.bipush (-104), 2) := by decide +kernel
theorem dX11_letter_26 : decode cX11_letter 26 = .ok (.ireturn, 1) := by decide +kernel
theorem dX11_letter_27 : decode cX11_letter 27 = .ok (.aload_n 0, 1) := by decide +kernel
theorem dX11_letter_28 : decode cX11_letter 28 = .ok (.getfield 7, 3) := by decide +kernel
theorem dX11_letter_31 : decode cX11_letter 31 = .ok (.aload_n 0, 1) := by decide +kernel
theorem dX11_letter_32 : decode cX11_letter 32 = .ok (.getfield 68, 3) := by decide +kernel
theorem dX11_letter_35 : decode cX11_letter 35 = .ok (.iload_n 1, 1) := by decide +kernel
theorem dX11_letter_36 : decode cX11_letter 36 = .ok (.iastore, 1) := by decide +kernel
theorem dX11_letter_37 : decode cX11_letter 37 = .ok (.aload_n 0, 1) := by decide +kernel
theorem dX11_letter_38 : decode cX11_letter 38 = .ok (.dup, 1) := by decide +kernel
theorem dX11_letter_39 : decode cX11_letter 39 = .ok (.getfield 68, 3) := by decide +kernel
theorem dX11_letter_42 : decode cX11_letter 42 = .ok (.iconst 1, 1) := by decide +kernel
theorem dX11_letter_43 : decode cX11_letter 43 = .ok (.iadd, 1) := by decide +kernel
theorem dX11_letter_44 : decode cX11_letter 44 = .ok (.putfield 68, 3) := by decide +kernel
theorem dX11_letter_47 : decode cX11_letter 47 = .ok (.aload_n 0, 1) := by decide +kernel
theorem dX11_letter_48 : decode cX11_letter 48 = .ok (.getfield 68, 3) := by decide +kernel
theorem dX11_letter_51 : decode cX11_letter 51 = .ok (.ireturn, 1) := by decide +kernel
theorem dX11_blank_0 : decode cX11_blank 0 = .ok (.aload_n 0, 1) := by decide +kernel
theorem dX11_blank_1 : decode cX11_blank 1 = .ok (.getfield 68, 3) := by decide +kernel
theorem dX11_blank_4 : decode cX11_blank 4 = .ok (.istore_n 1, 1) := by decide +kernel
theorem dX11_blank_5 : decode cX11_blank 5 = .ok (.aload_n 0, 1) := by decide +kernel
theorem dX11_blank_6 : decode cX11_blank 6 = .ok (.iconst 0, 1) := by decide +kernel
theorem dX11_blank_7 : decode cX11_blank 7 = .ok (.putfield 68, 3) := by decide +kernel
theorem dX11_blank_10 : decode cX11_blank 10 = .ok (.iload_n 1, 1) := by decide +kernel
theorem dX11_blank_11 : decode cX11_blank 11 = .ok (.ireturn, 1) := by decide +kernel
theorem dX11_kindBy_0 : decode cX11_kindBy 0 = .ok (.iload_n 0, 1) := by decide +kernel
theorem dX11_kindBy_1 : decode cX11_kindBy 1 = .ok (.tableswitch 61 108 116 #[57, 61, 61, 61, 53, 61, 59, 55, 51], 51) := by decide +kernel
theorem dX11_kindBy_52 : decode cX11_kindBy 52 = .ok (.iconst 0, 1) := by decide +kernel
theorem dX11_kindBy_53 : decode cX11_kindBy 53 = .ok (.ireturn, 1) := by decide +kernel
theorem dX11_kindBy_54 : decode cX11_kindBy 54 = .ok (.iconst 1, 1) := by decide +kernel
theorem dX11_kindBy_55 : decode cX11_kindBy 55 = .ok (.ireturn, 1) := by decide +kernel
theorem dX11_kindBy_56 : decode cX11_kindBy 56 = .ok (.iconst 2, 1) := by decide +kernel
theorem dX11_kindBy_57 : decode cX11_kindBy 57 = .ok (.ireturn, 1) := by decide +kernel
theorem dX11_kindBy_58 : decode cX11_kindBy 58 = .ok (.iconst 3, 1) := by decide +kernel
theorem dX11_kindBy_59 : decode cX11_kindBy 59 = .ok (.ireturn, 1) := by decide +kernel
theorem dX11_kindBy_60 : decode cX11_kindBy 60 = .ok (.iconst 4, 1) := by decide +kernel
theorem dX11_kindBy_61 : decode cX11_kindBy 61 = .ok (.ireturn, 1) := by decide +kernel
theorem dX11_kindBy_62 : decode cX11_kindBy 62 = .ok (.iconst (-1), 1) := by decide +kernel
theorem dX11_kindBy_63 : decode cX11_kindBy 63 = .ok (.ireturn, 1) := by decide +kernel
theorem dX11_isTrickLetter_0 : decode cX11_isTrickLetter 0 = .ok (.aload_n 0, 1) := by decide +kernel
theorem dX11_isTrickLetter_1 : decode cX11_isTrickLetter 1 = .ok (.getfield 7, 3) := by decide +kernel
theorem dX11_isTrickLetter_4 : decode cX11_isTrickLetter 4 = .ok (.iload_n 1, 1) := by decide +kernel
theorem dX11_isTrickLetter_5 : decode cX11_isTrickLetter 5 = .ok (.iaload, 1) := by decide +kernel
theorem dX11_isTrickLetter_6 : decode cX11_isTrickLetter 6 = .ok (.istore_n 2, 1) := by decide +kernel
theorem dX11_isTrickLetter_7 : decode cX11_isTrickLetter 7 = .ok (.iload_n 1, 1) := by decide +kernel
theorem dX11_isTrickLetter_8 : decode cX11_isTrickLetter 8 = .ok (.iconst 5, 1) := by decide +kernel
theorem dX11_isTrickLetter_9 : decode cX11_isTrickLetter 9 = .ok (.irem, 1) := by decide +kernel
theorem dX11_isTrickLetter_10 : decode cX11_isTrickLetter 10 = .ok (.tableswitch 80 0 3 #[30, 44, 56, 68], 30) := by decide +kernel
theorem dX11_isTrickLetter_40 : decode cX11_isTrickLetter 40 = .ok (.iload_n 2, 1) := by decide +kernel
theorem dX11_isTrickLetter_41 : decode cX11_isTrickLetter 41 = .ok (.invokestatic 71, 3) := by decide +kernel
theorem dX11_isTrickLetter_44 : decode cX11_isTrickLetter 44 = .ok (.iconst (-1), 1) := by decide +kernel
theorem dX11_isTrickLetter_45 : decode cX11_isTrickLetter 45 = .ok (.if_icmp .eq 7, 3) := by decide +kernel
theorem dX11_isTrickLetter_48 : decode cX11_isTrickLetter 48 = .ok (.iconst 1, 1) := by decide +kernel
theorem dX11_isTrickLetter_49 : decode cX11_isTrickLetter 49 = .ok (.goto 4, 3) := by decide +kernel
theorem dX11_isTrickLetter_52 : decode cX11_isTrickLetter 52 = .ok (.iconst 0, 1) := by decide +kernel
theorem dX11_isTrickLetter_53 : decode cX11_isTrickLetter 53 = .ok (.ireturn, 1) := by decide +kernel
theorem dX11_isTrickLetter_54 : decode cX11_isTrickLetter 54 = .ok (.iload_n 2, 1) := by decide +kernel
theorem dX11_isTrickLetter_55 : decode cX11_isTrickLetter 55 = .ok (.i2l, 1) := by decide +kernel
theorem dX11_isTrickLetter_56 : decode cX11_isTrickLetter 56 = .ok (.ldc2_w 75, 3) := by decide +kernel
theorem dX11_isTrickLetter_59 : decode cX11_isTrickLetter 59 = .ok (.ldc2_w 77, 3) := by decide +kernel
theorem dX11_isTrickLetter_62 : decode cX11_isTrickLetter 62 = .ok (.invokestatic 64, 3) := by decide +kernel
theorem dX11_isTrickLetter_65 : decode cX11_isTrickLetter 65 = .ok (.ireturn, 1) := by decide +kernel
theorem dX11_isTrickLetter_66 : decode cX11_isTrickLetter 66 = .ok (.iload_n 2, 1) := by decide +kernel
theorem dX11_isTrickLetter_67 : decode cX11_isTrickLetter 67 = .ok (.i2l, 1) := by decide +kernel
theorem dX11_isTrickLetter_68 : decode cX11_isTrickLetter 68 = .ok (.ldc2_w 79, 3) := by decide +kernel
theorem dX11_isTrickLetter_71 : decode cX11_isTrickLetter 71 = .ok (.ldc2_w 81, 3) := by decide +kernel
theorem dX11_isTrickLetter_74 : decode cX11_isTrickLetter 74 = .ok (.invokestatic 64, 3) := by decide +kernel
theorem dX11_isTrickLetter_77 : decode cX11_isTrickLetter 77 = .ok (.ireturn, 1) := by decide +kernel
theorem dX11_isTrickLetter_78 : decode cX11_isTrickLetter 78 = .ok (.iload_n 2, 1) := by decide +kernel
theorem dX11_isTrickLetter_79 : decode cX11_isTrickLetter 79 = .ok (.i2l, 1) := by decide +kernel
theorem dX11_isTrickLetter_80 : decode cX11_isTrickLetter 80 = .ok (.ldc2_w 75, 3) := by decide +kernel
theorem dX11_isTrickLetter_83 : decode cX11_isTrickLetter 83 = .ok (.ldc2_w 83, 3) := by decide +kernel
theorem dX11_isTrickLetter_86 : decode cX11_isTrickLetter 86 = .ok (.invokestatic 64, 3) := by decide +kernel
theorem dX11_isTrickLetter_89 : decode cX11_isTrickLetter 89 = .ok (.ireturn, 1) := by decide +kernel
theorem dX11_isTrickLetter_90 : decode cX11_isTrickLetter 90 = .ok (.iload_n 2, 1) := by decide +kernel
theorem dX11_isTrickLetter_91 : decode cX11_isTrickLetter 91 = .ok (.bipush 44, 2) := by decide +kernel
theorem dX11_isTrickLetter_93 : decode cX11_isTrickLetter 93 = .ok (.if_icmp .ne 9, 3) := by decide +kernel
theorem dX11_isTrickLetter_96 : decode cX11_isTrickLetter 96 = .ok (.iload_n 1, 1) := by decide +kernel
theorem dX11_isTrickLetter_97 : decode cX11_isTrickLetter 97 = .ok (.bipush 24, 2) := by decide +kernel
theorem dX11_isTrickLetter_99 : decode cX11_isTrickLetter 99 = .ok (.if_icmp .lt 14, 3) := by decide +kernel
theorem dX11_isTrickLetter_102 : decode cX11_isTrickLetter 102 = .ok (.iload_n 2, 1) := by decide +kernel
theorem dX11_isTrickLetter_103 : decode cX11_isTrickLetter 103 = .ok (.bipush 59, 2) := by decide +kernel
theorem dX11_isTrickLetter_105 : decode cX11_isTrickLetter 105 = .ok (.if_icmp .ne 12, 3) := by decide +kernel
theorem dX11_isTrickLetter_108 : decode cX11_isTrickLetter 108 = .ok (.iload_n 1, 1) := by decide +kernel
theorem dX11_isTrickLetter_109 : decode cX11_isTrickLetter 109 = .ok (.iconst 4, 1) := by decide +kernel
theorem dX11_isTrickLetter_110 : decode cX11_isTrickLetter 110 = .ok (.if_icmp .le 7, 3) := by decide +kernel
theorem dX11_isTrickLetter_113 : decode cX11_isTrickLetter 113 = .ok (.iconst 1, 1) := by decide +kernel
theorem dX11_isTrickLetter_114 : decode cX11_isTrickLetter 114 = .ok (.goto 4, 3) := by decide +kernel
theorem dX11_isTrickLetter_117 : decode cX11_isTrickLetter 117 = .ok (.iconst 0, 1) := by decide +kernel
theorem dX11_isTrickLetter_118 : decode cX11_isTrickLetter 118 = .ok (.ireturn, 1) := by decide +kernel
theorem dX11_isGood_0 : decode cX11_isGood 0 = .ok (.aload_n 0, 1) := by decide +kernel
theorem dX11_isGood_1 : decode cX11_isGood 1 = .ok (.getfield 85, 3) := by decide +kernel
theorem dX11_isGood_4 : decode cX11_isGood 4 = .ok (.iconst (-1), 1) := by decide +kernel
theorem dX11_isGood_5 : decode cX11_isGood 5 = .ok (.if_icmp .eq 55, 3) := by decide +kernel
theorem dX11_isGood_8 : decode cX11_isGood 8 = .ok (.iload_n 1, 1) := by decide +kernel
theorem dX11_isGood_9 : decode cX11_isGood 9 = .ok (.aload_n 0, 1) := by decide +kernel
theorem dX11_isGood_10 : decode cX11_isGood 10 = .ok (.getfield 85, 3) := by decide +kernel
theorem dX11_isGood_13 : decode cX11_isGood 13 = .ok (.isub, 1) := by decide +kernel
theorem dX11_isGood_14 : decode cX11_isGood 14 = .ok (.iconst 1, 1) := by decide +kernel
theorem dX11_isGood_15 : decode cX11_isGood 15 = .ok (.isub, 1) := by decide +kernel
theorem dX11_isGood_16 : decode cX11_isGood 16 = .ok (.istore_n 2, 1) := by decide +kernel
theorem dX11_isGood_17 : decode cX11_isGood 17 = .ok (.iload_n 2, 1) := by decide +kernel
theorem dX11_isGood_18 : decode cX11_isGood 18 = .ok (.bipush 10, 2) := by decide +kernel
theorem dX11_isGood_20 : decode cX11_isGood 20 = .ok (.if_icmp .ge 38, 3) := by decide +kernel
theorem dX11_isGood_23 : decode cX11_isGood 23 = .ok (.aload_n 0, 1) := by decide +kernel
theorem dX11_isGood_24 : decode cX11_isGood 24 = .ok (.getfield 7, 3) := by decide +kernel
theorem dX11_isGood_27 : decode cX11_isGood 27 = .ok (.iload_n 1, 1) := by decide +kernel
theorem dX11_isGood_28 : decode cX11_isGood 28 = .ok (.iaload, 1) := by decide +kernel
theorem dX11_isGood_29 : decode cX11_isGood 29 = .ok (.i2l, 1) := by decide +kernel
theorem dX11_isGood_30 : decode cX11_isGood 30 = .ok (.ldc2_w 75, 3) := by decide +kernel
theorem dX11_isGood_33 : decode cX11_isGood 33 = .ok (.iload_n 2, 1) := by decide +kernel
theorem dX11_isGood_34 : decode cX11_isGood 34 = .ok (.iconst 2, 1) := by decide +kernel
theorem dX11_isGood_35 : decode cX11_isGood 35 = .ok (.irem, 1) := by decide +kernel
theorem dX11_isGood_36 : decode cX11_isGood 36 = .ok (.ifCond .ne 9, 3) := by decide +kernel
theorem dX11_isGood_39 : decode cX11_isGood 39 = .ok (.ldc2_w 83, 3) := by decide +kernel
theorem dX11_isGood_42 : decode cX11_isGood 42 = .ok (.goto 6, 3) := by decide +kernel
theorem dX11_isGood_45 : decode cX11_isGood 45 = .ok (.ldc2_w 88, 3) := by decide +kernel
theorem dX11_isGood_48 : decode cX11_isGood 48 = .ok (.invokestatic 64, 3) := by decide +kernel
theorem dX11_isGood_51 : decode cX11_isGood 51 = .ok (.ifCond .eq 7, 3) := by decide +kernel
theorem dX11_isGood_54 : decode cX11_isGood 54 = .ok (.iconst 1, 1) := by decide +kernel
theorem dX11_isGood_55 : decode cX11_isGood 55 = .ok (.goto 4, 3) := by decide +kernel
theorem dX11_isGood_58 : decode cX11_isGood 58 = .ok (.iconst 0, 1) := by decide +kernel
theorem dX11_isGood_59 : decode cX11_isGood 59 = .ok (.ireturn, 1) := by decide +kernel
theorem dX11_isGood_60 : decode cX11_isGood 60 = .ok (.aload_n 0, 1) := by decide +kernel
theorem dX11_isGood_61 : decode cX11_isGood 61 = .ok (.iload_n 1, 1) := by decide +kernel
theorem dX11_isGood_62 : decode cX11_isGood 62 = .ok (.invokevirtual 90, 3) := by decide +kernel
theorem dX11_isGood_65 : decode cX11_isGood 65 = .ok (.istore_n 2, 1) := by decide +kernel
theorem dX11_isGood_66 : decode cX11_isGood 66 = .ok (.aload_n 0, 1) := by decide +kernel
theorem dX11_isGood_67 : decode cX11_isGood 67 = .ok (.iload_n 2, 1) := by decide +kernel
theorem dX11_isGood_68 : decode cX11_isGood 68 = .ok (.ifCond .eq 18, 3) := by decide +kernel
theorem dX11_isGood_71 : decode cX11_isGood 71 = .ok (.aload_n 0, 1) := by decide +kernel
theorem dX11_isGood_72 : decode cX11_isGood 72 = .ok (.getfield 7, 3) := by decide +kernel
theorem dX11_isGood_75 : decode cX11_isGood 75 = .ok (.iload_n 1, 1) := by decide +kernel
theorem dX11_isGood_76 : decode cX11_isGood 76 = .ok (.iaload, 1) := by decide +kernel
theorem dX11_isGood_77 : decode cX11_isGood 77 = .ok (.bipush 59, 2) := by decide +kernel
theorem dX11_isGood_79 : decode cX11_isGood 79 = .ok (.if_icmp .ne 7, 3) := by decide +kernel
theorem dX11_isGood_82 : decode cX11_isGood 82 = .ok (.iload_n 1, 1) := by decide +kernel
theorem dX11_isGood_83 : decode cX11_isGood 83 = .ok (.goto 4, 3) := by decide +kernel
theorem dX11_isGood_86 : decode cX11_isGood 86 = .ok (.iconst (-1), 1) := by decide +kernel
theorem dX11_isGood_87 : decode cX11_isGood 87 = .ok (.putfield 85, 3) := by decide +kernel
theorem dX11_isGood_90 : decode cX11_isGood 90 = .ok (.iload_n 2, 1) := by decide +kernel
theorem dX11_isGood_91 : decode cX11_isGood 91 = .ok (.ireturn, 1) := by decide +kernel
theorem dX11_faultOf_0 : decode cX11_faultOf 0 = .ok (.aload_n 0, 1) := by decide +kernel
theorem dX11_faultOf_1 : decode cX11_faultOf 1 = .ok (.iconst (-1), 1) := by decide +kernel
theorem dX11_faultOf_2 : decode cX11_faultOf 2 = .ok (.putfield 85, 3) := by decide +kernel
theorem dX11_faultOf_5 : decode cX11_faultOf 5 = .ok (.iconst 0, 1) := by decide +kernel
theorem dX11_faultOf_6 : decode cX11_faultOf 6 = .ok (.istore_n 1, 1) := by decide +kernel
theorem dX11_faultOf_7 : decode cX11_faultOf 7 = .ok (.iload_n 1, 1) := by decide +kernel
theorem dX11_faultOf_8 : decode cX11_faultOf 8 = .ok (.aload_n 0, 1) := by decide +kernel
theorem dX11_faultOf_9 : decode cX11_faultOf 9 = .ok (.getfield 68, 3) := by decide +kernel
theorem dX11_faultOf_12 : decode cX11_faultOf 12 = .ok (.if_icmp .ge 17, 3) := by decide +kernel
theorem dX11_faultOf_15 : decode cX11_faultOf 15 = .ok (.aload_n 0, 1) := by decide +kernel
theorem dX11_faultOf_16 : decode cX11_faultOf 16 = .ok (.iload_n 1, 1) := by decide +kernel
theorem dX11_faultOf_17 : decode cX11_faultOf 17 = .ok (.invokevirtual 94, 3) := by decide +kernel
theorem dX11_faultOf_20 : decode cX11_faultOf 20 = .ok (.ifCond .eq 9, 3) := by decide +kernel
theorem dX11_faultOf_23 : decode cX11_faultOf 23 = .ok (.iinc 1 1, 3) := by decide +kernel
theorem dX11_faultOf_26 : decode cX11_faultOf 26 = .ok (.goto (-19), 3) := by decide +kernel
theorem dX11_faultOf_29 : decode cX11_faultOf 29 = .ok (.iload_n 1, 1) := by decide +kernel
theorem dX11_faultOf_30 : decode cX11_faultOf 30 = .ok (.ireturn, 1) := by decide +kernel
theorem dX11_fault_0 : decode cX11_fault 0 = .ok (.aload_n 0, 1) := by decide +kernel
theorem dX11_fault_1 : decode cX11_fault 1 = .ok (.invokevirtual 97, 3) := by decide +kernel
theorem dX11_fault_4 : decode cX11_fault 4 = .ok (.ireturn, 1) := by decide +kernel
theorem dX11_show_0 : decode cX11_show 0 = .ok (.aload_n 0, 1) := by decide +kernel
theorem dX11_show_1 : decode cX11_show 1 = .ok (.invokevirtual 97, 3) := by decide +kernel
theorem dX11_show_4 : decode cX11_show 4 = .ok (.aload_n 0, 1) := by decide +kernel
theorem dX11_show_5 : decode cX11_show 5 = .ok (.getfield 68, 3) := by decide +kernel
theorem dX11_show_8 : decode cX11_show 8 = .ok (.if_icmp .lt 38, 3) := by decide +kernel
theorem dX11_show_11 : decode cX11_show 11 = .ok (.aload_n 0, 1) := by decide +kernel
theorem dX11_show_12 : decode cX11_show 12 = .ok (.getfield 85, 3) := by decide +kernel
theorem dX11_show_15 : decode cX11_show 15 = .ok (.iconst (-1), 1) := by decide +kernel
theorem dX11_show_16 : decode cX11_show 16 = .ok (.if_icmp .eq 30, 3) := by decide +kernel
theorem dX11_show_19 : decode cX11_show 19 = .ok (.aload_n 0, 1) := by decide +kernel
theorem dX11_show_20 : decode cX11_show 20 = .ok (.getfield 68, 3) := by decide +kernel
theorem dX11_show_23 : decode cX11_show 23 = .ok (.aload_n 0, 1) := by decide +kernel
theorem dX11_show_24 : decode cX11_show 24 = .ok (.getfield 85, 3) := by decide +kernel
theorem dX11_show_27 : decode cX11_show 27 = .ok (.isub, 1) := by decide +kernel
theorem dX11_show_28 : decode cX11_show 28 = .ok (.iconst 3, 1) := by decide +kernel
theorem dX11_show_29 : decode cX11_show 29 = .ok (.if_icmp .lt 17, 3) := by decide +kernel
theorem dX11_show_32 : decode cX11_show 32 = .ok (.aload_n 0, 1) := by decide +kernel
theorem dX11_show_33 : decode cX11_show 33 = .ok (.getfield 68, 3) := by decide +kernel
theorem dX11_show_36 : decode cX11_show 36 = .ok (.aload_n 0, 1) := by decide +kernel
theorem dX11_show_37 : decode cX11_show 37 = .ok (.getfield 85, 3) := by decide +kernel
theorem dX11_show_40 : decode cX11_show 40 = .ok (.isub, 1) := by decide +kernel
theorem dX11_show_41 : decode cX11_show 41 = .ok (.iconst 2, 1) := by decide +kernel
theorem dX11_show_42 : decode cX11_show 42 = .ok (.irem, 1) := by decide +kernel
theorem dX11_show_43 : decode cX11_show 43 = .ok (.ifCond .ne 6, 3) := by decide +kernel
theorem dX11_show_46 : decode cX11_show 46 = .ok (.bipush (-103), 2) := by decide +kernel
theorem dX11_show_48 : decode cX11_show 48 = .ok (.ireturn, 1) := by decide +kernel
theorem dX11_show_49 : decode cX11_show 49 = .ok (.aload_n 0, 1) := by decide +kernel
theorem dX11_show_50 : decode cX11_show 50 = .ok (.aload_n 0, 1) := by decide +kernel
theorem dX11_show_51 : decode cX11_show 51 = .ok (.getfield 85, 3) := by decide +kernel
theorem dX11_show_54 : decode cX11_show 54 = .ok (.iconst 1, 1) := by decide +kernel
theorem dX11_show_55 : decode cX11_show 55 = .ok (.iadd, 1) := by decide +kernel
theorem dX11_show_56 : decode cX11_show 56 = .ok (.iconst 5, 1) := by decide +kernel
theorem dX11_show_57 : decode cX11_show 57 = .ok (.idiv, 1) := by decide +kernel
theorem dX11_show_58 : decode cX11_show 58 = .ok (.putfield 101, 3) := by decide +kernel
theorem dX11_show_61 : decode cX11_show 61 = .ok (.aload_n 0, 1) := by decide +kernel
theorem dX11_show_62 : decode cX11_show 62 = .ok (.aload_n 0, 1) := by decide +kernel
theorem dX11_show_63 : decode cX11_show 63 = .ok (.getfield 68, 3) := by decide +kernel
theorem dX11_show_66 : decode cX11_show 66 = .ok (.aload_n 0, 1) := by decide +kernel
theorem dX11_show_67 : decode cX11_show 67 = .ok (.getfield 85, 3) := by decide +kernel
theorem dX11_show_70 : decode cX11_show 70 = .ok (.isub, 1) := by decide +kernel
theorem dX11_show_71 : decode cX11_show 71 = .ok (.iconst 2, 1) := by decide +kernel
theorem dX11_show_72 : decode cX11_show 72 = .ok (.idiv, 1) := by decide +kernel
theorem dX11_show_73 : decode cX11_show 73 = .ok (.putfield 104, 3) := by decide +kernel
theorem dX11_show_76 : decode cX11_show 76 = .ok (.iconst 0, 1) := by decide +kernel
theorem dX11_show_77 : decode cX11_show 77 = .ok (.istore_n 1, 1) := by decide +kernel
theorem dX11_show_78 : decode cX11_show 78 = .ok (.iload_n 1, 1) := by decide +kernel
theorem dX11_show_79 : decode cX11_show 79 = .ok (.aload_n 0, 1) := by decide +kernel
theorem dX11_show_80 : decode cX11_show 80 = .ok (.getfield 101, 3) := by decide +kernel
theorem dX11_show_83 : decode cX11_show 83 = .ok (.if_icmp .ge 104, 3) := by decide +kernel
theorem dX11_show_86 : decode cX11_show 86 = .ok (.aload_n 0, 1) := by decide +kernel
theorem dX11_show_87 : decode cX11_show 87 = .ok (.getfield 13, 3) := by decide +kernel
theorem dX11_show_90 : decode cX11_show 90 = .ok (.iconst 4, 1) := by decide +kernel
theorem dX11_show_91 : decode cX11_show 91 = .ok (.iload_n 1, 1) := by decide +kernel
theorem dX11_show_92 : decode cX11_show 92 = .ok (.imul, 1) := by decide +kernel
theorem dX11_show_93 : decode cX11_show 93 = .ok (.aload_n 0, 1) := by decide +kernel
theorem dX11_show_94 : decode cX11_show 94 = .ok (.getfield 7, 3) := by decide +kernel
theorem dX11_show_97 : decode cX11_show 97 = .ok (.iconst 5, 1) := by decide +kernel
theorem dX11_show_98 : decode cX11_show 98 = .ok (.iload_n 1, 1) := by decide +kernel
theorem dX11_show_99 : decode cX11_show 99 = .ok (.imul, 1) := by decide +kernel
theorem dX11_show_100 : decode cX11_show 100 = .ok (.iaload, 1) := by decide +kernel
theorem dX11_show_101 : decode cX11_show 101 = .ok (.invokestatic 71, 3) := by decide +kernel
theorem dX11_show_104 : decode cX11_show 104 = .ok (.iastore, 1) := by decide +kernel
theorem dX11_show_105 : decode cX11_show 105 = .ok (.aload_n 0, 1) := by decide +kernel
theorem dX11_show_106 : decode cX11_show 106 = .ok (.getfield 13, 3) := by decide +kernel
theorem dX11_show_109 : decode cX11_show 109 = .ok (.iconst 4, 1) := by decide +kernel
theorem dX11_show_110 : decode cX11_show 110 = .ok (.iload_n 1, 1) := by decide +kernel
theorem dX11_show_111 : decode cX11_show 111 = .ok (.imul, 1) := by decide +kernel
theorem dX11_show_112 : decode cX11_show 112 = .ok (.iconst 1, 1) := by decide +kernel
theorem dX11_show_113 : decode cX11_show 113 = .ok (.iadd, 1) := by decide +kernel
theorem dX11_show_114 : decode cX11_show 114 = .ok (.aload_n 0, 1) := by decide +kernel
theorem dX11_show_115 : decode cX11_show 115 = .ok (.getfield 7, 3) := by decide +kernel
theorem dX11_show_118 : decode cX11_show 118 = .ok (.iconst 5, 1) := by decide +kernel
theorem dX11_show_119 : decode cX11_show 119 = .ok (.iload_n 1, 1) := by decide +kernel
theorem dX11_show_120 : decode cX11_show 120 = .ok (.imul, 1) := by decide +kernel
theorem dX11_show_121 : decode cX11_show 121 = .ok (.iconst 1, 1) := by decide +kernel
theorem dX11_show_122 : decode cX11_show 122 = .ok (.iadd, 1) := by decide +kernel
theorem dX11_show_123 : decode cX11_show 123 = .ok (.iaload, 1) := by decide +kernel
theorem dX11_show_124 : decode cX11_show 124 = .ok (.bipush 48, 2) := by decide +kernel
theorem dX11_show_126 : decode cX11_show 126 = .ok (.isub, 1) := by decide +kernel
theorem dX11_show_127 : decode cX11_show 127 = .ok (.iastore, 1) := by decide +kernel
theorem dX11_show_128 : decode cX11_show 128 = .ok (.aload_n 0, 1) := by decide +kernel
theorem dX11_show_129 : decode cX11_show 129 = .ok (.getfield 13, 3) := by decide +kernel
theorem dX11_show_132 : decode cX11_show 132 = .ok (.iconst 4, 1) := by decide +kernel
theorem dX11_show_133 : decode cX11_show 133 = .ok (.iload_n 1, 1) := by decide +kernel
theorem dX11_show_134 : decode cX11_show 134 = .ok (.imul, 1) := by decide +kernel
theorem dX11_show_135 : decode cX11_show 135 = .ok (.iconst 2, 1) := by decide +kernel
theorem dX11_show_136 : decode cX11_show 136 = .ok (.iadd, 1) := by decide +kernel
theorem dX11_show_137 : decode cX11_show 137 = .ok (.aload_n 0, 1) := by decide +kernel
theorem dX11_show_138 : decode cX11_show 138 = .ok (.getfield 7, 3) := by decide +kernel
theorem dX11_show_141 : decode cX11_show 141 = .ok (.iconst 5, 1) := by decide +kernel
theorem dX11_show_142 : decode cX11_show 142 = .ok (.iload_n 1, 1) := by decide +kernel
theorem dX11_show_143 : decode cX11_show 143 = .ok (.imul, 1) := by decide +kernel
theorem dX11_show_144 : decode cX11_show 144 = .ok (.iconst 2, 1) := by decide +kernel
theorem dX11_show_145 : decode cX11_show 145 = .ok (.iadd, 1) := by decide +kernel
theorem dX11_show_146 : decode cX11_show 146 = .ok (.iaload, 1) := by decide +kernel
theorem dX11_show_147 : decode cX11_show 147 = .ok (.bipush 48, 2) := by decide +kernel
theorem dX11_show_149 : decode cX11_show 149 = .ok (.isub, 1) := by decide +kernel
theorem dX11_show_150 : decode cX11_show 150 = .ok (.iastore, 1) := by decide +kernel
theorem dX11_show_151 : decode cX11_show 151 = .ok (.aload_n 0, 1) := by decide +kernel
theorem dX11_show_152 : decode cX11_show 152 = .ok (.getfield 13, 3) := by decide +kernel
theorem dX11_show_155 : decode cX11_show 155 = .ok (.iconst 4, 1) := by decide +kernel
theorem dX11_show_156 : decode cX11_show 156 = .ok (.iload_n 1, 1) := by decide +kernel
theorem dX11_show_157 : decode cX11_show 157 = .ok (.imul, 1) := by decide +kernel
theorem dX11_show_158 : decode cX11_show 158 = .ok (.iconst 3, 1) := by decide +kernel
theorem dX11_show_159 : decode cX11_show 159 = .ok (.iadd, 1) := by decide +kernel
theorem dX11_show_160 : decode cX11_show 160 = .ok (.aload_n 0, 1) := by decide +kernel
theorem dX11_show_161 : decode cX11_show 161 = .ok (.getfield 7, 3) := by decide +kernel
theorem dX11_show_164 : decode cX11_show 164 = .ok (.iconst 5, 1) := by decide +kernel
theorem dX11_show_165 : decode cX11_show 165 = .ok (.iload_n 1, 1) := by decide +kernel
theorem dX11_show_166 : decode cX11_show 166 = .ok (.imul, 1) := by decide +kernel
theorem dX11_show_167 : decode cX11_show 167 = .ok (.iconst 3, 1) := by decide +kernel
theorem dX11_show_168 : decode cX11_show 168 = .ok (.iadd, 1) := by decide +kernel
theorem dX11_show_169 : decode cX11_show 169 = .ok (.iaload, 1) := by decide +kernel
theorem dX11_show_170 : decode cX11_show 170 = .ok (.bipush 48, 2) := by decide +kernel
theorem dX11_show_172 : decode cX11_show 172 = .ok (.isub, 1) := by decide +kernel
theorem dX11_show_173 : decode cX11_show 173 = .ok (.iastore, 1) := by decide +kernel
theorem dX11_show_174 : decode cX11_show 174 = .ok (.aload_n 0, 1) := by decide +kernel
theorem dX11_show_175 : decode cX11_show 175 = .ok (.getfield 19, 3) := by decide +kernel
theorem dX11_show_178 : decode cX11_show 178 = .ok (.iload_n 1, 1) := by decide +kernel
theorem dX11_show_179 : decode cX11_show 179 = .ok (.iconst 0, 1) := by decide +kernel
theorem dX11_show_180 : decode cX11_show 180 = .ok (.iastore, 1) := by decide +kernel
theorem dX11_show_181 : decode cX11_show 181 = .ok (.iinc 1 1, 3) := by decide +kernel
theorem dX11_show_184 : decode cX11_show 184 = .ok (.goto (-106), 3) := by decide +kernel
theorem dX11_show_187 : decode cX11_show 187 = .ok (.iconst 0, 1) := by decide +kernel
theorem dX11_show_188 : decode cX11_show 188 = .ok (.istore_n 1, 1) := by decide +kernel
theorem dX11_show_189 : decode cX11_show 189 = .ok (.iload_n 1, 1) := by decide +kernel
theorem dX11_show_190 : decode cX11_show 190 = .ok (.aload_n 0, 1) := by decide +kernel
theorem dX11_show_191 : decode cX11_show 191 = .ok (.getfield 104, 3) := by decide +kernel
theorem dX11_show_194 : decode cX11_show 194 = .ok (.if_icmp .ge 74, 3) := by decide +kernel
theorem dX11_show_197 : decode cX11_show 197 = .ok (.aload_n 0, 1) := by decide +kernel
theorem dX11_show_198 : decode cX11_show 198 = .ok (.getfield 16, 3) := by decide +kernel
theorem dX11_show_201 : decode cX11_show 201 = .ok (.iconst 3, 1) := by decide +kernel
theorem dX11_show_202 : decode cX11_show 202 = .ok (.iload_n 1, 1) := by decide +kernel
theorem dX11_show_203 : decode cX11_show 203 = .ok (.imul, 1) := by decide +kernel
theorem dX11_show_204 : decode cX11_show 204 = .ok (.aload_n 0, 1) := by decide +kernel
theorem dX11_show_205 : decode cX11_show 205 = .ok (.getfield 7, 3) := by decide +kernel
theorem dX11_show_208 : decode cX11_show 208 = .ok (.aload_n 0, 1) := by decide +kernel
theorem dX11_show_209 : decode cX11_show 209 = .ok (.getfield 85, 3) := by decide +kernel
theorem dX11_show_212 : decode cX11_show 212 = .ok (.iconst 1, 1) := by decide +kernel
theorem dX11_show_213 : decode cX11_show 213 = .ok (.iadd, 1) := by decide +kernel
theorem dX11_show_214 : decode cX11_show 214 = .ok (.iconst 2, 1) := by decide +kernel
theorem dX11_show_215 : decode cX11_show 215 = .ok (.iload_n 1, 1) := by decide +kernel
theorem dX11_show_216 : decode cX11_show 216 = .ok (.imul, 1) := by decide +kernel
theorem dX11_show_217 : decode cX11_show 217 = .ok (.iadd, 1) := by decide +kernel
theorem dX11_show_218 : decode cX11_show 218 = .ok (.iaload, 1) := by decide +kernel
theorem dX11_show_219 : decode cX11_show 219 = .ok (.bipush 48, 2) := by decide +kernel
theorem dX11_show_221 : decode cX11_show 221 = .ok (.isub, 1) := by decide +kernel
theorem dX11_show_222 : decode cX11_show 222 = .ok (.iastore, 1) := by decide +kernel
theorem dX11_show_223 : decode cX11_show 223 = .ok (.aload_n 0, 1) := by decide +kernel
theorem dX11_show_224 : decode cX11_show 224 = .ok (.getfield 16, 3) := by decide +kernel
theorem dX11_show_227 : decode cX11_show 227 = .ok (.iconst 3, 1) := by decide +kernel
theorem dX11_show_228 : decode cX11_show 228 = .ok (.iload_n 1, 1) := by decide +kernel
theorem dX11_show_229 : decode cX11_show 229 = .ok (.imul, 1) := by decide +kernel
theorem dX11_show_230 : decode cX11_show 230 = .ok (.iconst 1, 1) := by decide +kernel
theorem dX11_show_231 : decode cX11_show 231 = .ok (.iadd, 1) := by decide +kernel
theorem dX11_show_232 : decode cX11_show 232 = .ok (.aload_n 0, 1) := by decide +kernel
theorem dX11_show_233 : decode cX11_show 233 = .ok (.getfield 7, 3) := by decide +kernel
theorem dX11_show_236 : decode cX11_show 236 = .ok (.aload_n 0, 1) := by decide +kernel
theorem dX11_show_237 : decode cX11_show 237 = .ok (.getfield 85, 3) := by decide +kernel
theorem dX11_show_240 : decode cX11_show 240 = .ok (.iconst 2, 1) := by decide +kernel
theorem dX11_show_241 : decode cX11_show 241 = .ok (.iadd, 1) := by decide +kernel
theorem dX11_show_242 : decode cX11_show 242 = .ok (.iconst 2, 1) := by decide +kernel
theorem dX11_show_243 : decode cX11_show 243 = .ok (.iload_n 1, 1) := by decide +kernel
theorem dX11_show_244 : decode cX11_show 244 = .ok (.imul, 1) := by decide +kernel
theorem dX11_show_245 : decode cX11_show 245 = .ok (.iadd, 1) := by decide +kernel
theorem dX11_show_246 : decode cX11_show 246 = .ok (.iaload, 1) := by decide +kernel
theorem dX11_show_247 : decode cX11_show 247 = .ok (.bipush 48, 2) := by decide +kernel
theorem dX11_show_249 : decode cX11_show 249 = .ok (.isub, 1) := by decide +kernel
theorem dX11_show_250 : decode cX11_show 250 = .ok (.iastore, 1) := by decide +kernel
theorem dX11_show_251 : decode cX11_show 251 = .ok (.aload_n 0, 1) := by decide +kernel
theorem dX11_show_252 : decode cX11_show 252 = .ok (.getfield 16, 3) := by decide +kernel
theorem dX11_show_255 : decode cX11_show 255 = .ok (.iconst 3, 1) := by decide +kernel
theorem dX11_show_256 : decode cX11_show 256 = .ok (.iload_n 1, 1) := by decide +kernel
theorem dX11_show_257 : decode cX11_show 257 = .ok (.imul, 1) := by decide +kernel
theorem dX11_show_258 : decode cX11_show 258 = .ok (.iconst 2, 1) := by decide +kernel
theorem dX11_show_259 : decode cX11_show 259 = .ok (.iadd, 1) := by decide +kernel
theorem dX11_show_260 : decode cX11_show 260 = .ok (.iconst 0, 1) := by decide +kernel
theorem dX11_show_261 : decode cX11_show 261 = .ok (.iastore, 1) := by decide +kernel
theorem dX11_show_262 : decode cX11_show 262 = .ok (.iinc 1 1, 3) := by decide +kernel
theorem dX11_show_265 : decode cX11_show 265 = .ok (.goto (-76), 3) := by decide +kernel
theorem dX11_show_268 : decode cX11_show 268 = .ok (.aload_n 0, 1) := by decide +kernel
theorem dX11_show_269 : decode cX11_show 269 = .ok (.iconst 0, 1) := by decide +kernel
theorem dX11_show_270 : decode cX11_show 270 = .ok (.putfield 107, 3) := by decide +kernel
theorem dX11_show_273 : decode cX11_show 273 = .ok (.aload_n 0, 1) := by decide +kernel
theorem dX11_show_274 : decode cX11_show 274 = .ok (.iconst 0, 1) := by decide +kernel
theorem dX11_show_275 : decode cX11_show 275 = .ok (.putfield 110, 3) := by decide +kernel
theorem dX11_show_278 : decode cX11_show 278 = .ok (.aload_n 0, 1) := by decide +kernel
theorem dX11_show_279 : decode cX11_show 279 = .ok (.iconst 0, 1) := by decide +kernel
theorem dX11_show_280 : decode cX11_show 280 = .ok (.putfield 113, 3) := by decide +kernel
theorem dX11_show_283 : decode cX11_show 283 = .ok (.aload_n 0, 1) := by decide +kernel
theorem dX11_show_284 : decode cX11_show 284 = .ok (.iconst 0, 1) := by decide +kernel
theorem dX11_show_285 : decode cX11_show 285 = .ok (.putfield 116, 3) := by decide +kernel
theorem dX11_show_288 : decode cX11_show 288 = .ok (.aload_n 0, 1) := by decide +kernel
theorem dX11_show_289 : decode cX11_show 289 = .ok (.iconst 0, 1) := by decide +kernel
theorem dX11_show_290 : decode cX11_show 290 = .ok (.putfield 119, 3) := by decide +kernel
theorem dX11_show_293 : decode cX11_show 293 = .ok (.aload_n 0, 1) := by decide +kernel
theorem dX11_show_294 : decode cX11_show 294 = .ok (.iconst 0, 1) := by decide +kernel
theorem dX11_show_295 : decode cX11_show 295 = .ok (.putfield 122, 3) := by decide +kernel
theorem dX11_show_298 : decode cX11_show 298 = .ok (.aload_n 0, 1) := by decide +kernel
theorem dX11_show_299 : decode cX11_show 299 = .ok (.iconst 0, 1) := by decide +kernel
theorem dX11_show_300 : decode cX11_show 300 = .ok (.putfield 125, 3) := by decide +kernel
theorem dX11_show_303 : decode cX11_show 303 = .ok (.aload_n 0, 1) := by decide +kernel
theorem dX11_show_304 : decode cX11_show 304 = .ok (.dup, 1) := by decide +kernel
theorem dX11_show_305 : decode cX11_show 305 = .ok (.getfield 128, 3) := by decide +kernel
theorem dX11_show_308 : decode cX11_show 308 = .ok (.iconst 1, 1) := by decide +kernel
theorem dX11_show_309 : decode cX11_show 309 = .ok (.iadd, 1) := by decide +kernel
theorem dX11_show_310 : decode cX11_show 310 = .ok (.putfield 128, 3) := by decide +kernel
theorem dX11_show_313 : decode cX11_show 313 = .ok (.aload_n 0, 1) := by decide +kernel
theorem dX11_show_314 : decode cX11_show 314 = .ok (.iconst 0, 1) := by decide +kernel
theorem dX11_show_315 : decode cX11_show 315 = .ok (.putfield 68, 3) := by decide +kernel
theorem dX11_show_318 : decode cX11_show 318 = .ok (.aload_n 0, 1) := by decide +kernel
theorem dX11_show_319 : decode cX11_show 319 = .ok (.getfield 101, 3) := by decide +kernel
theorem dX11_show_322 : decode cX11_show 322 = .ok (.ireturn, 1) := by decide +kernel
theorem dX11_lacks_0 : decode cX11_lacks 0 = .ok (.aload_n 0, 1) := by decide +kernel
theorem dX11_lacks_1 : decode cX11_lacks 1 = .ok (.getfield 101, 3) := by decide +kernel
theorem dX11_lacks_4 : decode cX11_lacks 4 = .ok (.ifCond .ne 7, 3) := by decide +kernel
theorem dX11_lacks_7 : decode cX11_lacks 7 = .ok (.iconst 1, 1) := by decide +kernel
theorem dX11_lacks_8 : decode cX11_lacks 8 = .ok (.goto 4, 3) := by decide +kernel
theorem dX11_lacks_11 : decode cX11_lacks 11 = .ok (.iconst 0, 1) := by decide +kernel
theorem dX11_lacks_12 : decode cX11_lacks 12 = .ok (.ireturn, 1) := by decide +kernel
theorem dX11_isTrick_0 : decode cX11_isTrick 0 = .ok (.iload_n 1, 1) := by decide +kernel
theorem dX11_isTrick_1 : decode cX11_isTrick 1 = .ok (.i2l, 1) := by decide +kernel
theorem dX11_isTrick_2 : decode cX11_isTrick 2 = .ok (.lconst 0, 1) := by decide +kernel
theorem dX11_isTrick_3 : decode cX11_isTrick 3 = .ok (.aload_n 0, 1) := by decide +kernel
theorem dX11_isTrick_4 : decode cX11_isTrick 4 = .ok (.getfield 101, 3) := by decide +kernel
theorem dX11_isTrick_7 : decode cX11_isTrick 7 = .ok (.iconst 1, 1) := by decide +kernel
theorem dX11_isTrick_8 : decode cX11_isTrick 8 = .ok (.isub, 1) := by decide +kernel
theorem dX11_isTrick_9 : decode cX11_isTrick 9 = .ok (.i2l, 1) := by decide +kernel
theorem dX11_isTrick_10 : decode cX11_isTrick 10 = .ok (.invokestatic 64, 3) := by decide +kernel
theorem dX11_isTrick_13 : decode cX11_isTrick 13 = .ok (.ireturn, 1) := by decide +kernel
theorem dX11_isPerson_0 : decode cX11_isPerson 0 = .ok (.iload_n 1, 1) := by decide +kernel
theorem dX11_isPerson_1 : decode cX11_isPerson 1 = .ok (.i2l, 1) := by decide +kernel
theorem dX11_isPerson_2 : decode cX11_isPerson 2 = .ok (.lconst 0, 1) := by decide +kernel
theorem dX11_isPerson_3 : decode cX11_isPerson 3 = .ok (.aload_n 0, 1) := by decide +kernel
theorem dX11_isPerson_4 : decode cX11_isPerson 4 = .ok (.getfield 104, 3) := by decide +kernel
theorem dX11_isPerson_7 : decode cX11_isPerson 7 = .ok (.iconst 1, 1) := by decide +kernel
theorem dX11_isPerson_8 : decode cX11_isPerson 8 = .ok (.isub, 1) := by decide +kernel
theorem dX11_isPerson_9 : decode cX11_isPerson 9 = .ok (.i2l, 1) := by decide +kernel
theorem dX11_isPerson_10 : decode cX11_isPerson 10 = .ok (.invokestatic 64, 3) := by decide +kernel
theorem dX11_isPerson_13 : decode cX11_isPerson 13 = .ok (.ireturn, 1) := by decide +kernel
theorem dX11_isKept_0 : decode cX11_isKept 0 = .ok (.aload_n 0, 1) := by decide +kernel
theorem dX11_isKept_1 : decode cX11_isKept 1 = .ok (.getfield 16, 3) := by decide +kernel
theorem dX11_isKept_4 : decode cX11_isKept 4 = .ok (.iconst 3, 1) := by decide +kernel
theorem dX11_isKept_5 : decode cX11_isKept 5 = .ok (.iload_n 1, 1) := by decide +kernel
theorem dX11_isKept_6 : decode cX11_isKept 6 = .ok (.imul, 1) := by decide +kernel
theorem dX11_isKept_7 : decode cX11_isKept 7 = .ok (.iconst 1, 1) := by decide +kernel
theorem dX11_isKept_8 : decode cX11_isKept 8 = .ok (.iadd, 1) := by decide +kernel
theorem dX11_isKept_9 : decode cX11_isKept 9 = .ok (.iaload, 1) := by decide +kernel
theorem dX11_isKept_10 : decode cX11_isKept 10 = .ok (.iconst (-1), 1) := by decide +kernel
theorem dX11_isKept_11 : decode cX11_isKept 11 = .ok (.if_icmp .eq 7, 3) := by decide +kernel
theorem dX11_isKept_14 : decode cX11_isKept 14 = .ok (.iconst 1, 1) := by decide +kernel
theorem dX11_isKept_15 : decode cX11_isKept 15 = .ok (.goto 4, 3) := by decide +kernel
theorem dX11_isKept_18 : decode cX11_isKept 18 = .ok (.iconst 0, 1) := by decide +kernel
theorem dX11_isKept_19 : decode cX11_isKept 19 = .ok (.ireturn, 1) := by decide +kernel
theorem dX11_keptSet_0 : decode cX11_keptSet 0 = .ok (.iconst 0, 1) := by decide +kernel
theorem dX11_keptSet_1 : decode cX11_keptSet 1 = .ok (.istore_n 1, 1) := by decide +kernel
theorem dX11_keptSet_2 : decode cX11_keptSet 2 = .ok (.iconst 0, 1) := by decide +kernel
theorem dX11_keptSet_3 : decode cX11_keptSet 3 = .ok (.istore_n 2, 1) := by decide +kernel
theorem dX11_keptSet_4 : decode cX11_keptSet 4 = .ok (.iload_n 2, 1) := by decide +kernel
theorem dX11_keptSet_5 : decode cX11_keptSet 5 = .ok (.aload_n 0, 1) := by decide +kernel
theorem dX11_keptSet_6 : decode cX11_keptSet 6 = .ok (.getfield 104, 3) := by decide +kernel
theorem dX11_keptSet_9 : decode cX11_keptSet 9 = .ok (.if_icmp .ge 27, 3) := by decide +kernel
theorem dX11_keptSet_12 : decode cX11_keptSet 12 = .ok (.iload_n 1, 1) := by decide +kernel
theorem dX11_keptSet_13 : decode cX11_keptSet 13 = .ok (.aload_n 0, 1) := by decide +kernel
theorem dX11_keptSet_14 : decode cX11_keptSet 14 = .ok (.iload_n 2, 1) := by decide +kernel
theorem dX11_keptSet_15 : decode cX11_keptSet 15 = .ok (.invokevirtual 131, 3) := by decide +kernel
theorem dX11_keptSet_18 : decode cX11_keptSet 18 = .ok (.ifCond .eq 9, 3) := by decide +kernel
theorem dX11_keptSet_21 : decode cX11_keptSet 21 = .ok (.iconst 1, 1) := by decide +kernel
theorem dX11_keptSet_22 : decode cX11_keptSet 22 = .ok (.iload_n 2, 1) := by decide +kernel
theorem dX11_keptSet_23 : decode cX11_keptSet 23 = .ok (.ishl, 1) := by decide +kernel
theorem dX11_keptSet_24 : decode cX11_keptSet 24 = .ok (.goto 4, 3) := by decide +kernel
theorem dX11_keptSet_27 : decode cX11_keptSet 27 = .ok (.iconst 0, 1) := by decide +kernel
theorem dX11_keptSet_28 : decode cX11_keptSet 28 = .ok (.ior, 1) := by decide +kernel
theorem dX11_keptSet_29 : decode cX11_keptSet 29 = .ok (.istore_n 1, 1) := by decide +kernel
theorem dX11_keptSet_30 : decode cX11_keptSet 30 = .ok (.iinc 2 1, 3) := by decide +kernel
theorem dX11_keptSet_33 : decode cX11_keptSet 33 = .ok (.goto (-29), 3) := by decide +kernel
theorem dX11_keptSet_36 : decode cX11_keptSet 36 = .ok (.iload_n 1, 1) := by decide +kernel
theorem dX11_keptSet_37 : decode cX11_keptSet 37 = .ok (.ireturn, 1) := by decide +kernel
theorem dX11_wantsOf_0 : decode cX11_wantsOf 0 = .ok (.aload_n 0, 1) := by decide +kernel
theorem dX11_wantsOf_1 : decode cX11_wantsOf 1 = .ok (.getfield 13, 3) := by decide +kernel
theorem dX11_wantsOf_4 : decode cX11_wantsOf 4 = .ok (.iconst 4, 1) := by decide +kernel
theorem dX11_wantsOf_5 : decode cX11_wantsOf 5 = .ok (.iload_n 1, 1) := by decide +kernel
theorem dX11_wantsOf_6 : decode cX11_wantsOf 6 = .ok (.imul, 1) := by decide +kernel
theorem dX11_wantsOf_7 : decode cX11_wantsOf 7 = .ok (.iaload, 1) := by decide +kernel
theorem dX11_wantsOf_8 : decode cX11_wantsOf 8 = .ok (.iconst 1, 1) := by decide +kernel
theorem dX11_wantsOf_9 : decode cX11_wantsOf 9 = .ok (.if_icmp .eq 15, 3) := by decide +kernel
theorem dX11_wantsOf_12 : decode cX11_wantsOf 12 = .ok (.aload_n 0, 1) := by decide +kernel
theorem dX11_wantsOf_13 : decode cX11_wantsOf 13 = .ok (.getfield 13, 3) := by decide +kernel
theorem dX11_wantsOf_16 : decode cX11_wantsOf 16 = .ok (.iconst 4, 1) := by decide +kernel
theorem dX11_wantsOf_17 : decode cX11_wantsOf 17 = .ok (.iload_n 1, 1) := by decide +kernel
theorem dX11_wantsOf_18 : decode cX11_wantsOf 18 = .ok (.imul, 1) := by decide +kernel
theorem dX11_wantsOf_19 : decode cX11_wantsOf 19 = .ok (.iaload, 1) := by decide +kernel
theorem dX11_wantsOf_20 : decode cX11_wantsOf 20 = .ok (.iconst 4, 1) := by decide +kernel
theorem dX11_wantsOf_21 : decode cX11_wantsOf 21 = .ok (.if_icmp .ne 7, 3) := by decide +kernel
theorem dX11_wantsOf_24 : decode cX11_wantsOf 24 = .ok (.iconst 2, 1) := by decide +kernel
theorem dX11_wantsOf_25 : decode cX11_wantsOf 25 = .ok (.goto 4, 3) := by decide +kernel
theorem dX11_wantsOf_28 : decode cX11_wantsOf 28 = .ok (.iconst 1, 1) := by decide +kernel
theorem dX11_wantsOf_29 : decode cX11_wantsOf 29 = .ok (.ireturn, 1) := by decide +kernel
theorem dX11_fitsBy_0 : decode cX11_fitsBy 0 = .ok (.aload_n 0, 1) := by decide +kernel
theorem dX11_fitsBy_1 : decode cX11_fitsBy 1 = .ok (.getfield 13, 3) := by decide +kernel
theorem dX11_fitsBy_4 : decode cX11_fitsBy 4 = .ok (.iconst 4, 1) := by decide +kernel
theorem dX11_fitsBy_5 : decode cX11_fitsBy 5 = .ok (.iload_n 2, 1) := by decide +kernel
theorem dX11_fitsBy_6 : decode cX11_fitsBy 6 = .ok (.imul, 1) := by decide +kernel
theorem dX11_fitsBy_7 : decode cX11_fitsBy 7 = .ok (.iaload, 1) := by decide +kernel
theorem dX11_fitsBy_8 : decode cX11_fitsBy 8 = .ok (.istore_n 3, 1) := by decide +kernel
theorem dX11_fitsBy_9 : decode cX11_fitsBy 9 = .ok (.aload_n 0, 1) := by decide +kernel
theorem dX11_fitsBy_10 : decode cX11_fitsBy 10 = .ok (.getfield 13, 3) := by decide +kernel
theorem dX11_fitsBy_13 : decode cX11_fitsBy 13 = .ok (.iconst 4, 1) := by decide +kernel
theorem dX11_fitsBy_14 : decode cX11_fitsBy 14 = .ok (.iload_n 2, 1) := by decide +kernel
theorem dX11_fitsBy_15 : decode cX11_fitsBy 15 = .ok (.imul, 1) := by decide +kernel
theorem dX11_fitsBy_16 : decode cX11_fitsBy 16 = .ok (.iconst 3, 1) := by decide +kernel
theorem dX11_fitsBy_17 : decode cX11_fitsBy 17 = .ok (.iadd, 1) := by decide +kernel
theorem dX11_fitsBy_18 : decode cX11_fitsBy 18 = .ok (.iaload, 1) := by decide +kernel
theorem dX11_fitsBy_19 : decode cX11_fitsBy 19 = .ok (.istore 4, 2) := by decide +kernel
theorem dX11_fitsBy_21 : decode cX11_fitsBy 21 = .ok (.iload_n 3, 1) := by decide +kernel
theorem dX11_fitsBy_22 : decode cX11_fitsBy 22 = .ok (.iconst 4, 1) := by decide +kernel
theorem dX11_fitsBy_23 : decode cX11_fitsBy 23 = .ok (.if_icmp .eq 23, 3) := by decide +kernel
theorem dX11_fitsBy_26 : decode cX11_fitsBy 26 = .ok (.iload_n 3, 1) := by decide +kernel
theorem dX11_fitsBy_27 : decode cX11_fitsBy 27 = .ok (.iconst 2, 1) := by decide +kernel
theorem dX11_fitsBy_28 : decode cX11_fitsBy 28 = .ok (.if_icmp .ne 12, 3) := by decide +kernel
theorem dX11_fitsBy_31 : decode cX11_fitsBy 31 = .ok (.iload_n 1, 1) := by decide +kernel
theorem dX11_fitsBy_32 : decode cX11_fitsBy 32 = .ok (.iload 4, 2) := by decide +kernel
theorem dX11_fitsBy_34 : decode cX11_fitsBy 34 = .ok (.if_icmp .gt 16, 3) := by decide +kernel
theorem dX11_fitsBy_37 : decode cX11_fitsBy 37 = .ok (.goto 9, 3) := by decide +kernel
theorem dX11_fitsBy_40 : decode cX11_fitsBy 40 = .ok (.iload_n 1, 1) := by decide +kernel
theorem dX11_fitsBy_41 : decode cX11_fitsBy 41 = .ok (.iload 4, 2) := by decide +kernel
theorem dX11_fitsBy_43 : decode cX11_fitsBy 43 = .ok (.if_icmp .lt 7, 3) := by decide +kernel
theorem dX11_fitsBy_46 : decode cX11_fitsBy 46 = .ok (.iconst 1, 1) := by decide +kernel
theorem dX11_fitsBy_47 : decode cX11_fitsBy 47 = .ok (.goto 4, 3) := by decide +kernel
theorem dX11_fitsBy_50 : decode cX11_fitsBy 50 = .ok (.iconst 0, 1) := by decide +kernel
theorem dX11_fitsBy_51 : decode cX11_fitsBy 51 = .ok (.ireturn, 1) := by decide +kernel
theorem dX11_fittingSet_0 : decode cX11_fittingSet 0 = .ok (.iconst 0, 1) := by decide +kernel
theorem dX11_fittingSet_1 : decode cX11_fittingSet 1 = .ok (.istore_n 2, 1) := by decide +kernel
theorem dX11_fittingSet_2 : decode cX11_fittingSet 2 = .ok (.iconst 0, 1) := by decide +kernel
theorem dX11_fittingSet_3 : decode cX11_fittingSet 3 = .ok (.istore_n 3, 1) := by decide +kernel
theorem dX11_fittingSet_4 : decode cX11_fittingSet 4 = .ok (.iload_n 3, 1) := by decide +kernel
theorem dX11_fittingSet_5 : decode cX11_fittingSet 5 = .ok (.aload_n 0, 1) := by decide +kernel
theorem dX11_fittingSet_6 : decode cX11_fittingSet 6 = .ok (.getfield 104, 3) := by decide +kernel
theorem dX11_fittingSet_9 : decode cX11_fittingSet 9 = .ok (.if_icmp .ge 43, 3) := by decide +kernel
theorem dX11_fittingSet_12 : decode cX11_fittingSet 12 = .ok (.iload_n 2, 1) := by decide +kernel
theorem dX11_fittingSet_13 : decode cX11_fittingSet 13 = .ok (.aload_n 0, 1) := by decide +kernel
theorem dX11_fittingSet_14 : decode cX11_fittingSet 14 = .ok (.iload_n 3, 1) := by decide +kernel
theorem dX11_fittingSet_15 : decode cX11_fittingSet 15 = .ok (.invokevirtual 131, 3) := by decide +kernel
theorem dX11_fittingSet_18 : decode cX11_fittingSet 18 = .ok (.ifCond .eq 25, 3) := by decide +kernel
theorem dX11_fittingSet_21 : decode cX11_fittingSet 21 = .ok (.aload_n 0, 1) := by decide +kernel
theorem dX11_fittingSet_22 : decode cX11_fittingSet 22 = .ok (.aload_n 0, 1) := by decide +kernel
theorem dX11_fittingSet_23 : decode cX11_fittingSet 23 = .ok (.getfield 16, 3) := by decide +kernel
theorem dX11_fittingSet_26 : decode cX11_fittingSet 26 = .ok (.iconst 3, 1) := by decide +kernel
theorem dX11_fittingSet_27 : decode cX11_fittingSet 27 = .ok (.iload_n 3, 1) := by decide +kernel
theorem dX11_fittingSet_28 : decode cX11_fittingSet 28 = .ok (.imul, 1) := by decide +kernel
theorem dX11_fittingSet_29 : decode cX11_fittingSet 29 = .ok (.iaload, 1) := by decide +kernel
theorem dX11_fittingSet_30 : decode cX11_fittingSet 30 = .ok (.iload_n 1, 1) := by decide +kernel
theorem dX11_fittingSet_31 : decode cX11_fittingSet 31 = .ok (.invokevirtual 134, 3) := by decide +kernel
theorem dX11_fittingSet_34 : decode cX11_fittingSet 34 = .ok (.ifCond .eq 9, 3) := by decide +kernel
theorem dX11_fittingSet_37 : decode cX11_fittingSet 37 = .ok (.iconst 1, 1) := by decide +kernel
theorem dX11_fittingSet_38 : decode cX11_fittingSet 38 = .ok (.iload_n 3, 1) := by decide +kernel
theorem dX11_fittingSet_39 : decode cX11_fittingSet 39 = .ok (.ishl, 1) := by decide +kernel
theorem dX11_fittingSet_40 : decode cX11_fittingSet 40 = .ok (.goto 4, 3) := by decide +kernel
theorem dX11_fittingSet_43 : decode cX11_fittingSet 43 = .ok (.iconst 0, 1) := by decide +kernel
theorem dX11_fittingSet_44 : decode cX11_fittingSet 44 = .ok (.ior, 1) := by decide +kernel
theorem dX11_fittingSet_45 : decode cX11_fittingSet 45 = .ok (.istore_n 2, 1) := by decide +kernel
theorem dX11_fittingSet_46 : decode cX11_fittingSet 46 = .ok (.iinc 3 1, 3) := by decide +kernel
theorem dX11_fittingSet_49 : decode cX11_fittingSet 49 = .ok (.goto (-45), 3) := by decide +kernel
theorem dX11_fittingSet_52 : decode cX11_fittingSet 52 = .ok (.iload_n 2, 1) := by decide +kernel
theorem dX11_fittingSet_53 : decode cX11_fittingSet 53 = .ok (.ireturn, 1) := by decide +kernel
theorem dX11_strongAll_0 : decode cX11_strongAll 0 = .ok (.iconst 0, 1) := by decide +kernel
theorem dX11_strongAll_1 : decode cX11_strongAll 1 = .ok (.istore_n 2, 1) := by decide +kernel
theorem dX11_strongAll_2 : decode cX11_strongAll 2 = .ok (.iconst 0, 1) := by decide +kernel
theorem dX11_strongAll_3 : decode cX11_strongAll 3 = .ok (.istore_n 3, 1) := by decide +kernel
theorem dX11_strongAll_4 : decode cX11_strongAll 4 = .ok (.iload_n 3, 1) := by decide +kernel
theorem dX11_strongAll_5 : decode cX11_strongAll 5 = .ok (.aload_n 0, 1) := by decide +kernel
theorem dX11_strongAll_6 : decode cX11_strongAll 6 = .ok (.getfield 104, 3) := by decide +kernel
theorem dX11_strongAll_9 : decode cX11_strongAll 9 = .ok (.if_icmp .ge 26, 3) := by decide +kernel
theorem dX11_strongAll_12 : decode cX11_strongAll 12 = .ok (.iload_n 2, 1) := by decide +kernel
theorem dX11_strongAll_13 : decode cX11_strongAll 13 = .ok (.iload_n 1, 1) := by decide +kernel
theorem dX11_strongAll_14 : decode cX11_strongAll 14 = .ok (.iload_n 3, 1) := by decide +kernel
theorem dX11_strongAll_15 : decode cX11_strongAll 15 = .ok (.ishr, 1) := by decide +kernel
theorem dX11_strongAll_16 : decode cX11_strongAll 16 = .ok (.iconst 1, 1) := by decide +kernel
theorem dX11_strongAll_17 : decode cX11_strongAll 17 = .ok (.iand, 1) := by decide +kernel
theorem dX11_strongAll_18 : decode cX11_strongAll 18 = .ok (.aload_n 0, 1) := by decide +kernel
theorem dX11_strongAll_19 : decode cX11_strongAll 19 = .ok (.getfield 16, 3) := by decide +kernel
theorem dX11_strongAll_22 : decode cX11_strongAll 22 = .ok (.iconst 3, 1) := by decide +kernel
theorem dX11_strongAll_23 : decode cX11_strongAll 23 = .ok (.iload_n 3, 1) := by decide +kernel
theorem dX11_strongAll_24 : decode cX11_strongAll 24 = .ok (.imul, 1) := by decide +kernel
theorem dX11_strongAll_25 : decode cX11_strongAll 25 = .ok (.iaload, 1) := by decide +kernel
theorem dX11_strongAll_26 : decode cX11_strongAll 26 = .ok (.imul, 1) := by decide +kernel
theorem dX11_strongAll_27 : decode cX11_strongAll 27 = .ok (.iadd, 1) := by decide +kernel
theorem dX11_strongAll_28 : decode cX11_strongAll 28 = .ok (.istore_n 2, 1) := by decide +kernel
theorem dX11_strongAll_29 : decode cX11_strongAll 29 = .ok (.iinc 3 1, 3) := by decide +kernel
theorem dX11_strongAll_32 : decode cX11_strongAll 32 = .ok (.goto (-28), 3) := by decide +kernel
theorem dX11_strongAll_35 : decode cX11_strongAll 35 = .ok (.iload_n 2, 1) := by decide +kernel
theorem dX11_strongAll_36 : decode cX11_strongAll 36 = .ok (.ireturn, 1) := by decide +kernel
theorem dX11_isDoneBy_0 : decode cX11_isDoneBy 0 = .ok (.aload_n 0, 1) := by decide +kernel
theorem dX11_isDoneBy_1 : decode cX11_isDoneBy 1 = .ok (.getfield 13, 3) := by decide +kernel
theorem dX11_isDoneBy_4 : decode cX11_isDoneBy 4 = .ok (.iconst 4, 1) := by decide +kernel
theorem dX11_isDoneBy_5 : decode cX11_isDoneBy 5 = .ok (.iload_n 1, 1) := by decide +kernel
theorem dX11_isDoneBy_6 : decode cX11_isDoneBy 6 = .ok (.imul, 1) := by decide +kernel
theorem dX11_isDoneBy_7 : decode cX11_isDoneBy 7 = .ok (.iaload, 1) := by decide +kernel
theorem dX11_isDoneBy_8 : decode cX11_isDoneBy 8 = .ok (.iconst 4, 1) := by decide +kernel
theorem dX11_isDoneBy_9 : decode cX11_isDoneBy 9 = .ok (.if_icmp .ne 21, 3) := by decide +kernel
theorem dX11_isDoneBy_12 : decode cX11_isDoneBy 12 = .ok (.aload_n 0, 1) := by decide +kernel
theorem dX11_isDoneBy_13 : decode cX11_isDoneBy 13 = .ok (.iload_n 2, 1) := by decide +kernel
theorem dX11_isDoneBy_14 : decode cX11_isDoneBy 14 = .ok (.invokevirtual 138, 3) := by decide +kernel
theorem dX11_isDoneBy_17 : decode cX11_isDoneBy 17 = .ok (.aload_n 0, 1) := by decide +kernel
theorem dX11_isDoneBy_18 : decode cX11_isDoneBy 18 = .ok (.getfield 13, 3) := by decide +kernel
theorem dX11_isDoneBy_21 : decode cX11_isDoneBy 21 = .ok (.iconst 4, 1) := by decide +kernel
theorem dX11_isDoneBy_22 : decode cX11_isDoneBy 22 = .ok (.iload_n 1, 1) := by decide +kernel
theorem dX11_isDoneBy_23 : decode cX11_isDoneBy 23 = .ok (.imul, 1) := by decide +kernel
theorem dX11_isDoneBy_24 : decode cX11_isDoneBy 24 = .ok (.iconst 3, 1) := by decide +kernel
theorem dX11_isDoneBy_25 : decode cX11_isDoneBy 25 = .ok (.iadd, 1) := by decide +kernel
theorem dX11_isDoneBy_26 : decode cX11_isDoneBy 26 = .ok (.iaload, 1) := by decide +kernel
theorem dX11_isDoneBy_27 : decode cX11_isDoneBy 27 = .ok (.if_icmp .lt 7, 3) := by decide +kernel
theorem dX11_isDoneBy_30 : decode cX11_isDoneBy 30 = .ok (.iconst 1, 1) := by decide +kernel
theorem dX11_isDoneBy_31 : decode cX11_isDoneBy 31 = .ok (.goto 4, 3) := by decide +kernel
theorem dX11_isDoneBy_34 : decode cX11_isDoneBy 34 = .ok (.iconst 0, 1) := by decide +kernel
theorem dX11_isDoneBy_35 : decode cX11_isDoneBy 35 = .ok (.istore_n 3, 1) := by decide +kernel
theorem dX11_isDoneBy_36 : decode cX11_isDoneBy 36 = .ok (.iload_n 2, 1) := by decide +kernel
theorem dX11_isDoneBy_37 : decode cX11_isDoneBy 37 = .ok (.invokestatic 141, 3) := by decide +kernel
theorem dX11_isDoneBy_40 : decode cX11_isDoneBy 40 = .ok (.aload_n 0, 1) := by decide +kernel
theorem dX11_isDoneBy_41 : decode cX11_isDoneBy 41 = .ok (.iload_n 1, 1) := by decide +kernel
theorem dX11_isDoneBy_42 : decode cX11_isDoneBy 42 = .ok (.invokevirtual 144, 3) := by decide +kernel
theorem dX11_isDoneBy_45 : decode cX11_isDoneBy 45 = .ok (.if_icmp .ne 23, 3) := by decide +kernel
theorem dX11_isDoneBy_48 : decode cX11_isDoneBy 48 = .ok (.iload_n 2, 1) := by decide +kernel
theorem dX11_isDoneBy_49 : decode cX11_isDoneBy 49 = .ok (.aload_n 0, 1) := by decide +kernel
theorem dX11_isDoneBy_50 : decode cX11_isDoneBy 50 = .ok (.iload_n 1, 1) := by decide +kernel
theorem dX11_isDoneBy_51 : decode cX11_isDoneBy 51 = .ok (.invokevirtual 147, 3) := by decide +kernel
theorem dX11_isDoneBy_54 : decode cX11_isDoneBy 54 = .ok (.iconst (-1), 1) := by decide +kernel
theorem dX11_isDoneBy_55 : decode cX11_isDoneBy 55 = .ok (.ixor, 1) := by decide +kernel
theorem dX11_isDoneBy_56 : decode cX11_isDoneBy 56 = .ok (.iand, 1) := by decide +kernel
theorem dX11_isDoneBy_57 : decode cX11_isDoneBy 57 = .ok (.ifCond .ne 11, 3) := by decide +kernel
theorem dX11_isDoneBy_60 : decode cX11_isDoneBy 60 = .ok (.iload_n 3, 1) := by decide +kernel
theorem dX11_isDoneBy_61 : decode cX11_isDoneBy 61 = .ok (.ifCond .eq 7, 3) := by decide +kernel
theorem dX11_isDoneBy_64 : decode cX11_isDoneBy 64 = .ok (.iconst 1, 1) := by decide +kernel
theorem dX11_isDoneBy_65 : decode cX11_isDoneBy 65 = .ok (.goto 4, 3) := by decide +kernel
theorem dX11_isDoneBy_68 : decode cX11_isDoneBy 68 = .ok (.iconst 0, 1) := by decide +kernel
theorem dX11_isDoneBy_69 : decode cX11_isDoneBy 69 = .ok (.ireturn, 1) := by decide +kernel
theorem dX11_hoursOf_0 : decode cX11_hoursOf 0 = .ok (.iconst 1, 1) := by decide +kernel
theorem dX11_hoursOf_1 : decode cX11_hoursOf 1 = .ok (.aload_n 0, 1) := by decide +kernel
theorem dX11_hoursOf_2 : decode cX11_hoursOf 2 = .ok (.getfield 13, 3) := by decide +kernel
theorem dX11_hoursOf_5 : decode cX11_hoursOf 5 = .ok (.iconst 4, 1) := by decide +kernel
theorem dX11_hoursOf_6 : decode cX11_hoursOf 6 = .ok (.iload_n 1, 1) := by decide +kernel
theorem dX11_hoursOf_7 : decode cX11_hoursOf 7 = .ok (.imul, 1) := by decide +kernel
theorem dX11_hoursOf_8 : decode cX11_hoursOf 8 = .ok (.iconst 2, 1) := by decide +kernel
theorem dX11_hoursOf_9 : decode cX11_hoursOf 9 = .ok (.iadd, 1) := by decide +kernel
theorem dX11_hoursOf_10 : decode cX11_hoursOf 10 = .ok (.iaload, 1) := by decide +kernel
theorem dX11_hoursOf_11 : decode cX11_hoursOf 11 = .ok (.ishl, 1) := by decide +kernel
theorem dX11_hoursOf_12 : decode cX11_hoursOf 12 = .ok (.iconst 1, 1) := by decide +kernel
theorem dX11_hoursOf_13 : decode cX11_hoursOf 13 = .ok (.isub, 1) := by decide +kernel
theorem dX11_hoursOf_14 : decode cX11_hoursOf 14 = .ok (.aload_n 0, 1) := by decide +kernel
theorem dX11_hoursOf_15 : decode cX11_hoursOf 15 = .ok (.getfield 13, 3) := by decide +kernel
theorem dX11_hoursOf_18 : decode cX11_hoursOf 18 = .ok (.iconst 4, 1) := by decide +kernel
theorem dX11_hoursOf_19 : decode cX11_hoursOf 19 = .ok (.iload_n 1, 1) := by decide +kernel
theorem dX11_hoursOf_20 : decode cX11_hoursOf 20 = .ok (.imul, 1) := by decide +kernel
theorem dX11_hoursOf_21 : decode cX11_hoursOf 21 = .ok (.iconst 1, 1) := by decide +kernel
theorem dX11_hoursOf_22 : decode cX11_hoursOf 22 = .ok (.iadd, 1) := by decide +kernel
theorem dX11_hoursOf_23 : decode cX11_hoursOf 23 = .ok (.iaload, 1) := by decide +kernel
theorem dX11_hoursOf_24 : decode cX11_hoursOf 24 = .ok (.ishl, 1) := by decide +kernel
theorem dX11_hoursOf_25 : decode cX11_hoursOf 25 = .ok (.ireturn, 1) := by decide +kernel
theorem dX11_busyBy_0 : decode cX11_busyBy 0 = .ok (.aload_n 0, 1) := by decide +kernel
theorem dX11_busyBy_1 : decode cX11_busyBy 1 = .ok (.iload_n 1, 1) := by decide +kernel
theorem dX11_busyBy_2 : decode cX11_busyBy 2 = .ok (.invokevirtual 150, 3) := by decide +kernel
theorem dX11_busyBy_5 : decode cX11_busyBy 5 = .ok (.istore_n 2, 1) := by decide +kernel
theorem dX11_busyBy_6 : decode cX11_busyBy 6 = .ok (.aload_n 0, 1) := by decide +kernel
theorem dX11_busyBy_7 : decode cX11_busyBy 7 = .ok (.getfield 13, 3) := by decide +kernel
theorem dX11_busyBy_10 : decode cX11_busyBy 10 = .ok (.iconst 4, 1) := by decide +kernel
theorem dX11_busyBy_11 : decode cX11_busyBy 11 = .ok (.iload_n 1, 1) := by decide +kernel
theorem dX11_busyBy_12 : decode cX11_busyBy 12 = .ok (.imul, 1) := by decide +kernel
theorem dX11_busyBy_13 : decode cX11_busyBy 13 = .ok (.iaload, 1) := by decide +kernel
theorem dX11_busyBy_14 : decode cX11_busyBy 14 = .ok (.iconst 3, 1) := by decide +kernel
theorem dX11_busyBy_15 : decode cX11_busyBy 15 = .ok (.if_icmp .ne 11, 3) := by decide +kernel
theorem dX11_busyBy_18 : decode cX11_busyBy 18 = .ok (.iload_n 2, 1) := by decide +kernel
theorem dX11_busyBy_19 : decode cX11_busyBy 19 = .ok (.iload_n 2, 1) := by decide +kernel
theorem dX11_busyBy_20 : decode cX11_busyBy 20 = .ok (.iconst 1, 1) := by decide +kernel
theorem dX11_busyBy_21 : decode cX11_busyBy 21 = .ok (.ishl, 1) := by decide +kernel
theorem dX11_busyBy_22 : decode cX11_busyBy 22 = .ok (.ior, 1) := by decide +kernel
theorem dX11_busyBy_23 : decode cX11_busyBy 23 = .ok (.goto 4, 3) := by decide +kernel
theorem dX11_busyBy_26 : decode cX11_busyBy 26 = .ok (.iload_n 2, 1) := by decide +kernel
theorem dX11_busyBy_27 : decode cX11_busyBy 27 = .ok (.ireturn, 1) := by decide +kernel
theorem dX11_clash_0 : decode cX11_clash 0 = .ok (.iload_n 1, 1) := by decide +kernel
theorem dX11_clash_1 : decode cX11_clash 1 = .ok (.iload_n 2, 1) := by decide +kernel
theorem dX11_clash_2 : decode cX11_clash 2 = .ok (.if_icmp .eq 21, 3) := by decide +kernel
theorem dX11_clash_5 : decode cX11_clash 5 = .ok (.aload_n 0, 1) := by decide +kernel
theorem dX11_clash_6 : decode cX11_clash 6 = .ok (.iload_n 1, 1) := by decide +kernel
theorem dX11_clash_7 : decode cX11_clash 7 = .ok (.invokevirtual 153, 3) := by decide +kernel
theorem dX11_clash_10 : decode cX11_clash 10 = .ok (.aload_n 0, 1) := by decide +kernel
theorem dX11_clash_11 : decode cX11_clash 11 = .ok (.iload_n 2, 1) := by decide +kernel
theorem dX11_clash_12 : decode cX11_clash 12 = .ok (.invokevirtual 153, 3) := by decide +kernel
theorem dX11_clash_15 : decode cX11_clash 15 = .ok (.iand, 1) := by decide +kernel
theorem dX11_clash_16 : decode cX11_clash 16 = .ok (.ifCond .eq 7, 3) := by decide +kernel
theorem dX11_clash_19 : decode cX11_clash 19 = .ok (.iconst 1, 1) := by decide +kernel
theorem dX11_clash_20 : decode cX11_clash 20 = .ok (.goto 4, 3) := by decide +kernel
theorem dX11_clash_23 : decode cX11_clash 23 = .ok (.iconst 0, 1) := by decide +kernel
theorem dX11_clash_24 : decode cX11_clash 24 = .ok (.ireturn, 1) := by decide +kernel
theorem dX11_clashSet_0 : decode cX11_clashSet 0 = .ok (.iconst 0, 1) := by decide +kernel
theorem dX11_clashSet_1 : decode cX11_clashSet 1 = .ok (.istore_n 2, 1) := by decide +kernel
theorem dX11_clashSet_2 : decode cX11_clashSet 2 = .ok (.iconst 0, 1) := by decide +kernel
theorem dX11_clashSet_3 : decode cX11_clashSet 3 = .ok (.istore_n 3, 1) := by decide +kernel
theorem dX11_clashSet_4 : decode cX11_clashSet 4 = .ok (.iload_n 3, 1) := by decide +kernel
theorem dX11_clashSet_5 : decode cX11_clashSet 5 = .ok (.aload_n 0, 1) := by decide +kernel
theorem dX11_clashSet_6 : decode cX11_clashSet 6 = .ok (.getfield 101, 3) := by decide +kernel
theorem dX11_clashSet_9 : decode cX11_clashSet 9 = .ok (.if_icmp .ge 28, 3) := by decide +kernel
theorem dX11_clashSet_12 : decode cX11_clashSet 12 = .ok (.iload_n 2, 1) := by decide +kernel
theorem dX11_clashSet_13 : decode cX11_clashSet 13 = .ok (.aload_n 0, 1) := by decide +kernel
theorem dX11_clashSet_14 : decode cX11_clashSet 14 = .ok (.iload_n 1, 1) := by decide +kernel
theorem dX11_clashSet_15 : decode cX11_clashSet 15 = .ok (.iload_n 3, 1) := by decide +kernel
theorem dX11_clashSet_16 : decode cX11_clashSet 16 = .ok (.invokevirtual 156, 3) := by decide +kernel
theorem dX11_clashSet_19 : decode cX11_clashSet 19 = .ok (.ifCond .eq 9, 3) := by decide +kernel
theorem dX11_clashSet_22 : decode cX11_clashSet 22 = .ok (.iconst 1, 1) := by decide +kernel
theorem dX11_clashSet_23 : decode cX11_clashSet 23 = .ok (.iload_n 3, 1) := by decide +kernel
theorem dX11_clashSet_24 : decode cX11_clashSet 24 = .ok (.ishl, 1) := by decide +kernel
theorem dX11_clashSet_25 : decode cX11_clashSet 25 = .ok (.goto 4, 3) := by decide +kernel
theorem dX11_clashSet_28 : decode cX11_clashSet 28 = .ok (.iconst 0, 1) := by decide +kernel
theorem dX11_clashSet_29 : decode cX11_clashSet 29 = .ok (.ior, 1) := by decide +kernel
theorem dX11_clashSet_30 : decode cX11_clashSet 30 = .ok (.istore_n 2, 1) := by decide +kernel
theorem dX11_clashSet_31 : decode cX11_clashSet 31 = .ok (.iinc 3 1, 3) := by decide +kernel
theorem dX11_clashSet_34 : decode cX11_clashSet 34 = .ok (.goto (-30), 3) := by decide +kernel
theorem dX11_clashSet_37 : decode cX11_clashSet 37 = .ok (.iload_n 2, 1) := by decide +kernel
theorem dX11_clashSet_38 : decode cX11_clashSet 38 = .ok (.ireturn, 1) := by decide +kernel
theorem dX11_tellTrick_0 : decode cX11_tellTrick 0 = .ok (.iload_n 2, 1) := by decide +kernel
theorem dX11_tellTrick_1 : decode cX11_tellTrick 1 = .ok (.tableswitch 107 0 8 #[51, 51, 51, 51, 62, 68, 75, 95, 101], 51) := by decide +kernel
theorem dX11_tellTrick_52 : decode cX11_tellTrick 52 = .ok (.aload_n 0, 1) := by decide +kernel
theorem dX11_tellTrick_53 : decode cX11_tellTrick 53 = .ok (.getfield 13, 3) := by decide +kernel
theorem dX11_tellTrick_56 : decode cX11_tellTrick 56 = .ok (.iconst 4, 1) := by decide +kernel
theorem dX11_tellTrick_57 : decode cX11_tellTrick 57 = .ok (.iload_n 1, 1) := by decide +kernel
theorem dX11_tellTrick_58 : decode cX11_tellTrick 58 = .ok (.imul, 1) := by decide +kernel
theorem dX11_tellTrick_59 : decode cX11_tellTrick 59 = .ok (.iload_n 2, 1) := by decide +kernel
theorem dX11_tellTrick_60 : decode cX11_tellTrick 60 = .ok (.iadd, 1) := by decide +kernel
theorem dX11_tellTrick_61 : decode cX11_tellTrick 61 = .ok (.iaload, 1) := by decide +kernel
theorem dX11_tellTrick_62 : decode cX11_tellTrick 62 = .ok (.ireturn, 1) := by decide +kernel
theorem dX11_tellTrick_63 : decode cX11_tellTrick 63 = .ok (.aload_n 0, 1) := by decide +kernel
theorem dX11_tellTrick_64 : decode cX11_tellTrick 64 = .ok (.iload_n 1, 1) := by decide +kernel
theorem dX11_tellTrick_65 : decode cX11_tellTrick 65 = .ok (.invokevirtual 144, 3) := by decide +kernel
theorem dX11_tellTrick_68 : decode cX11_tellTrick 68 = .ok (.ireturn, 1) := by decide +kernel
theorem dX11_tellTrick_69 : decode cX11_tellTrick 69 = .ok (.aload_n 0, 1) := by decide +kernel
theorem dX11_tellTrick_70 : decode cX11_tellTrick 70 = .ok (.getfield 19, 3) := by decide +kernel
theorem dX11_tellTrick_73 : decode cX11_tellTrick 73 = .ok (.iload_n 1, 1) := by decide +kernel
theorem dX11_tellTrick_74 : decode cX11_tellTrick 74 = .ok (.iaload, 1) := by decide +kernel
theorem dX11_tellTrick_75 : decode cX11_tellTrick 75 = .ok (.ireturn, 1) := by decide +kernel
theorem dX11_tellTrick_76 : decode cX11_tellTrick 76 = .ok (.aload_n 0, 1) := by decide +kernel
theorem dX11_tellTrick_77 : decode cX11_tellTrick 77 = .ok (.iload_n 1, 1) := by decide +kernel
theorem dX11_tellTrick_78 : decode cX11_tellTrick 78 = .ok (.aload_n 0, 1) := by decide +kernel
theorem dX11_tellTrick_79 : decode cX11_tellTrick 79 = .ok (.getfield 19, 3) := by decide +kernel
theorem dX11_tellTrick_82 : decode cX11_tellTrick 82 = .ok (.iload_n 1, 1) := by decide +kernel
theorem dX11_tellTrick_83 : decode cX11_tellTrick 83 = .ok (.iaload, 1) := by decide +kernel
theorem dX11_tellTrick_84 : decode cX11_tellTrick 84 = .ok (.invokevirtual 159, 3) := by decide +kernel
theorem dX11_tellTrick_87 : decode cX11_tellTrick 87 = .ok (.ifCond .eq 7, 3) := by decide +kernel
theorem dX11_tellTrick_90 : decode cX11_tellTrick 90 = .ok (.iconst 1, 1) := by decide +kernel
theorem dX11_tellTrick_91 : decode cX11_tellTrick 91 = .ok (.goto 4, 3) := by decide +kernel
theorem dX11_tellTrick_94 : decode cX11_tellTrick 94 = .ok (.iconst 0, 1) := by decide +kernel
theorem dX11_tellTrick_95 : decode cX11_tellTrick 95 = .ok (.ireturn, 1) := by decide +kernel
theorem dX11_tellTrick_96 : decode cX11_tellTrick 96 = .ok (.aload_n 0, 1) := by decide +kernel
theorem dX11_tellTrick_97 : decode cX11_tellTrick 97 = .ok (.iload_n 1, 1) := by decide +kernel
theorem dX11_tellTrick_98 : decode cX11_tellTrick 98 = .ok (.invokevirtual 147, 3) := by decide +kernel
theorem dX11_tellTrick_101 : decode cX11_tellTrick 101 = .ok (.ireturn, 1) := by decide +kernel
theorem dX11_tellTrick_102 : decode cX11_tellTrick 102 = .ok (.aload_n 0, 1) := by decide +kernel
theorem dX11_tellTrick_103 : decode cX11_tellTrick 103 = .ok (.iload_n 1, 1) := by decide +kernel
theorem dX11_tellTrick_104 : decode cX11_tellTrick 104 = .ok (.invokevirtual 162, 3) := by decide +kernel
theorem dX11_tellTrick_107 : decode cX11_tellTrick 107 = .ok (.ireturn, 1) := by decide +kernel
theorem dX11_tellTrick_108 : decode cX11_tellTrick 108 = .ok (.bipush (-102), 2) := by decide +kernel
theorem dX11_tellTrick_110 : decode cX11_tellTrick 110 = .ok (.ireturn, 1) := by decide +kernel
theorem dX11_trick_0 : decode cX11_trick 0 = .ok (.aload_n 0, 1) := by decide +kernel
theorem dX11_trick_1 : decode cX11_trick 1 = .ok (.iload_n 1, 1) := by decide +kernel
theorem dX11_trick_2 : decode cX11_trick 2 = .ok (.invokevirtual 165, 3) := by decide +kernel
theorem dX11_trick_5 : decode cX11_trick 5 = .ok (.ifCond .eq 12, 3) := by decide +kernel
theorem dX11_trick_8 : decode cX11_trick 8 = .ok (.aload_n 0, 1) := by decide +kernel
theorem dX11_trick_9 : decode cX11_trick 9 = .ok (.iload_n 1, 1) := by decide +kernel
theorem dX11_trick_10 : decode cX11_trick 10 = .ok (.iload_n 2, 1) := by decide +kernel
theorem dX11_trick_11 : decode cX11_trick 11 = .ok (.invokevirtual 168, 3) := by decide +kernel
theorem dX11_trick_14 : decode cX11_trick 14 = .ok (.goto 5, 3) := by decide +kernel
theorem dX11_trick_17 : decode cX11_trick 17 = .ok (.bipush (-101), 2) := by decide +kernel
theorem dX11_trick_19 : decode cX11_trick 19 = .ok (.ireturn, 1) := by decide +kernel
theorem dX11_as_0 : decode cX11_as 0 = .ok (.aload_n 0, 1) := by decide +kernel
theorem dX11_as_1 : decode cX11_as 1 = .ok (.iload_n 1, 1) := by decide +kernel
theorem dX11_as_2 : decode cX11_as 2 = .ok (.invokevirtual 165, 3) := by decide +kernel
theorem dX11_as_5 : decode cX11_as 5 = .ok (.ifCond .ne 6, 3) := by decide +kernel
theorem dX11_as_8 : decode cX11_as 8 = .ok (.bipush (-101), 2) := by decide +kernel
theorem dX11_as_10 : decode cX11_as 10 = .ok (.ireturn, 1) := by decide +kernel
theorem dX11_as_11 : decode cX11_as 11 = .ok (.iload_n 2, 1) := by decide +kernel
theorem dX11_as_12 : decode cX11_as 12 = .ok (.i2l, 1) := by decide +kernel
theorem dX11_as_13 : decode cX11_as 13 = .ok (.lconst 0, 1) := by decide +kernel
theorem dX11_as_14 : decode cX11_as 14 = .ok (.ldc2_w 172, 3) := by decide +kernel
theorem dX11_as_17 : decode cX11_as 17 = .ok (.invokestatic 64, 3) := by decide +kernel
theorem dX11_as_20 : decode cX11_as 20 = .ok (.ifCond .ne 6, 3) := by decide +kernel
theorem dX11_as_23 : decode cX11_as 23 = .ok (.bipush (-102), 2) := by decide +kernel
theorem dX11_as_25 : decode cX11_as 25 = .ok (.ireturn, 1) := by decide +kernel
theorem dX11_as_26 : decode cX11_as 26 = .ok (.aload_n 0, 1) := by decide +kernel
theorem dX11_as_27 : decode cX11_as 27 = .ok (.getfield 13, 3) := by decide +kernel
theorem dX11_as_30 : decode cX11_as 30 = .ok (.iconst 4, 1) := by decide +kernel
theorem dX11_as_31 : decode cX11_as 31 = .ok (.iload_n 1, 1) := by decide +kernel
theorem dX11_as_32 : decode cX11_as 32 = .ok (.imul, 1) := by decide +kernel
theorem dX11_as_33 : decode cX11_as 33 = .ok (.iaload, 1) := by decide +kernel
theorem dX11_as_34 : decode cX11_as 34 = .ok (.istore_n 3, 1) := by decide +kernel
theorem dX11_as_35 : decode cX11_as 35 = .ok (.iload_n 2, 1) := by decide +kernel
theorem dX11_as_36 : decode cX11_as 36 = .ok (.ifCond .eq 18, 3) := by decide +kernel
theorem dX11_as_39 : decode cX11_as 39 = .ok (.iload_n 2, 1) := by decide +kernel
theorem dX11_as_40 : decode cX11_as 40 = .ok (.iload_n 3, 1) := by decide +kernel
theorem dX11_as_41 : decode cX11_as 41 = .ok (.if_icmp .eq 13, 3) := by decide +kernel
theorem dX11_as_44 : decode cX11_as 44 = .ok (.iload_n 2, 1) := by decide +kernel
theorem dX11_as_45 : decode cX11_as 45 = .ok (.iconst 1, 1) := by decide +kernel
theorem dX11_as_46 : decode cX11_as 46 = .ok (.if_icmp .ne 12, 3) := by decide +kernel
theorem dX11_as_49 : decode cX11_as 49 = .ok (.iload_n 3, 1) := by decide +kernel
theorem dX11_as_50 : decode cX11_as 50 = .ok (.iconst 4, 1) := by decide +kernel
theorem dX11_as_51 : decode cX11_as 51 = .ok (.if_icmp .ne 7, 3) := by decide +kernel
theorem dX11_as_54 : decode cX11_as 54 = .ok (.iconst 1, 1) := by decide +kernel
theorem dX11_as_55 : decode cX11_as 55 = .ok (.goto 4, 3) := by decide +kernel
theorem dX11_as_58 : decode cX11_as 58 = .ok (.iconst 0, 1) := by decide +kernel
theorem dX11_as_59 : decode cX11_as 59 = .ok (.istore 4, 2) := by decide +kernel
theorem dX11_as_61 : decode cX11_as 61 = .ok (.iload 4, 2) := by decide +kernel
theorem dX11_as_63 : decode cX11_as 63 = .ok (.ifCond .eq 7, 3) := by decide +kernel
theorem dX11_as_66 : decode cX11_as 66 = .ok (.iload_n 1, 1) := by decide +kernel
theorem dX11_as_67 : decode cX11_as 67 = .ok (.goto 4, 3) := by decide +kernel
theorem dX11_as_70 : decode cX11_as 70 = .ok (.iconst (-1), 1) := by decide +kernel
theorem dX11_as_71 : decode cX11_as 71 = .ok (.ireturn, 1) := by decide +kernel
theorem dX11_castSet_0 : decode cX11_castSet 0 = .ok (.iconst 0, 1) := by decide +kernel
theorem dX11_castSet_1 : decode cX11_castSet 1 = .ok (.istore_n 2, 1) := by decide +kernel
theorem dX11_castSet_2 : decode cX11_castSet 2 = .ok (.iconst 0, 1) := by decide +kernel
theorem dX11_castSet_3 : decode cX11_castSet 3 = .ok (.istore_n 3, 1) := by decide +kernel
theorem dX11_castSet_4 : decode cX11_castSet 4 = .ok (.iload_n 3, 1) := by decide +kernel
theorem dX11_castSet_5 : decode cX11_castSet 5 = .ok (.aload_n 0, 1) := by decide +kernel
theorem dX11_castSet_6 : decode cX11_castSet 6 = .ok (.getfield 101, 3) := by decide +kernel
theorem dX11_castSet_9 : decode cX11_castSet 9 = .ok (.if_icmp .ge 24, 3) := by decide +kernel
theorem dX11_castSet_12 : decode cX11_castSet 12 = .ok (.iload_n 2, 1) := by decide +kernel
theorem dX11_castSet_13 : decode cX11_castSet 13 = .ok (.aload_n 0, 1) := by decide +kernel
theorem dX11_castSet_14 : decode cX11_castSet 14 = .ok (.getfield 19, 3) := by decide +kernel
theorem dX11_castSet_17 : decode cX11_castSet 17 = .ok (.iload_n 3, 1) := by decide +kernel
theorem dX11_castSet_18 : decode cX11_castSet 18 = .ok (.iaload, 1) := by decide +kernel
theorem dX11_castSet_19 : decode cX11_castSet 19 = .ok (.iload_n 1, 1) := by decide +kernel
theorem dX11_castSet_20 : decode cX11_castSet 20 = .ok (.ishr, 1) := by decide +kernel
theorem dX11_castSet_21 : decode cX11_castSet 21 = .ok (.iconst 1, 1) := by decide +kernel
theorem dX11_castSet_22 : decode cX11_castSet 22 = .ok (.iand, 1) := by decide +kernel
theorem dX11_castSet_23 : decode cX11_castSet 23 = .ok (.iload_n 3, 1) := by decide +kernel
theorem dX11_castSet_24 : decode cX11_castSet 24 = .ok (.ishl, 1) := by decide +kernel
theorem dX11_castSet_25 : decode cX11_castSet 25 = .ok (.ior, 1) := by decide +kernel
theorem dX11_castSet_26 : decode cX11_castSet 26 = .ok (.istore_n 2, 1) := by decide +kernel
theorem dX11_castSet_27 : decode cX11_castSet 27 = .ok (.iinc 3 1, 3) := by decide +kernel
theorem dX11_castSet_30 : decode cX11_castSet 30 = .ok (.goto (-26), 3) := by decide +kernel
theorem dX11_castSet_33 : decode cX11_castSet 33 = .ok (.iload_n 2, 1) := by decide +kernel
theorem dX11_castSet_34 : decode cX11_castSet 34 = .ok (.ireturn, 1) := by decide +kernel
theorem dX11_busySet_0 : decode cX11_busySet 0 = .ok (.iconst 0, 1) := by decide +kernel
theorem dX11_busySet_1 : decode cX11_busySet 1 = .ok (.istore_n 2, 1) := by decide +kernel
theorem dX11_busySet_2 : decode cX11_busySet 2 = .ok (.iconst 0, 1) := by decide +kernel
theorem dX11_busySet_3 : decode cX11_busySet 3 = .ok (.istore_n 3, 1) := by decide +kernel
theorem dX11_busySet_4 : decode cX11_busySet 4 = .ok (.iload_n 3, 1) := by decide +kernel
theorem dX11_busySet_5 : decode cX11_busySet 5 = .ok (.aload_n 0, 1) := by decide +kernel
theorem dX11_busySet_6 : decode cX11_busySet 6 = .ok (.getfield 101, 3) := by decide +kernel
theorem dX11_busySet_9 : decode cX11_busySet 9 = .ok (.if_icmp .ge 35, 3) := by decide +kernel
theorem dX11_busySet_12 : decode cX11_busySet 12 = .ok (.iload_n 2, 1) := by decide +kernel
theorem dX11_busySet_13 : decode cX11_busySet 13 = .ok (.aload_n 0, 1) := by decide +kernel
theorem dX11_busySet_14 : decode cX11_busySet 14 = .ok (.getfield 19, 3) := by decide +kernel
theorem dX11_busySet_17 : decode cX11_busySet 17 = .ok (.iload_n 3, 1) := by decide +kernel
theorem dX11_busySet_18 : decode cX11_busySet 18 = .ok (.iaload, 1) := by decide +kernel
theorem dX11_busySet_19 : decode cX11_busySet 19 = .ok (.iload_n 1, 1) := by decide +kernel
theorem dX11_busySet_20 : decode cX11_busySet 20 = .ok (.ishr, 1) := by decide +kernel
theorem dX11_busySet_21 : decode cX11_busySet 21 = .ok (.iconst 1, 1) := by decide +kernel
theorem dX11_busySet_22 : decode cX11_busySet 22 = .ok (.iand, 1) := by decide +kernel
theorem dX11_busySet_23 : decode cX11_busySet 23 = .ok (.iconst 1, 1) := by decide +kernel
theorem dX11_busySet_24 : decode cX11_busySet 24 = .ok (.if_icmp .ne 11, 3) := by decide +kernel
theorem dX11_busySet_27 : decode cX11_busySet 27 = .ok (.aload_n 0, 1) := by decide +kernel
theorem dX11_busySet_28 : decode cX11_busySet 28 = .ok (.iload_n 3, 1) := by decide +kernel
theorem dX11_busySet_29 : decode cX11_busySet 29 = .ok (.invokevirtual 153, 3) := by decide +kernel
theorem dX11_busySet_32 : decode cX11_busySet 32 = .ok (.goto 4, 3) := by decide +kernel
theorem dX11_busySet_35 : decode cX11_busySet 35 = .ok (.iconst 0, 1) := by decide +kernel
theorem dX11_busySet_36 : decode cX11_busySet 36 = .ok (.ior, 1) := by decide +kernel
theorem dX11_busySet_37 : decode cX11_busySet 37 = .ok (.istore_n 2, 1) := by decide +kernel
theorem dX11_busySet_38 : decode cX11_busySet 38 = .ok (.iinc 3 1, 3) := by decide +kernel
theorem dX11_busySet_41 : decode cX11_busySet 41 = .ok (.goto (-37), 3) := by decide +kernel
theorem dX11_busySet_44 : decode cX11_busySet 44 = .ok (.iload_n 2, 1) := by decide +kernel
theorem dX11_busySet_45 : decode cX11_busySet 45 = .ok (.ireturn, 1) := by decide +kernel
theorem dX11_tellPerson_0 : decode cX11_tellPerson 0 = .ok (.iload_n 2, 1) := by decide +kernel
theorem dX11_tellPerson_1 : decode cX11_tellPerson 1 = .ok (.tableswitch 128 0 7 #[47, 68, 79, 93, 99, 105, 116, 122], 47) := by decide +kernel
theorem dX11_tellPerson_48 : decode cX11_tellPerson 48 = .ok (.aload_n 0, 1) := by decide +kernel
theorem dX11_tellPerson_49 : decode cX11_tellPerson 49 = .ok (.iload_n 1, 1) := by decide +kernel
theorem dX11_tellPerson_50 : decode cX11_tellPerson 50 = .ok (.invokevirtual 131, 3) := by decide +kernel
theorem dX11_tellPerson_53 : decode cX11_tellPerson 53 = .ok (.ifCond .eq 14, 3) := by decide +kernel
theorem dX11_tellPerson_56 : decode cX11_tellPerson 56 = .ok (.aload_n 0, 1) := by decide +kernel
theorem dX11_tellPerson_57 : decode cX11_tellPerson 57 = .ok (.getfield 16, 3) := by decide +kernel
theorem dX11_tellPerson_60 : decode cX11_tellPerson 60 = .ok (.iconst 3, 1) := by decide +kernel
theorem dX11_tellPerson_61 : decode cX11_tellPerson 61 = .ok (.iload_n 1, 1) := by decide +kernel
theorem dX11_tellPerson_62 : decode cX11_tellPerson 62 = .ok (.imul, 1) := by decide +kernel
theorem dX11_tellPerson_63 : decode cX11_tellPerson 63 = .ok (.iaload, 1) := by decide +kernel
theorem dX11_tellPerson_64 : decode cX11_tellPerson 64 = .ok (.goto 4, 3) := by decide +kernel
theorem dX11_tellPerson_67 : decode cX11_tellPerson 67 = .ok (.iconst (-1), 1) := by decide +kernel
theorem dX11_tellPerson_68 : decode cX11_tellPerson 68 = .ok (.ireturn, 1) := by decide +kernel
theorem dX11_tellPerson_69 : decode cX11_tellPerson 69 = .ok (.aload_n 0, 1) := by decide +kernel
theorem dX11_tellPerson_70 : decode cX11_tellPerson 70 = .ok (.getfield 16, 3) := by decide +kernel
theorem dX11_tellPerson_73 : decode cX11_tellPerson 73 = .ok (.iconst 3, 1) := by decide +kernel
theorem dX11_tellPerson_74 : decode cX11_tellPerson 74 = .ok (.iload_n 1, 1) := by decide +kernel
theorem dX11_tellPerson_75 : decode cX11_tellPerson 75 = .ok (.imul, 1) := by decide +kernel
theorem dX11_tellPerson_76 : decode cX11_tellPerson 76 = .ok (.iconst 1, 1) := by decide +kernel
theorem dX11_tellPerson_77 : decode cX11_tellPerson 77 = .ok (.iadd, 1) := by decide +kernel
theorem dX11_tellPerson_78 : decode cX11_tellPerson 78 = .ok (.iaload, 1) := by decide +kernel
theorem dX11_tellPerson_79 : decode cX11_tellPerson 79 = .ok (.ireturn, 1) := by decide +kernel
theorem dX11_tellPerson_80 : decode cX11_tellPerson 80 = .ok (.aload_n 0, 1) := by decide +kernel
theorem dX11_tellPerson_81 : decode cX11_tellPerson 81 = .ok (.iload_n 1, 1) := by decide +kernel
theorem dX11_tellPerson_82 : decode cX11_tellPerson 82 = .ok (.invokevirtual 131, 3) := by decide +kernel
theorem dX11_tellPerson_85 : decode cX11_tellPerson 85 = .ok (.ifCond .eq 7, 3) := by decide +kernel
theorem dX11_tellPerson_88 : decode cX11_tellPerson 88 = .ok (.iconst 1, 1) := by decide +kernel
theorem dX11_tellPerson_89 : decode cX11_tellPerson 89 = .ok (.goto 4, 3) := by decide +kernel
theorem dX11_tellPerson_92 : decode cX11_tellPerson 92 = .ok (.iconst 0, 1) := by decide +kernel
theorem dX11_tellPerson_93 : decode cX11_tellPerson 93 = .ok (.ireturn, 1) := by decide +kernel
theorem dX11_tellPerson_94 : decode cX11_tellPerson 94 = .ok (.aload_n 0, 1) := by decide +kernel
theorem dX11_tellPerson_95 : decode cX11_tellPerson 95 = .ok (.iload_n 1, 1) := by decide +kernel
theorem dX11_tellPerson_96 : decode cX11_tellPerson 96 = .ok (.invokevirtual 174, 3) := by decide +kernel
theorem dX11_tellPerson_99 : decode cX11_tellPerson 99 = .ok (.ireturn, 1) := by decide +kernel
theorem dX11_tellPerson_100 : decode cX11_tellPerson 100 = .ok (.aload_n 0, 1) := by decide +kernel
theorem dX11_tellPerson_101 : decode cX11_tellPerson 101 = .ok (.iload_n 1, 1) := by decide +kernel
theorem dX11_tellPerson_102 : decode cX11_tellPerson 102 = .ok (.invokevirtual 177, 3) := by decide +kernel
theorem dX11_tellPerson_105 : decode cX11_tellPerson 105 = .ok (.ireturn, 1) := by decide +kernel
theorem dX11_tellPerson_106 : decode cX11_tellPerson 106 = .ok (.aload_n 0, 1) := by decide +kernel
theorem dX11_tellPerson_107 : decode cX11_tellPerson 107 = .ok (.getfield 16, 3) := by decide +kernel
theorem dX11_tellPerson_110 : decode cX11_tellPerson 110 = .ok (.iconst 3, 1) := by decide +kernel
theorem dX11_tellPerson_111 : decode cX11_tellPerson 111 = .ok (.iload_n 1, 1) := by decide +kernel
theorem dX11_tellPerson_112 : decode cX11_tellPerson 112 = .ok (.imul, 1) := by decide +kernel
theorem dX11_tellPerson_113 : decode cX11_tellPerson 113 = .ok (.iconst 2, 1) := by decide +kernel
theorem dX11_tellPerson_114 : decode cX11_tellPerson 114 = .ok (.iadd, 1) := by decide +kernel
theorem dX11_tellPerson_115 : decode cX11_tellPerson 115 = .ok (.iaload, 1) := by decide +kernel
theorem dX11_tellPerson_116 : decode cX11_tellPerson 116 = .ok (.ireturn, 1) := by decide +kernel
theorem dX11_tellPerson_117 : decode cX11_tellPerson 117 = .ok (.aload_n 0, 1) := by decide +kernel
theorem dX11_tellPerson_118 : decode cX11_tellPerson 118 = .ok (.iload_n 1, 1) := by decide +kernel
theorem dX11_tellPerson_119 : decode cX11_tellPerson 119 = .ok (.invokevirtual 180, 3) := by decide +kernel
theorem dX11_tellPerson_122 : decode cX11_tellPerson 122 = .ok (.ireturn, 1) := by decide +kernel
theorem dX11_tellPerson_123 : decode cX11_tellPerson 123 = .ok (.aload_n 0, 1) := by decide +kernel
theorem dX11_tellPerson_124 : decode cX11_tellPerson 124 = .ok (.iload_n 1, 1) := by decide +kernel
theorem dX11_tellPerson_125 : decode cX11_tellPerson 125 = .ok (.invokevirtual 183, 3) := by decide +kernel
theorem dX11_tellPerson_128 : decode cX11_tellPerson 128 = .ok (.ireturn, 1) := by decide +kernel
theorem dX11_tellPerson_129 : decode cX11_tellPerson 129 = .ok (.bipush (-102), 2) := by decide +kernel
theorem dX11_tellPerson_131 : decode cX11_tellPerson 131 = .ok (.ireturn, 1) := by decide +kernel
theorem dX11_person_0 : decode cX11_person 0 = .ok (.aload_n 0, 1) := by decide +kernel
theorem dX11_person_1 : decode cX11_person 1 = .ok (.iload_n 1, 1) := by decide +kernel
theorem dX11_person_2 : decode cX11_person 2 = .ok (.invokevirtual 186, 3) := by decide +kernel
theorem dX11_person_5 : decode cX11_person 5 = .ok (.ifCond .eq 12, 3) := by decide +kernel
theorem dX11_person_8 : decode cX11_person 8 = .ok (.aload_n 0, 1) := by decide +kernel
theorem dX11_person_9 : decode cX11_person 9 = .ok (.iload_n 1, 1) := by decide +kernel
theorem dX11_person_10 : decode cX11_person 10 = .ok (.iload_n 2, 1) := by decide +kernel
theorem dX11_person_11 : decode cX11_person 11 = .ok (.invokevirtual 189, 3) := by decide +kernel
theorem dX11_person_14 : decode cX11_person 14 = .ok (.goto 5, 3) := by decide +kernel
theorem dX11_person_17 : decode cX11_person 17 = .ok (.bipush (-101), 2) := by decide +kernel
theorem dX11_person_19 : decode cX11_person 19 = .ok (.ireturn, 1) := by decide +kernel
theorem dX11_cast_0 : decode cX11_cast 0 = .ok (.aload_n 0, 1) := by decide +kernel
theorem dX11_cast_1 : decode cX11_cast 1 = .ok (.iload_n 1, 1) := by decide +kernel
theorem dX11_cast_2 : decode cX11_cast 2 = .ok (.invokevirtual 165, 3) := by decide +kernel
theorem dX11_cast_5 : decode cX11_cast 5 = .ok (.ifCond .eq 11, 3) := by decide +kernel
theorem dX11_cast_8 : decode cX11_cast 8 = .ok (.aload_n 0, 1) := by decide +kernel
theorem dX11_cast_9 : decode cX11_cast 9 = .ok (.iload_n 2, 1) := by decide +kernel
theorem dX11_cast_10 : decode cX11_cast 10 = .ok (.invokevirtual 186, 3) := by decide +kernel
theorem dX11_cast_13 : decode cX11_cast 13 = .ok (.ifCond .ne 6, 3) := by decide +kernel
theorem dX11_cast_16 : decode cX11_cast 16 = .ok (.bipush (-101), 2) := by decide +kernel
theorem dX11_cast_18 : decode cX11_cast 18 = .ok (.ireturn, 1) := by decide +kernel
theorem dX11_cast_19 : decode cX11_cast 19 = .ok (.aload_n 0, 1) := by decide +kernel
theorem dX11_cast_20 : decode cX11_cast 20 = .ok (.getfield 19, 3) := by decide +kernel
theorem dX11_cast_23 : decode cX11_cast 23 = .ok (.iload_n 1, 1) := by decide +kernel
theorem dX11_cast_24 : decode cX11_cast 24 = .ok (.iaload, 1) := by decide +kernel
theorem dX11_cast_25 : decode cX11_cast 25 = .ok (.invokestatic 141, 3) := by decide +kernel
theorem dX11_cast_28 : decode cX11_cast 28 = .ok (.aload_n 0, 1) := by decide +kernel
theorem dX11_cast_29 : decode cX11_cast 29 = .ok (.iload_n 1, 1) := by decide +kernel
theorem dX11_cast_30 : decode cX11_cast 30 = .ok (.invokevirtual 144, 3) := by decide +kernel
theorem dX11_cast_33 : decode cX11_cast 33 = .ok (.if_icmp .ne 7, 3) := by decide +kernel
theorem dX11_cast_36 : decode cX11_cast 36 = .ok (.iconst 1, 1) := by decide +kernel
theorem dX11_cast_37 : decode cX11_cast 37 = .ok (.goto 4, 3) := by decide +kernel
theorem dX11_cast_40 : decode cX11_cast 40 = .ok (.iconst 0, 1) := by decide +kernel
theorem dX11_cast_41 : decode cX11_cast 41 = .ok (.istore_n 3, 1) := by decide +kernel
theorem dX11_cast_42 : decode cX11_cast 42 = .ok (.aload_n 0, 1) := by decide +kernel
theorem dX11_cast_43 : decode cX11_cast 43 = .ok (.iload_n 2, 1) := by decide +kernel
theorem dX11_cast_44 : decode cX11_cast 44 = .ok (.invokevirtual 131, 3) := by decide +kernel
theorem dX11_cast_47 : decode cX11_cast 47 = .ok (.ifCond .eq 35, 3) := by decide +kernel
theorem dX11_cast_50 : decode cX11_cast 50 = .ok (.aload_n 0, 1) := by decide +kernel
theorem dX11_cast_51 : decode cX11_cast 51 = .ok (.getfield 19, 3) := by decide +kernel
theorem dX11_cast_54 : decode cX11_cast 54 = .ok (.iload_n 1, 1) := by decide +kernel
theorem dX11_cast_55 : decode cX11_cast 55 = .ok (.iaload, 1) := by decide +kernel
theorem dX11_cast_56 : decode cX11_cast 56 = .ok (.iload_n 2, 1) := by decide +kernel
theorem dX11_cast_57 : decode cX11_cast 57 = .ok (.ishr, 1) := by decide +kernel
theorem dX11_cast_58 : decode cX11_cast 58 = .ok (.iconst 1, 1) := by decide +kernel
theorem dX11_cast_59 : decode cX11_cast 59 = .ok (.iand, 1) := by decide +kernel
theorem dX11_cast_60 : decode cX11_cast 60 = .ok (.iconst 1, 1) := by decide +kernel
theorem dX11_cast_61 : decode cX11_cast 61 = .ok (.if_icmp .eq 21, 3) := by decide +kernel
theorem dX11_cast_64 : decode cX11_cast 64 = .ok (.iload_n 3, 1) := by decide +kernel
theorem dX11_cast_65 : decode cX11_cast 65 = .ok (.ifCond .ne 17, 3) := by decide +kernel
theorem dX11_cast_68 : decode cX11_cast 68 = .ok (.aload_n 0, 1) := by decide +kernel
theorem dX11_cast_69 : decode cX11_cast 69 = .ok (.iload_n 2, 1) := by decide +kernel
theorem dX11_cast_70 : decode cX11_cast 70 = .ok (.invokevirtual 174, 3) := by decide +kernel
theorem dX11_cast_73 : decode cX11_cast 73 = .ok (.aload_n 0, 1) := by decide +kernel
theorem dX11_cast_74 : decode cX11_cast 74 = .ok (.iload_n 1, 1) := by decide +kernel
theorem dX11_cast_75 : decode cX11_cast 75 = .ok (.invokevirtual 162, 3) := by decide +kernel
theorem dX11_cast_78 : decode cX11_cast 78 = .ok (.iand, 1) := by decide +kernel
theorem dX11_cast_79 : decode cX11_cast 79 = .ok (.ifCond .eq 6, 3) := by decide +kernel
theorem dX11_cast_82 : decode cX11_cast 82 = .ok (.bipush (-103), 2) := by decide +kernel
theorem dX11_cast_84 : decode cX11_cast 84 = .ok (.ireturn, 1) := by decide +kernel
theorem dX11_cast_85 : decode cX11_cast 85 = .ok (.aload_n 0, 1) := by decide +kernel
theorem dX11_cast_86 : decode cX11_cast 86 = .ok (.getfield 19, 3) := by decide +kernel
theorem dX11_cast_89 : decode cX11_cast 89 = .ok (.iload_n 1, 1) := by decide +kernel
theorem dX11_cast_90 : decode cX11_cast 90 = .ok (.dup2, 1) := by decide +kernel
theorem dX11_cast_91 : decode cX11_cast 91 = .ok (.iaload, 1) := by decide +kernel
theorem dX11_cast_92 : decode cX11_cast 92 = .ok (.iconst 1, 1) := by decide +kernel
theorem dX11_cast_93 : decode cX11_cast 93 = .ok (.iload_n 2, 1) := by decide +kernel
theorem dX11_cast_94 : decode cX11_cast 94 = .ok (.ishl, 1) := by decide +kernel
theorem dX11_cast_95 : decode cX11_cast 95 = .ok (.ior, 1) := by decide +kernel
theorem dX11_cast_96 : decode cX11_cast 96 = .ok (.iastore, 1) := by decide +kernel
theorem dX11_cast_97 : decode cX11_cast 97 = .ok (.aload_n 0, 1) := by decide +kernel
theorem dX11_cast_98 : decode cX11_cast 98 = .ok (.getfield 19, 3) := by decide +kernel
theorem dX11_cast_101 : decode cX11_cast 101 = .ok (.iload_n 1, 1) := by decide +kernel
theorem dX11_cast_102 : decode cX11_cast 102 = .ok (.iaload, 1) := by decide +kernel
theorem dX11_cast_103 : decode cX11_cast 103 = .ok (.invokestatic 141, 3) := by decide +kernel
theorem dX11_cast_106 : decode cX11_cast 106 = .ok (.ireturn, 1) := by decide +kernel
theorem dX11_drop_0 : decode cX11_drop 0 = .ok (.aload_n 0, 1) := by decide +kernel
theorem dX11_drop_1 : decode cX11_drop 1 = .ok (.iload_n 1, 1) := by decide +kernel
theorem dX11_drop_2 : decode cX11_drop 2 = .ok (.invokevirtual 165, 3) := by decide +kernel
theorem dX11_drop_5 : decode cX11_drop 5 = .ok (.ifCond .eq 11, 3) := by decide +kernel
theorem dX11_drop_8 : decode cX11_drop 8 = .ok (.aload_n 0, 1) := by decide +kernel
theorem dX11_drop_9 : decode cX11_drop 9 = .ok (.iload_n 2, 1) := by decide +kernel
theorem dX11_drop_10 : decode cX11_drop 10 = .ok (.invokevirtual 186, 3) := by decide +kernel
theorem dX11_drop_13 : decode cX11_drop 13 = .ok (.ifCond .ne 6, 3) := by decide +kernel
theorem dX11_drop_16 : decode cX11_drop 16 = .ok (.bipush (-101), 2) := by decide +kernel
theorem dX11_drop_18 : decode cX11_drop 18 = .ok (.ireturn, 1) := by decide +kernel
theorem dX11_drop_19 : decode cX11_drop 19 = .ok (.aload_n 0, 1) := by decide +kernel
theorem dX11_drop_20 : decode cX11_drop 20 = .ok (.getfield 19, 3) := by decide +kernel
theorem dX11_drop_23 : decode cX11_drop 23 = .ok (.iload_n 1, 1) := by decide +kernel
theorem dX11_drop_24 : decode cX11_drop 24 = .ok (.iaload, 1) := by decide +kernel
theorem dX11_drop_25 : decode cX11_drop 25 = .ok (.iload_n 2, 1) := by decide +kernel
theorem dX11_drop_26 : decode cX11_drop 26 = .ok (.ishr, 1) := by decide +kernel
theorem dX11_drop_27 : decode cX11_drop 27 = .ok (.iconst 1, 1) := by decide +kernel
theorem dX11_drop_28 : decode cX11_drop 28 = .ok (.iand, 1) := by decide +kernel
theorem dX11_drop_29 : decode cX11_drop 29 = .ok (.ifCond .ne 6, 3) := by decide +kernel
theorem dX11_drop_32 : decode cX11_drop 32 = .ok (.bipush (-103), 2) := by decide +kernel
theorem dX11_drop_34 : decode cX11_drop 34 = .ok (.ireturn, 1) := by decide +kernel
theorem dX11_drop_35 : decode cX11_drop 35 = .ok (.aload_n 0, 1) := by decide +kernel
theorem dX11_drop_36 : decode cX11_drop 36 = .ok (.getfield 19, 3) := by decide +kernel
theorem dX11_drop_39 : decode cX11_drop 39 = .ok (.iload_n 1, 1) := by decide +kernel
theorem dX11_drop_40 : decode cX11_drop 40 = .ok (.dup2, 1) := by decide +kernel
theorem dX11_drop_41 : decode cX11_drop 41 = .ok (.iaload, 1) := by decide +kernel
theorem dX11_drop_42 : decode cX11_drop 42 = .ok (.iconst 1, 1) := by decide +kernel
theorem dX11_drop_43 : decode cX11_drop 43 = .ok (.iload_n 2, 1) := by decide +kernel
theorem dX11_drop_44 : decode cX11_drop 44 = .ok (.ishl, 1) := by decide +kernel
theorem dX11_drop_45 : decode cX11_drop 45 = .ok (.isub, 1) := by decide +kernel
theorem dX11_drop_46 : decode cX11_drop 46 = .ok (.iastore, 1) := by decide +kernel
theorem dX11_drop_47 : decode cX11_drop 47 = .ok (.aload_n 0, 1) := by decide +kernel
theorem dX11_drop_48 : decode cX11_drop 48 = .ok (.getfield 19, 3) := by decide +kernel
theorem dX11_drop_51 : decode cX11_drop 51 = .ok (.iload_n 1, 1) := by decide +kernel
theorem dX11_drop_52 : decode cX11_drop 52 = .ok (.iaload, 1) := by decide +kernel
theorem dX11_drop_53 : decode cX11_drop 53 = .ok (.invokestatic 141, 3) := by decide +kernel
theorem dX11_drop_56 : decode cX11_drop 56 = .ok (.ireturn, 1) := by decide +kernel
theorem dX11_clear_0 : decode cX11_clear 0 = .ok (.iconst 0, 1) := by decide +kernel
theorem dX11_clear_1 : decode cX11_clear 1 = .ok (.istore_n 1, 1) := by decide +kernel
theorem dX11_clear_2 : decode cX11_clear 2 = .ok (.iconst 0, 1) := by decide +kernel
theorem dX11_clear_3 : decode cX11_clear 3 = .ok (.istore_n 2, 1) := by decide +kernel
theorem dX11_clear_4 : decode cX11_clear 4 = .ok (.iload_n 2, 1) := by decide +kernel
theorem dX11_clear_5 : decode cX11_clear 5 = .ok (.aload_n 0, 1) := by decide +kernel
theorem dX11_clear_6 : decode cX11_clear 6 = .ok (.getfield 101, 3) := by decide +kernel
theorem dX11_clear_9 : decode cX11_clear 9 = .ok (.if_icmp .ge 28, 3) := by decide +kernel
theorem dX11_clear_12 : decode cX11_clear 12 = .ok (.iload_n 1, 1) := by decide +kernel
theorem dX11_clear_13 : decode cX11_clear 13 = .ok (.aload_n 0, 1) := by decide +kernel
theorem dX11_clear_14 : decode cX11_clear 14 = .ok (.getfield 19, 3) := by decide +kernel
theorem dX11_clear_17 : decode cX11_clear 17 = .ok (.iload_n 2, 1) := by decide +kernel
theorem dX11_clear_18 : decode cX11_clear 18 = .ok (.iaload, 1) := by decide +kernel
theorem dX11_clear_19 : decode cX11_clear 19 = .ok (.invokestatic 141, 3) := by decide +kernel
theorem dX11_clear_22 : decode cX11_clear 22 = .ok (.iadd, 1) := by decide +kernel
theorem dX11_clear_23 : decode cX11_clear 23 = .ok (.istore_n 1, 1) := by decide +kernel
theorem dX11_clear_24 : decode cX11_clear 24 = .ok (.aload_n 0, 1) := by decide +kernel
theorem dX11_clear_25 : decode cX11_clear 25 = .ok (.getfield 19, 3) := by decide +kernel
theorem dX11_clear_28 : decode cX11_clear 28 = .ok (.iload_n 2, 1) := by decide +kernel
theorem dX11_clear_29 : decode cX11_clear 29 = .ok (.iconst 0, 1) := by decide +kernel
theorem dX11_clear_30 : decode cX11_clear 30 = .ok (.iastore, 1) := by decide +kernel
theorem dX11_clear_31 : decode cX11_clear 31 = .ok (.iinc 2 1, 3) := by decide +kernel
theorem dX11_clear_34 : decode cX11_clear 34 = .ok (.goto (-30), 3) := by decide +kernel
theorem dX11_clear_37 : decode cX11_clear 37 = .ok (.iload_n 1, 1) := by decide +kernel
theorem dX11_clear_38 : decode cX11_clear 38 = .ok (.ireturn, 1) := by decide +kernel
theorem dX11_doneNow_0 : decode cX11_doneNow 0 = .ok (.iconst 0, 1) := by decide +kernel
theorem dX11_doneNow_1 : decode cX11_doneNow 1 = .ok (.istore_n 1, 1) := by decide +kernel
theorem dX11_doneNow_2 : decode cX11_doneNow 2 = .ok (.iconst 0, 1) := by decide +kernel
theorem dX11_doneNow_3 : decode cX11_doneNow 3 = .ok (.istore_n 2, 1) := by decide +kernel
theorem dX11_doneNow_4 : decode cX11_doneNow 4 = .ok (.iload_n 2, 1) := by decide +kernel
theorem dX11_doneNow_5 : decode cX11_doneNow 5 = .ok (.aload_n 0, 1) := by decide +kernel
theorem dX11_doneNow_6 : decode cX11_doneNow 6 = .ok (.getfield 101, 3) := by decide +kernel
theorem dX11_doneNow_9 : decode cX11_doneNow 9 = .ok (.if_icmp .ge 31, 3) := by decide +kernel
theorem dX11_doneNow_12 : decode cX11_doneNow 12 = .ok (.iload_n 1, 1) := by decide +kernel
theorem dX11_doneNow_13 : decode cX11_doneNow 13 = .ok (.aload_n 0, 1) := by decide +kernel
theorem dX11_doneNow_14 : decode cX11_doneNow 14 = .ok (.iload_n 2, 1) := by decide +kernel
theorem dX11_doneNow_15 : decode cX11_doneNow 15 = .ok (.aload_n 0, 1) := by decide +kernel
theorem dX11_doneNow_16 : decode cX11_doneNow 16 = .ok (.getfield 19, 3) := by decide +kernel
theorem dX11_doneNow_19 : decode cX11_doneNow 19 = .ok (.iload_n 2, 1) := by decide +kernel
theorem dX11_doneNow_20 : decode cX11_doneNow 20 = .ok (.iaload, 1) := by decide +kernel
theorem dX11_doneNow_21 : decode cX11_doneNow 21 = .ok (.invokevirtual 159, 3) := by decide +kernel
theorem dX11_doneNow_24 : decode cX11_doneNow 24 = .ok (.ifCond .eq 7, 3) := by decide +kernel
theorem dX11_doneNow_27 : decode cX11_doneNow 27 = .ok (.iconst 1, 1) := by decide +kernel
theorem dX11_doneNow_28 : decode cX11_doneNow 28 = .ok (.goto 4, 3) := by decide +kernel
theorem dX11_doneNow_31 : decode cX11_doneNow 31 = .ok (.iconst 0, 1) := by decide +kernel
theorem dX11_doneNow_32 : decode cX11_doneNow 32 = .ok (.iadd, 1) := by decide +kernel
theorem dX11_doneNow_33 : decode cX11_doneNow 33 = .ok (.istore_n 1, 1) := by decide +kernel
theorem dX11_doneNow_34 : decode cX11_doneNow 34 = .ok (.iinc 2 1, 3) := by decide +kernel
theorem dX11_doneNow_37 : decode cX11_doneNow 37 = .ok (.goto (-33), 3) := by decide +kernel
theorem dX11_doneNow_40 : decode cX11_doneNow 40 = .ok (.iload_n 1, 1) := by decide +kernel
theorem dX11_doneNow_41 : decode cX11_doneNow 41 = .ok (.ireturn, 1) := by decide +kernel
theorem dX11_night_0 : decode cX11_night 0 = .ok (.aload_n 0, 1) := by decide +kernel
theorem dX11_night_1 : decode cX11_night 1 = .ok (.invokevirtual 192, 3) := by decide +kernel
theorem dX11_night_4 : decode cX11_night 4 = .ok (.ifCond .eq 6, 3) := by decide +kernel
theorem dX11_night_7 : decode cX11_night 7 = .ok (.bipush (-103), 2) := by decide +kernel
theorem dX11_night_9 : decode cX11_night 9 = .ok (.ireturn, 1) := by decide +kernel
theorem dX11_night_10 : decode cX11_night 10 = .ok (.aload_n 0, 1) := by decide +kernel
theorem dX11_night_11 : decode cX11_night 11 = .ok (.getfield 110, 3) := by decide +kernel
theorem dX11_night_14 : decode cX11_night 14 = .ok (.bipush 99, 2) := by decide +kernel
theorem dX11_night_16 : decode cX11_night 16 = .ok (.if_icmp .ne 6, 3) := by decide +kernel
theorem dX11_night_19 : decode cX11_night 19 = .ok (.bipush (-104), 2) := by decide +kernel
theorem dX11_night_21 : decode cX11_night 21 = .ok (.ireturn, 1) := by decide +kernel
theorem dX11_night_22 : decode cX11_night 22 = .ok (.iconst 0, 1) := by decide +kernel
theorem dX11_night_23 : decode cX11_night 23 = .ok (.istore_n 1, 1) := by decide +kernel
theorem dX11_night_24 : decode cX11_night 24 = .ok (.iconst 0, 1) := by decide +kernel
theorem dX11_night_25 : decode cX11_night 25 = .ok (.istore_n 2, 1) := by decide +kernel
theorem dX11_night_26 : decode cX11_night 26 = .ok (.iload_n 2, 1) := by decide +kernel
theorem dX11_night_27 : decode cX11_night 27 = .ok (.aload_n 0, 1) := by decide +kernel
theorem dX11_night_28 : decode cX11_night 28 = .ok (.getfield 101, 3) := by decide +kernel
theorem dX11_night_31 : decode cX11_night 31 = .ok (.if_icmp .ge 36, 3) := by decide +kernel
theorem dX11_night_34 : decode cX11_night 34 = .ok (.iload_n 1, 1) := by decide +kernel
theorem dX11_night_35 : decode cX11_night 35 = .ok (.aload_n 0, 1) := by decide +kernel
theorem dX11_night_36 : decode cX11_night 36 = .ok (.iload_n 2, 1) := by decide +kernel
theorem dX11_night_37 : decode cX11_night 37 = .ok (.aload_n 0, 1) := by decide +kernel
theorem dX11_night_38 : decode cX11_night 38 = .ok (.getfield 19, 3) := by decide +kernel
theorem dX11_night_41 : decode cX11_night 41 = .ok (.iload_n 2, 1) := by decide +kernel
theorem dX11_night_42 : decode cX11_night 42 = .ok (.iaload, 1) := by decide +kernel
theorem dX11_night_43 : decode cX11_night 43 = .ok (.invokevirtual 159, 3) := by decide +kernel
theorem dX11_night_46 : decode cX11_night 46 = .ok (.ifCond .eq 12, 3) := by decide +kernel
theorem dX11_night_49 : decode cX11_night 49 = .ok (.aload_n 0, 1) := by decide +kernel
theorem dX11_night_50 : decode cX11_night 50 = .ok (.getfield 19, 3) := by decide +kernel
theorem dX11_night_53 : decode cX11_night 53 = .ok (.iload_n 2, 1) := by decide +kernel
theorem dX11_night_54 : decode cX11_night 54 = .ok (.iaload, 1) := by decide +kernel
theorem dX11_night_55 : decode cX11_night 55 = .ok (.goto 4, 3) := by decide +kernel
theorem dX11_night_58 : decode cX11_night 58 = .ok (.iconst 0, 1) := by decide +kernel
theorem dX11_night_59 : decode cX11_night 59 = .ok (.ior, 1) := by decide +kernel
theorem dX11_night_60 : decode cX11_night 60 = .ok (.istore_n 1, 1) := by decide +kernel
theorem dX11_night_61 : decode cX11_night 61 = .ok (.iinc 2 1, 3) := by decide +kernel
theorem dX11_night_64 : decode cX11_night 64 = .ok (.goto (-38), 3) := by decide +kernel
theorem dX11_night_67 : decode cX11_night 67 = .ok (.iconst 0, 1) := by decide +kernel
theorem dX11_night_68 : decode cX11_night 68 = .ok (.istore_n 2, 1) := by decide +kernel
theorem dX11_night_69 : decode cX11_night 69 = .ok (.iload_n 2, 1) := by decide +kernel
theorem dX11_night_70 : decode cX11_night 70 = .ok (.aload_n 0, 1) := by decide +kernel
theorem dX11_night_71 : decode cX11_night 71 = .ok (.getfield 104, 3) := by decide +kernel
theorem dX11_night_74 : decode cX11_night 74 = .ok (.if_icmp .ge 27, 3) := by decide +kernel
theorem dX11_night_77 : decode cX11_night 77 = .ok (.aload_n 0, 1) := by decide +kernel
theorem dX11_night_78 : decode cX11_night 78 = .ok (.getfield 16, 3) := by decide +kernel
theorem dX11_night_81 : decode cX11_night 81 = .ok (.iconst 3, 1) := by decide +kernel
theorem dX11_night_82 : decode cX11_night 82 = .ok (.iload_n 2, 1) := by decide +kernel
theorem dX11_night_83 : decode cX11_night 83 = .ok (.imul, 1) := by decide +kernel
theorem dX11_night_84 : decode cX11_night 84 = .ok (.iconst 2, 1) := by decide +kernel
theorem dX11_night_85 : decode cX11_night 85 = .ok (.iadd, 1) := by decide +kernel
theorem dX11_night_86 : decode cX11_night 86 = .ok (.dup2, 1) := by decide +kernel
theorem dX11_night_87 : decode cX11_night 87 = .ok (.iaload, 1) := by decide +kernel
theorem dX11_night_88 : decode cX11_night 88 = .ok (.iload_n 1, 1) := by decide +kernel
theorem dX11_night_89 : decode cX11_night 89 = .ok (.iload_n 2, 1) := by decide +kernel
theorem dX11_night_90 : decode cX11_night 90 = .ok (.ishr, 1) := by decide +kernel
theorem dX11_night_91 : decode cX11_night 91 = .ok (.iconst 1, 1) := by decide +kernel
theorem dX11_night_92 : decode cX11_night 92 = .ok (.iand, 1) := by decide +kernel
theorem dX11_night_93 : decode cX11_night 93 = .ok (.iadd, 1) := by decide +kernel
theorem dX11_night_94 : decode cX11_night 94 = .ok (.iastore, 1) := by decide +kernel
theorem dX11_night_95 : decode cX11_night 95 = .ok (.iinc 2 1, 3) := by decide +kernel
theorem dX11_night_98 : decode cX11_night 98 = .ok (.goto (-29), 3) := by decide +kernel
theorem dX11_night_101 : decode cX11_night 101 = .ok (.aload_n 0, 1) := by decide +kernel
theorem dX11_night_102 : decode cX11_night 102 = .ok (.invokevirtual 196, 3) := by decide +kernel
theorem dX11_night_105 : decode cX11_night 105 = .ok (.istore_n 2, 1) := by decide +kernel
theorem dX11_night_106 : decode cX11_night 106 = .ok (.aload_n 0, 1) := by decide +kernel
theorem dX11_night_107 : decode cX11_night 107 = .ok (.dup, 1) := by decide +kernel
theorem dX11_night_108 : decode cX11_night 108 = .ok (.getfield 110, 3) := by decide +kernel
theorem dX11_night_111 : decode cX11_night 111 = .ok (.iconst 1, 1) := by decide +kernel
theorem dX11_night_112 : decode cX11_night 112 = .ok (.iadd, 1) := by decide +kernel
theorem dX11_night_113 : decode cX11_night 113 = .ok (.putfield 110, 3) := by decide +kernel
theorem dX11_night_116 : decode cX11_night 116 = .ok (.aload_n 0, 1) := by decide +kernel
theorem dX11_night_117 : decode cX11_night 117 = .ok (.dup, 1) := by decide +kernel
theorem dX11_night_118 : decode cX11_night 118 = .ok (.getfield 113, 3) := by decide +kernel
theorem dX11_night_121 : decode cX11_night 121 = .ok (.iload_n 2, 1) := by decide +kernel
theorem dX11_night_122 : decode cX11_night 122 = .ok (.iadd, 1) := by decide +kernel
theorem dX11_night_123 : decode cX11_night 123 = .ok (.putfield 113, 3) := by decide +kernel
theorem dX11_night_126 : decode cX11_night 126 = .ok (.iload_n 2, 1) := by decide +kernel
theorem dX11_night_127 : decode cX11_night 127 = .ok (.ireturn, 1) := by decide +kernel
theorem dX11_move_0 : decode cX11_move 0 = .ok (.aload_n 0, 1) := by decide +kernel
theorem dX11_move_1 : decode cX11_move 1 = .ok (.invokevirtual 192, 3) := by decide +kernel
theorem dX11_move_4 : decode cX11_move 4 = .ok (.ifCond .eq 6, 3) := by decide +kernel
theorem dX11_move_7 : decode cX11_move 7 = .ok (.bipush (-103), 2) := by decide +kernel
theorem dX11_move_9 : decode cX11_move 9 = .ok (.ireturn, 1) := by decide +kernel
theorem dX11_move_10 : decode cX11_move 10 = .ok (.aload_n 0, 1) := by decide +kernel
theorem dX11_move_11 : decode cX11_move 11 = .ok (.aload_n 0, 1) := by decide +kernel
theorem dX11_move_12 : decode cX11_move 12 = .ok (.getfield 107, 3) := by decide +kernel
theorem dX11_move_15 : decode cX11_move 15 = .ok (.iload_n 1, 1) := by decide +kernel
theorem dX11_move_16 : decode cX11_move 16 = .ok (.ifCond .eq 7, 3) := by decide +kernel
theorem dX11_move_19 : decode cX11_move 19 = .ok (.iconst 1, 1) := by decide +kernel
theorem dX11_move_20 : decode cX11_move 20 = .ok (.goto 4, 3) := by decide +kernel
theorem dX11_move_23 : decode cX11_move 23 = .ok (.iconst 5, 1) := by decide +kernel
theorem dX11_move_24 : decode cX11_move 24 = .ok (.iadd, 1) := by decide +kernel
theorem dX11_move_25 : decode cX11_move 25 = .ok (.bipush 6, 2) := by decide +kernel
theorem dX11_move_27 : decode cX11_move 27 = .ok (.irem, 1) := by decide +kernel
theorem dX11_move_28 : decode cX11_move 28 = .ok (.putfield 107, 3) := by decide +kernel
theorem dX11_move_31 : decode cX11_move 31 = .ok (.aload_n 0, 1) := by decide +kernel
theorem dX11_move_32 : decode cX11_move 32 = .ok (.dup, 1) := by decide +kernel
theorem dX11_move_33 : decode cX11_move 33 = .ok (.getfield 116, 3) := by decide +kernel
theorem dX11_move_36 : decode cX11_move 36 = .ok (.iconst 1, 1) := by decide +kernel
theorem dX11_move_37 : decode cX11_move 37 = .ok (.iadd, 1) := by decide +kernel
theorem dX11_move_38 : decode cX11_move 38 = .ok (.putfield 116, 3) := by decide +kernel
theorem dX11_move_41 : decode cX11_move 41 = .ok (.aload_n 0, 1) := by decide +kernel
theorem dX11_move_42 : decode cX11_move 42 = .ok (.getfield 107, 3) := by decide +kernel
theorem dX11_move_45 : decode cX11_move 45 = .ok (.ireturn, 1) := by decide +kernel
theorem dX11_letGo_0 : decode cX11_letGo 0 = .ok (.aload_n 0, 1) := by decide +kernel
theorem dX11_letGo_1 : decode cX11_letGo 1 = .ok (.iload_n 1, 1) := by decide +kernel
theorem dX11_letGo_2 : decode cX11_letGo 2 = .ok (.invokevirtual 186, 3) := by decide +kernel
theorem dX11_letGo_5 : decode cX11_letGo 5 = .ok (.ifCond .ne 6, 3) := by decide +kernel
theorem dX11_letGo_8 : decode cX11_letGo 8 = .ok (.bipush (-101), 2) := by decide +kernel
theorem dX11_letGo_10 : decode cX11_letGo 10 = .ok (.ireturn, 1) := by decide +kernel
theorem dX11_letGo_11 : decode cX11_letGo 11 = .ok (.aload_n 0, 1) := by decide +kernel
theorem dX11_letGo_12 : decode cX11_letGo 12 = .ok (.iload_n 1, 1) := by decide +kernel
theorem dX11_letGo_13 : decode cX11_letGo 13 = .ok (.invokevirtual 131, 3) := by decide +kernel
theorem dX11_letGo_16 : decode cX11_letGo 16 = .ok (.ifCond .eq 20, 3) := by decide +kernel
theorem dX11_letGo_19 : decode cX11_letGo 19 = .ok (.aload_n 0, 1) := by decide +kernel
theorem dX11_letGo_20 : decode cX11_letGo 20 = .ok (.getfield 16, 3) := by decide +kernel
theorem dX11_letGo_23 : decode cX11_letGo 23 = .ok (.iconst 3, 1) := by decide +kernel
theorem dX11_letGo_24 : decode cX11_letGo 24 = .ok (.iload_n 1, 1) := by decide +kernel
theorem dX11_letGo_25 : decode cX11_letGo 25 = .ok (.imul, 1) := by decide +kernel
theorem dX11_letGo_26 : decode cX11_letGo 26 = .ok (.iconst 1, 1) := by decide +kernel
theorem dX11_letGo_27 : decode cX11_letGo 27 = .ok (.iadd, 1) := by decide +kernel
theorem dX11_letGo_28 : decode cX11_letGo 28 = .ok (.iaload, 1) := by decide +kernel
theorem dX11_letGo_29 : decode cX11_letGo 29 = .ok (.aload_n 0, 1) := by decide +kernel
theorem dX11_letGo_30 : decode cX11_letGo 30 = .ok (.getfield 107, 3) := by decide +kernel
theorem dX11_letGo_33 : decode cX11_letGo 33 = .ok (.if_icmp .eq 6, 3) := by decide +kernel
theorem dX11_letGo_36 : decode cX11_letGo 36 = .ok (.bipush (-103), 2) := by decide +kernel
theorem dX11_letGo_38 : decode cX11_letGo 38 = .ok (.ireturn, 1) := by decide +kernel
theorem dX11_letGo_39 : decode cX11_letGo 39 = .ok (.iconst 0, 1) := by decide +kernel
theorem dX11_letGo_40 : decode cX11_letGo 40 = .ok (.istore_n 2, 1) := by decide +kernel
theorem dX11_letGo_41 : decode cX11_letGo 41 = .ok (.iload_n 2, 1) := by decide +kernel
theorem dX11_letGo_42 : decode cX11_letGo 42 = .ok (.aload_n 0, 1) := by decide +kernel
theorem dX11_letGo_43 : decode cX11_letGo 43 = .ok (.getfield 101, 3) := by decide +kernel
theorem dX11_letGo_46 : decode cX11_letGo 46 = .ok (.if_icmp .ge 23, 3) := by decide +kernel
theorem dX11_letGo_49 : decode cX11_letGo 49 = .ok (.aload_n 0, 1) := by decide +kernel
theorem dX11_letGo_50 : decode cX11_letGo 50 = .ok (.getfield 19, 3) := by decide +kernel
theorem dX11_letGo_53 : decode cX11_letGo 53 = .ok (.iload_n 2, 1) := by decide +kernel
theorem dX11_letGo_54 : decode cX11_letGo 54 = .ok (.dup2, 1) := by decide +kernel
theorem dX11_letGo_55 : decode cX11_letGo 55 = .ok (.iaload, 1) := by decide +kernel
theorem dX11_letGo_56 : decode cX11_letGo 56 = .ok (.iconst 1, 1) := by decide +kernel
theorem dX11_letGo_57 : decode cX11_letGo 57 = .ok (.iload_n 1, 1) := by decide +kernel
theorem dX11_letGo_58 : decode cX11_letGo 58 = .ok (.ishl, 1) := by decide +kernel
theorem dX11_letGo_59 : decode cX11_letGo 59 = .ok (.iconst (-1), 1) := by decide +kernel
theorem dX11_letGo_60 : decode cX11_letGo 60 = .ok (.ixor, 1) := by decide +kernel
theorem dX11_letGo_61 : decode cX11_letGo 61 = .ok (.iand, 1) := by decide +kernel
theorem dX11_letGo_62 : decode cX11_letGo 62 = .ok (.iastore, 1) := by decide +kernel
theorem dX11_letGo_63 : decode cX11_letGo 63 = .ok (.iinc 2 1, 3) := by decide +kernel
theorem dX11_letGo_66 : decode cX11_letGo 66 = .ok (.goto (-25), 3) := by decide +kernel
theorem dX11_letGo_69 : decode cX11_letGo 69 = .ok (.aload_n 0, 1) := by decide +kernel
theorem dX11_letGo_70 : decode cX11_letGo 70 = .ok (.getfield 16, 3) := by decide +kernel
theorem dX11_letGo_73 : decode cX11_letGo 73 = .ok (.iconst 3, 1) := by decide +kernel
theorem dX11_letGo_74 : decode cX11_letGo 74 = .ok (.iload_n 1, 1) := by decide +kernel
theorem dX11_letGo_75 : decode cX11_letGo 75 = .ok (.imul, 1) := by decide +kernel
theorem dX11_letGo_76 : decode cX11_letGo 76 = .ok (.iconst (-1), 1) := by decide +kernel
theorem dX11_letGo_77 : decode cX11_letGo 77 = .ok (.iastore, 1) := by decide +kernel
theorem dX11_letGo_78 : decode cX11_letGo 78 = .ok (.aload_n 0, 1) := by decide +kernel
theorem dX11_letGo_79 : decode cX11_letGo 79 = .ok (.getfield 16, 3) := by decide +kernel
theorem dX11_letGo_82 : decode cX11_letGo 82 = .ok (.iconst 3, 1) := by decide +kernel
theorem dX11_letGo_83 : decode cX11_letGo 83 = .ok (.iload_n 1, 1) := by decide +kernel
theorem dX11_letGo_84 : decode cX11_letGo 84 = .ok (.imul, 1) := by decide +kernel
theorem dX11_letGo_85 : decode cX11_letGo 85 = .ok (.iconst 1, 1) := by decide +kernel
theorem dX11_letGo_86 : decode cX11_letGo 86 = .ok (.iadd, 1) := by decide +kernel
theorem dX11_letGo_87 : decode cX11_letGo 87 = .ok (.iconst (-1), 1) := by decide +kernel
theorem dX11_letGo_88 : decode cX11_letGo 88 = .ok (.iastore, 1) := by decide +kernel
theorem dX11_letGo_89 : decode cX11_letGo 89 = .ok (.aload_n 0, 1) := by decide +kernel
theorem dX11_letGo_90 : decode cX11_letGo 90 = .ok (.getfield 16, 3) := by decide +kernel
theorem dX11_letGo_93 : decode cX11_letGo 93 = .ok (.iconst 3, 1) := by decide +kernel
theorem dX11_letGo_94 : decode cX11_letGo 94 = .ok (.iload_n 1, 1) := by decide +kernel
theorem dX11_letGo_95 : decode cX11_letGo 95 = .ok (.imul, 1) := by decide +kernel
theorem dX11_letGo_96 : decode cX11_letGo 96 = .ok (.iconst 2, 1) := by decide +kernel
theorem dX11_letGo_97 : decode cX11_letGo 97 = .ok (.iadd, 1) := by decide +kernel
theorem dX11_letGo_98 : decode cX11_letGo 98 = .ok (.iconst 0, 1) := by decide +kernel
theorem dX11_letGo_99 : decode cX11_letGo 99 = .ok (.iastore, 1) := by decide +kernel
theorem dX11_letGo_100 : decode cX11_letGo 100 = .ok (.aload_n 0, 1) := by decide +kernel
theorem dX11_letGo_101 : decode cX11_letGo 101 = .ok (.dup, 1) := by decide +kernel
theorem dX11_letGo_102 : decode cX11_letGo 102 = .ok (.getfield 122, 3) := by decide +kernel
theorem dX11_letGo_105 : decode cX11_letGo 105 = .ok (.iconst 1, 1) := by decide +kernel
theorem dX11_letGo_106 : decode cX11_letGo 106 = .ok (.iadd, 1) := by decide +kernel
theorem dX11_letGo_107 : decode cX11_letGo 107 = .ok (.putfield 122, 3) := by decide +kernel
theorem dX11_letGo_110 : decode cX11_letGo 110 = .ok (.aload_n 0, 1) := by decide +kernel
theorem dX11_letGo_111 : decode cX11_letGo 111 = .ok (.invokevirtual 199, 3) := by decide +kernel
theorem dX11_letGo_114 : decode cX11_letGo 114 = .ok (.invokestatic 141, 3) := by decide +kernel
theorem dX11_letGo_117 : decode cX11_letGo 117 = .ok (.ireturn, 1) := by decide +kernel
theorem dX11_call_0 : decode cX11_call 0 = .ok (.aload_n 0, 1) := by decide +kernel
theorem dX11_call_1 : decode cX11_call 1 = .ok (.iload_n 1, 1) := by decide +kernel
theorem dX11_call_2 : decode cX11_call 2 = .ok (.invokevirtual 186, 3) := by decide +kernel
theorem dX11_call_5 : decode cX11_call 5 = .ok (.ifCond .ne 6, 3) := by decide +kernel
theorem dX11_call_8 : decode cX11_call 8 = .ok (.bipush (-101), 2) := by decide +kernel
theorem dX11_call_10 : decode cX11_call 10 = .ok (.ireturn, 1) := by decide +kernel
theorem dX11_call_11 : decode cX11_call 11 = .ok (.iload_n 2, 1) := by decide +kernel
theorem dX11_call_12 : decode cX11_call 12 = .ok (.i2l, 1) := by decide +kernel
theorem dX11_call_13 : decode cX11_call 13 = .ok (.lconst 0, 1) := by decide +kernel
theorem dX11_call_14 : decode cX11_call 14 = .ok (.ldc2_w 202, 3) := by decide +kernel
theorem dX11_call_17 : decode cX11_call 17 = .ok (.invokestatic 64, 3) := by decide +kernel
theorem dX11_call_20 : decode cX11_call 20 = .ok (.ifCond .ne 6, 3) := by decide +kernel
theorem dX11_call_23 : decode cX11_call 23 = .ok (.bipush (-102), 2) := by decide +kernel
theorem dX11_call_25 : decode cX11_call 25 = .ok (.ireturn, 1) := by decide +kernel
theorem dX11_call_26 : decode cX11_call 26 = .ok (.aload_n 0, 1) := by decide +kernel
theorem dX11_call_27 : decode cX11_call 27 = .ok (.iload_n 1, 1) := by decide +kernel
theorem dX11_call_28 : decode cX11_call 28 = .ok (.invokevirtual 131, 3) := by decide +kernel
theorem dX11_call_31 : decode cX11_call 31 = .ok (.ifCond .eq 6, 3) := by decide +kernel
theorem dX11_call_34 : decode cX11_call 34 = .ok (.bipush (-103), 2) := by decide +kernel
theorem dX11_call_36 : decode cX11_call 36 = .ok (.ireturn, 1) := by decide +kernel
theorem dX11_call_37 : decode cX11_call 37 = .ok (.aload_n 0, 1) := by decide +kernel
theorem dX11_call_38 : decode cX11_call 38 = .ok (.getfield 16, 3) := by decide +kernel
theorem dX11_call_41 : decode cX11_call 41 = .ok (.iconst 3, 1) := by decide +kernel
theorem dX11_call_42 : decode cX11_call 42 = .ok (.iload_n 1, 1) := by decide +kernel
theorem dX11_call_43 : decode cX11_call 43 = .ok (.imul, 1) := by decide +kernel
theorem dX11_call_44 : decode cX11_call 44 = .ok (.iload_n 2, 1) := by decide +kernel
theorem dX11_call_45 : decode cX11_call 45 = .ok (.iastore, 1) := by decide +kernel
theorem dX11_call_46 : decode cX11_call 46 = .ok (.aload_n 0, 1) := by decide +kernel
theorem dX11_call_47 : decode cX11_call 47 = .ok (.getfield 16, 3) := by decide +kernel
theorem dX11_call_50 : decode cX11_call 50 = .ok (.iconst 3, 1) := by decide +kernel
theorem dX11_call_51 : decode cX11_call 51 = .ok (.iload_n 1, 1) := by decide +kernel
theorem dX11_call_52 : decode cX11_call 52 = .ok (.imul, 1) := by decide +kernel
theorem dX11_call_53 : decode cX11_call 53 = .ok (.iconst 1, 1) := by decide +kernel
theorem dX11_call_54 : decode cX11_call 54 = .ok (.iadd, 1) := by decide +kernel
theorem dX11_call_55 : decode cX11_call 55 = .ok (.aload_n 0, 1) := by decide +kernel
theorem dX11_call_56 : decode cX11_call 56 = .ok (.getfield 107, 3) := by decide +kernel
theorem dX11_call_59 : decode cX11_call 59 = .ok (.iastore, 1) := by decide +kernel
theorem dX11_call_60 : decode cX11_call 60 = .ok (.aload_n 0, 1) := by decide +kernel
theorem dX11_call_61 : decode cX11_call 61 = .ok (.getfield 16, 3) := by decide +kernel
theorem dX11_call_64 : decode cX11_call 64 = .ok (.iconst 3, 1) := by decide +kernel
theorem dX11_call_65 : decode cX11_call 65 = .ok (.iload_n 1, 1) := by decide +kernel
theorem dX11_call_66 : decode cX11_call 66 = .ok (.imul, 1) := by decide +kernel
theorem dX11_call_67 : decode cX11_call 67 = .ok (.iconst 2, 1) := by decide +kernel
theorem dX11_call_68 : decode cX11_call 68 = .ok (.iadd, 1) := by decide +kernel
theorem dX11_call_69 : decode cX11_call 69 = .ok (.iconst 0, 1) := by decide +kernel
theorem dX11_call_70 : decode cX11_call 70 = .ok (.iastore, 1) := by decide +kernel
theorem dX11_call_71 : decode cX11_call 71 = .ok (.aload_n 0, 1) := by decide +kernel
theorem dX11_call_72 : decode cX11_call 72 = .ok (.dup, 1) := by decide +kernel
theorem dX11_call_73 : decode cX11_call 73 = .ok (.getfield 119, 3) := by decide +kernel
theorem dX11_call_76 : decode cX11_call 76 = .ok (.iconst 1, 1) := by decide +kernel
theorem dX11_call_77 : decode cX11_call 77 = .ok (.iadd, 1) := by decide +kernel
theorem dX11_call_78 : decode cX11_call 78 = .ok (.putfield 119, 3) := by decide +kernel
theorem dX11_call_81 : decode cX11_call 81 = .ok (.aload_n 0, 1) := by decide +kernel
theorem dX11_call_82 : decode cX11_call 82 = .ok (.invokevirtual 199, 3) := by decide +kernel
theorem dX11_call_85 : decode cX11_call 85 = .ok (.invokestatic 141, 3) := by decide +kernel
theorem dX11_call_88 : decode cX11_call 88 = .ok (.ireturn, 1) := by decide +kernel
theorem dX11_layChoices_0 : decode cX11_layChoices 0 = .ok (.iconst 0, 1) := by decide +kernel
theorem dX11_layChoices_1 : decode cX11_layChoices 1 = .ok (.istore_n 2, 1) := by decide +kernel
theorem dX11_layChoices_2 : decode cX11_layChoices 2 = .ok (.iload_n 2, 1) := by decide +kernel
theorem dX11_layChoices_3 : decode cX11_layChoices 3 = .ok (.iconst 5, 1) := by decide +kernel
theorem dX11_layChoices_4 : decode cX11_layChoices 4 = .ok (.if_icmp .ge 92, 3) := by decide +kernel
theorem dX11_layChoices_7 : decode cX11_layChoices 7 = .ok (.aload_n 0, 1) := by decide +kernel
theorem dX11_layChoices_8 : decode cX11_layChoices 8 = .ok (.getfield 22, 3) := by decide +kernel
theorem dX11_layChoices_11 : decode cX11_layChoices 11 = .ok (.bipush 16, 2) := by decide +kernel
theorem dX11_layChoices_13 : decode cX11_layChoices 13 = .ok (.iload_n 2, 1) := by decide +kernel
theorem dX11_layChoices_14 : decode cX11_layChoices 14 = .ok (.imul, 1) := by decide +kernel
theorem dX11_layChoices_15 : decode cX11_layChoices 15 = .ok (.iconst 0, 1) := by decide +kernel
theorem dX11_layChoices_16 : decode cX11_layChoices 16 = .ok (.iastore, 1) := by decide +kernel
theorem dX11_layChoices_17 : decode cX11_layChoices 17 = .ok (.aload_n 0, 1) := by decide +kernel
theorem dX11_layChoices_18 : decode cX11_layChoices 18 = .ok (.getfield 25, 3) := by decide +kernel
theorem dX11_layChoices_21 : decode cX11_layChoices 21 = .ok (.iload_n 2, 1) := by decide +kernel
theorem dX11_layChoices_22 : decode cX11_layChoices 22 = .ok (.iconst 1, 1) := by decide +kernel
theorem dX11_layChoices_23 : decode cX11_layChoices 23 = .ok (.iastore, 1) := by decide +kernel
theorem dX11_layChoices_24 : decode cX11_layChoices 24 = .ok (.iconst 1, 1) := by decide +kernel
theorem dX11_layChoices_25 : decode cX11_layChoices 25 = .ok (.istore_n 3, 1) := by decide +kernel
theorem dX11_layChoices_26 : decode cX11_layChoices 26 = .ok (.iload_n 3, 1) := by decide +kernel
theorem dX11_layChoices_27 : decode cX11_layChoices 27 = .ok (.bipush 32, 2) := by decide +kernel
theorem dX11_layChoices_29 : decode cX11_layChoices 29 = .ok (.if_icmp .ge 61, 3) := by decide +kernel
theorem dX11_layChoices_32 : decode cX11_layChoices 32 = .ok (.iload_n 2, 1) := by decide +kernel
theorem dX11_layChoices_33 : decode cX11_layChoices 33 = .ok (.aload_n 0, 1) := by decide +kernel
theorem dX11_layChoices_34 : decode cX11_layChoices 34 = .ok (.getfield 101, 3) := by decide +kernel
theorem dX11_layChoices_37 : decode cX11_layChoices 37 = .ok (.if_icmp .ge 53, 3) := by decide +kernel
theorem dX11_layChoices_40 : decode cX11_layChoices 40 = .ok (.iload_n 3, 1) := by decide +kernel
theorem dX11_layChoices_41 : decode cX11_layChoices 41 = .ok (.iload_n 1, 1) := by decide +kernel
theorem dX11_layChoices_42 : decode cX11_layChoices 42 = .ok (.iconst (-1), 1) := by decide +kernel
theorem dX11_layChoices_43 : decode cX11_layChoices 43 = .ok (.ixor, 1) := by decide +kernel
theorem dX11_layChoices_44 : decode cX11_layChoices 44 = .ok (.iand, 1) := by decide +kernel
theorem dX11_layChoices_45 : decode cX11_layChoices 45 = .ok (.ifCond .ne 39, 3) := by decide +kernel
theorem dX11_layChoices_48 : decode cX11_layChoices 48 = .ok (.aload_n 0, 1) := by decide +kernel
theorem dX11_layChoices_49 : decode cX11_layChoices 49 = .ok (.iload_n 2, 1) := by decide +kernel
theorem dX11_layChoices_50 : decode cX11_layChoices 50 = .ok (.iload_n 3, 1) := by decide +kernel
theorem dX11_layChoices_51 : decode cX11_layChoices 51 = .ok (.invokevirtual 159, 3) := by decide +kernel
theorem dX11_layChoices_54 : decode cX11_layChoices 54 = .ok (.ifCond .eq 30, 3) := by decide +kernel
theorem dX11_layChoices_57 : decode cX11_layChoices 57 = .ok (.aload_n 0, 1) := by decide +kernel
theorem dX11_layChoices_58 : decode cX11_layChoices 58 = .ok (.getfield 22, 3) := by decide +kernel
theorem dX11_layChoices_61 : decode cX11_layChoices 61 = .ok (.bipush 16, 2) := by decide +kernel
theorem dX11_layChoices_63 : decode cX11_layChoices 63 = .ok (.iload_n 2, 1) := by decide +kernel
theorem dX11_layChoices_64 : decode cX11_layChoices 64 = .ok (.imul, 1) := by decide +kernel
theorem dX11_layChoices_65 : decode cX11_layChoices 65 = .ok (.aload_n 0, 1) := by decide +kernel
theorem dX11_layChoices_66 : decode cX11_layChoices 66 = .ok (.getfield 25, 3) := by decide +kernel
theorem dX11_layChoices_69 : decode cX11_layChoices 69 = .ok (.iload_n 2, 1) := by decide +kernel
theorem dX11_layChoices_70 : decode cX11_layChoices 70 = .ok (.iaload, 1) := by decide +kernel
theorem dX11_layChoices_71 : decode cX11_layChoices 71 = .ok (.iadd, 1) := by decide +kernel
theorem dX11_layChoices_72 : decode cX11_layChoices 72 = .ok (.iload_n 3, 1) := by decide +kernel
theorem dX11_layChoices_73 : decode cX11_layChoices 73 = .ok (.iastore, 1) := by decide +kernel
theorem dX11_layChoices_74 : decode cX11_layChoices 74 = .ok (.aload_n 0, 1) := by decide +kernel
theorem dX11_layChoices_75 : decode cX11_layChoices 75 = .ok (.getfield 25, 3) := by decide +kernel
theorem dX11_layChoices_78 : decode cX11_layChoices 78 = .ok (.iload_n 2, 1) := by decide +kernel
theorem dX11_layChoices_79 : decode cX11_layChoices 79 = .ok (.dup2, 1) := by decide +kernel
theorem dX11_layChoices_80 : decode cX11_layChoices 80 = .ok (.iaload, 1) := by decide +kernel
theorem dX11_layChoices_81 : decode cX11_layChoices 81 = .ok (.iconst 1, 1) := by decide +kernel
theorem dX11_layChoices_82 : decode cX11_layChoices 82 = .ok (.iadd, 1) := by decide +kernel
theorem dX11_layChoices_83 : decode cX11_layChoices 83 = .ok (.iastore, 1) := by decide +kernel
theorem dX11_layChoices_84 : decode cX11_layChoices 84 = .ok (.iinc 3 1, 3) := by decide +kernel
theorem dX11_layChoices_87 : decode cX11_layChoices 87 = .ok (.goto (-61), 3) := by decide +kernel
theorem dX11_layChoices_90 : decode cX11_layChoices 90 = .ok (.iinc 2 1, 3) := by decide +kernel
theorem dX11_layChoices_93 : decode cX11_layChoices 93 = .ok (.goto (-91), 3) := by decide +kernel
theorem dX11_layChoices_96 : decode cX11_layChoices 96 = .ok (.return_, 1) := by decide +kernel
theorem dX11_isFree_0 : decode cX11_isFree 0 = .ok (.iconst 1, 1) := by decide +kernel
theorem dX11_isFree_1 : decode cX11_isFree 1 = .ok (.istore_n 3, 1) := by decide +kernel
theorem dX11_isFree_2 : decode cX11_isFree 2 = .ok (.iconst 0, 1) := by decide +kernel
theorem dX11_isFree_3 : decode cX11_isFree 3 = .ok (.istore 4, 2) := by decide +kernel
theorem dX11_isFree_5 : decode cX11_isFree 5 = .ok (.iload 4, 2) := by decide +kernel
theorem dX11_isFree_7 : decode cX11_isFree 7 = .ok (.iload_n 1, 1) := by decide +kernel
theorem dX11_isFree_8 : decode cX11_isFree 8 = .ok (.if_icmp .ge 41, 3) := by decide +kernel
theorem dX11_isFree_11 : decode cX11_isFree 11 = .ok (.iload_n 3, 1) := by decide +kernel
theorem dX11_isFree_12 : decode cX11_isFree 12 = .ok (.ifCond .eq 29, 3) := by decide +kernel
theorem dX11_isFree_15 : decode cX11_isFree 15 = .ok (.aload_n 0, 1) := by decide +kernel
theorem dX11_isFree_16 : decode cX11_isFree 16 = .ok (.getfield 28, 3) := by decide +kernel
theorem dX11_isFree_19 : decode cX11_isFree 19 = .ok (.iload 4, 2) := by decide +kernel
theorem dX11_isFree_21 : decode cX11_isFree 21 = .ok (.iaload, 1) := by decide +kernel
theorem dX11_isFree_22 : decode cX11_isFree 22 = .ok (.iload_n 2, 1) := by decide +kernel
theorem dX11_isFree_23 : decode cX11_isFree 23 = .ok (.iand, 1) := by decide +kernel
theorem dX11_isFree_24 : decode cX11_isFree 24 = .ok (.ifCond .eq 13, 3) := by decide +kernel
theorem dX11_isFree_27 : decode cX11_isFree 27 = .ok (.aload_n 0, 1) := by decide +kernel
theorem dX11_isFree_28 : decode cX11_isFree 28 = .ok (.iload_n 1, 1) := by decide +kernel
theorem dX11_isFree_29 : decode cX11_isFree 29 = .ok (.iload 4, 2) := by decide +kernel
theorem dX11_isFree_31 : decode cX11_isFree 31 = .ok (.invokevirtual 156, 3) := by decide +kernel
theorem dX11_isFree_34 : decode cX11_isFree 34 = .ok (.ifCond .ne 7, 3) := by decide +kernel
theorem dX11_isFree_37 : decode cX11_isFree 37 = .ok (.iconst 1, 1) := by decide +kernel
theorem dX11_isFree_38 : decode cX11_isFree 38 = .ok (.goto 4, 3) := by decide +kernel
theorem dX11_isFree_41 : decode cX11_isFree 41 = .ok (.iconst 0, 1) := by decide +kernel
theorem dX11_isFree_42 : decode cX11_isFree 42 = .ok (.istore_n 3, 1) := by decide +kernel
theorem dX11_isFree_43 : decode cX11_isFree 43 = .ok (.iinc 4 1, 3) := by decide +kernel
theorem dX11_isFree_46 : decode cX11_isFree 46 = .ok (.goto (-41), 3) := by decide +kernel
theorem dX11_isFree_49 : decode cX11_isFree 49 = .ok (.iload_n 3, 1) := by decide +kernel
theorem dX11_isFree_50 : decode cX11_isFree 50 = .ok (.ireturn, 1) := by decide +kernel
theorem dX11_layMost_0 : decode cX11_layMost 0 = .ok (.aload_n 0, 1) := by decide +kernel
theorem dX11_layMost_1 : decode cX11_layMost 1 = .ok (.iload_n 1, 1) := by decide +kernel
theorem dX11_layMost_2 : decode cX11_layMost 2 = .ok (.invokevirtual 204, 3) := by decide +kernel
theorem dX11_layMost_5 : decode cX11_layMost 5 = .ok (.iconst (-1), 1) := by decide +kernel
theorem dX11_layMost_6 : decode cX11_layMost 6 = .ok (.istore_n 2, 1) := by decide +kernel
theorem dX11_layMost_7 : decode cX11_layMost 7 = .ok (.iconst 0, 1) := by decide +kernel
theorem dX11_layMost_8 : decode cX11_layMost 8 = .ok (.istore_n 3, 1) := by decide +kernel
theorem dX11_layMost_9 : decode cX11_layMost 9 = .ok (.iconst 0, 1) := by decide +kernel
theorem dX11_layMost_10 : decode cX11_layMost 10 = .ok (.istore 4, 2) := by decide +kernel
theorem dX11_layMost_12 : decode cX11_layMost 12 = .ok (.aload_n 0, 1) := by decide +kernel
theorem dX11_layMost_13 : decode cX11_layMost 13 = .ok (.getfield 34, 3) := by decide +kernel
theorem dX11_layMost_16 : decode cX11_layMost 16 = .ok (.iconst 0, 1) := by decide +kernel
theorem dX11_layMost_17 : decode cX11_layMost 17 = .ok (.iconst 0, 1) := by decide +kernel
theorem dX11_layMost_18 : decode cX11_layMost 18 = .ok (.iastore, 1) := by decide +kernel
theorem dX11_layMost_19 : decode cX11_layMost 19 = .ok (.iload_n 3, 1) := by decide +kernel
theorem dX11_layMost_20 : decode cX11_layMost 20 = .ok (.ifCond .lt 200, 3) := by decide +kernel
theorem dX11_layMost_23 : decode cX11_layMost 23 = .ok (.iload_n 3, 1) := by decide +kernel
theorem dX11_layMost_24 : decode cX11_layMost 24 = .ok (.iconst 5, 1) := by decide +kernel
theorem dX11_layMost_25 : decode cX11_layMost 25 = .ok (.if_icmp .ne 55, 3) := by decide +kernel
theorem dX11_layMost_28 : decode cX11_layMost 28 = .ok (.iload 4, 2) := by decide +kernel
theorem dX11_layMost_30 : decode cX11_layMost 30 = .ok (.iload_n 2, 1) := by decide +kernel
theorem dX11_layMost_31 : decode cX11_layMost 31 = .ok (.if_icmp .le 17, 3) := by decide +kernel
theorem dX11_layMost_34 : decode cX11_layMost 34 = .ok (.iload 4, 2) := by decide +kernel
theorem dX11_layMost_36 : decode cX11_layMost 36 = .ok (.istore_n 2, 1) := by decide +kernel
theorem dX11_layMost_37 : decode cX11_layMost 37 = .ok (.aload_n 0, 1) := by decide +kernel
theorem dX11_layMost_38 : decode cX11_layMost 38 = .ok (.getfield 28, 3) := by decide +kernel
theorem dX11_layMost_41 : decode cX11_layMost 41 = .ok (.aload_n 0, 1) := by decide +kernel
theorem dX11_layMost_42 : decode cX11_layMost 42 = .ok (.getfield 31, 3) := by decide +kernel
theorem dX11_layMost_45 : decode cX11_layMost 45 = .ok (.invokestatic 208, 3) := by decide +kernel
theorem dX11_layMost_48 : decode cX11_layMost 48 = .ok (.iinc 3 (-1), 3) := by decide +kernel
theorem dX11_layMost_51 : decode cX11_layMost 51 = .ok (.iload 4, 2) := by decide +kernel
theorem dX11_layMost_53 : decode cX11_layMost 53 = .ok (.aload_n 0, 1) := by decide +kernel
theorem dX11_layMost_54 : decode cX11_layMost 54 = .ok (.getfield 28, 3) := by decide +kernel
theorem dX11_layMost_57 : decode cX11_layMost 57 = .ok (.iload_n 3, 1) := by decide +kernel
theorem dX11_layMost_58 : decode cX11_layMost 58 = .ok (.iaload, 1) := by decide +kernel
theorem dX11_layMost_59 : decode cX11_layMost 59 = .ok (.ifCond .ne 7, 3) := by decide +kernel
theorem dX11_layMost_62 : decode cX11_layMost 62 = .ok (.iconst 0, 1) := by decide +kernel
theorem dX11_layMost_63 : decode cX11_layMost 63 = .ok (.goto 4, 3) := by decide +kernel
theorem dX11_layMost_66 : decode cX11_layMost 66 = .ok (.iconst 1, 1) := by decide +kernel
theorem dX11_layMost_67 : decode cX11_layMost 67 = .ok (.isub, 1) := by decide +kernel
theorem dX11_layMost_68 : decode cX11_layMost 68 = .ok (.istore 4, 2) := by decide +kernel
theorem dX11_layMost_70 : decode cX11_layMost 70 = .ok (.aload_n 0, 1) := by decide +kernel
theorem dX11_layMost_71 : decode cX11_layMost 71 = .ok (.getfield 28, 3) := by decide +kernel
theorem dX11_layMost_74 : decode cX11_layMost 74 = .ok (.iload_n 3, 1) := by decide +kernel
theorem dX11_layMost_75 : decode cX11_layMost 75 = .ok (.iconst 0, 1) := by decide +kernel
theorem dX11_layMost_76 : decode cX11_layMost 76 = .ok (.iastore, 1) := by decide +kernel
theorem dX11_layMost_77 : decode cX11_layMost 77 = .ok (.goto (-58), 3) := by decide +kernel
theorem dX11_layMost_80 : decode cX11_layMost 80 = .ok (.aload_n 0, 1) := by decide +kernel
theorem dX11_layMost_81 : decode cX11_layMost 81 = .ok (.getfield 34, 3) := by decide +kernel
theorem dX11_layMost_84 : decode cX11_layMost 84 = .ok (.iload_n 3, 1) := by decide +kernel
theorem dX11_layMost_85 : decode cX11_layMost 85 = .ok (.iaload, 1) := by decide +kernel
theorem dX11_layMost_86 : decode cX11_layMost 86 = .ok (.aload_n 0, 1) := by decide +kernel
theorem dX11_layMost_87 : decode cX11_layMost 87 = .ok (.getfield 25, 3) := by decide +kernel
theorem dX11_layMost_90 : decode cX11_layMost 90 = .ok (.iload_n 3, 1) := by decide +kernel
theorem dX11_layMost_91 : decode cX11_layMost 91 = .ok (.iaload, 1) := by decide +kernel
theorem dX11_layMost_92 : decode cX11_layMost 92 = .ok (.if_icmp .eq 13, 3) := by decide +kernel
theorem dX11_layMost_95 : decode cX11_layMost 95 = .ok (.iload 4, 2) := by decide +kernel
theorem dX11_layMost_97 : decode cX11_layMost 97 = .ok (.iconst 5, 1) := by decide +kernel
theorem dX11_layMost_98 : decode cX11_layMost 98 = .ok (.iadd, 1) := by decide +kernel
theorem dX11_layMost_99 : decode cX11_layMost 99 = .ok (.iload_n 3, 1) := by decide +kernel
theorem dX11_layMost_100 : decode cX11_layMost 100 = .ok (.isub, 1) := by decide +kernel
theorem dX11_layMost_101 : decode cX11_layMost 101 = .ok (.iload_n 2, 1) := by decide +kernel
theorem dX11_layMost_102 : decode cX11_layMost 102 = .ok (.if_icmp .gt 39, 3) := by decide +kernel
theorem dX11_layMost_105 : decode cX11_layMost 105 = .ok (.iinc 3 (-1), 3) := by decide +kernel
theorem dX11_layMost_108 : decode cX11_layMost 108 = .ok (.iload_n 3, 1) := by decide +kernel
theorem dX11_layMost_109 : decode cX11_layMost 109 = .ok (.ifCond .lt (-90), 3) := by decide +kernel
theorem dX11_layMost_112 : decode cX11_layMost 112 = .ok (.iload 4, 2) := by decide +kernel
theorem dX11_layMost_114 : decode cX11_layMost 114 = .ok (.aload_n 0, 1) := by decide +kernel
theorem dX11_layMost_115 : decode cX11_layMost 115 = .ok (.getfield 28, 3) := by decide +kernel
theorem dX11_layMost_118 : decode cX11_layMost 118 = .ok (.iload_n 3, 1) := by decide +kernel
theorem dX11_layMost_119 : decode cX11_layMost 119 = .ok (.iaload, 1) := by decide +kernel
theorem dX11_layMost_120 : decode cX11_layMost 120 = .ok (.ifCond .ne 7, 3) := by decide +kernel
theorem dX11_layMost_123 : decode cX11_layMost 123 = .ok (.iconst 0, 1) := by decide +kernel
theorem dX11_layMost_124 : decode cX11_layMost 124 = .ok (.goto 4, 3) := by decide +kernel
theorem dX11_layMost_127 : decode cX11_layMost 127 = .ok (.iconst 1, 1) := by decide +kernel
theorem dX11_layMost_128 : decode cX11_layMost 128 = .ok (.isub, 1) := by decide +kernel
theorem dX11_layMost_129 : decode cX11_layMost 129 = .ok (.istore 4, 2) := by decide +kernel
theorem dX11_layMost_131 : decode cX11_layMost 131 = .ok (.aload_n 0, 1) := by decide +kernel
theorem dX11_layMost_132 : decode cX11_layMost 132 = .ok (.getfield 28, 3) := by decide +kernel
theorem dX11_layMost_135 : decode cX11_layMost 135 = .ok (.iload_n 3, 1) := by decide +kernel
theorem dX11_layMost_136 : decode cX11_layMost 136 = .ok (.iconst 0, 1) := by decide +kernel
theorem dX11_layMost_137 : decode cX11_layMost 137 = .ok (.iastore, 1) := by decide +kernel
theorem dX11_layMost_138 : decode cX11_layMost 138 = .ok (.goto (-119), 3) := by decide +kernel
theorem dX11_layMost_141 : decode cX11_layMost 141 = .ok (.aload_n 0, 1) := by decide +kernel
theorem dX11_layMost_142 : decode cX11_layMost 142 = .ok (.getfield 22, 3) := by decide +kernel
theorem dX11_layMost_145 : decode cX11_layMost 145 = .ok (.bipush 16, 2) := by decide +kernel
theorem dX11_layMost_147 : decode cX11_layMost 147 = .ok (.iload_n 3, 1) := by decide +kernel
theorem dX11_layMost_148 : decode cX11_layMost 148 = .ok (.imul, 1) := by decide +kernel
theorem dX11_layMost_149 : decode cX11_layMost 149 = .ok (.aload_n 0, 1) := by decide +kernel
theorem dX11_layMost_150 : decode cX11_layMost 150 = .ok (.getfield 34, 3) := by decide +kernel
theorem dX11_layMost_153 : decode cX11_layMost 153 = .ok (.iload_n 3, 1) := by decide +kernel
theorem dX11_layMost_154 : decode cX11_layMost 154 = .ok (.iaload, 1) := by decide +kernel
theorem dX11_layMost_155 : decode cX11_layMost 155 = .ok (.iadd, 1) := by decide +kernel
theorem dX11_layMost_156 : decode cX11_layMost 156 = .ok (.iaload, 1) := by decide +kernel
theorem dX11_layMost_157 : decode cX11_layMost 157 = .ok (.istore 5, 2) := by decide +kernel
theorem dX11_layMost_159 : decode cX11_layMost 159 = .ok (.aload_n 0, 1) := by decide +kernel
theorem dX11_layMost_160 : decode cX11_layMost 160 = .ok (.getfield 34, 3) := by decide +kernel
theorem dX11_layMost_163 : decode cX11_layMost 163 = .ok (.iload_n 3, 1) := by decide +kernel
theorem dX11_layMost_164 : decode cX11_layMost 164 = .ok (.dup2, 1) := by decide +kernel
theorem dX11_layMost_165 : decode cX11_layMost 165 = .ok (.iaload, 1) := by decide +kernel
theorem dX11_layMost_166 : decode cX11_layMost 166 = .ok (.iconst 1, 1) := by decide +kernel
theorem dX11_layMost_167 : decode cX11_layMost 167 = .ok (.iadd, 1) := by decide +kernel
theorem dX11_layMost_168 : decode cX11_layMost 168 = .ok (.iastore, 1) := by decide +kernel
theorem dX11_layMost_169 : decode cX11_layMost 169 = .ok (.aload_n 0, 1) := by decide +kernel
theorem dX11_layMost_170 : decode cX11_layMost 170 = .ok (.iload_n 3, 1) := by decide +kernel
theorem dX11_layMost_171 : decode cX11_layMost 171 = .ok (.iload 5, 2) := by decide +kernel
theorem dX11_layMost_173 : decode cX11_layMost 173 = .ok (.invokevirtual 212, 3) := by decide +kernel
theorem dX11_layMost_176 : decode cX11_layMost 176 = .ok (.ifCond .eq 41, 3) := by decide +kernel
theorem dX11_layMost_179 : decode cX11_layMost 179 = .ok (.aload_n 0, 1) := by decide +kernel
theorem dX11_layMost_180 : decode cX11_layMost 180 = .ok (.getfield 28, 3) := by decide +kernel
theorem dX11_layMost_183 : decode cX11_layMost 183 = .ok (.iload_n 3, 1) := by decide +kernel
theorem dX11_layMost_184 : decode cX11_layMost 184 = .ok (.iload 5, 2) := by decide +kernel
theorem dX11_layMost_186 : decode cX11_layMost 186 = .ok (.iastore, 1) := by decide +kernel
theorem dX11_layMost_187 : decode cX11_layMost 187 = .ok (.iload 4, 2) := by decide +kernel
theorem dX11_layMost_189 : decode cX11_layMost 189 = .ok (.iload 5, 2) := by decide +kernel
theorem dX11_layMost_191 : decode cX11_layMost 191 = .ok (.ifCond .ne 7, 3) := by decide +kernel
theorem dX11_layMost_194 : decode cX11_layMost 194 = .ok (.iconst 0, 1) := by decide +kernel
theorem dX11_layMost_195 : decode cX11_layMost 195 = .ok (.goto 4, 3) := by decide +kernel
theorem dX11_layMost_198 : decode cX11_layMost 198 = .ok (.iconst 1, 1) := by decide +kernel
theorem dX11_layMost_199 : decode cX11_layMost 199 = .ok (.iadd, 1) := by decide +kernel
theorem dX11_layMost_200 : decode cX11_layMost 200 = .ok (.istore 4, 2) := by decide +kernel
theorem dX11_layMost_202 : decode cX11_layMost 202 = .ok (.iinc 3 1, 3) := by decide +kernel
theorem dX11_layMost_205 : decode cX11_layMost 205 = .ok (.iload_n 3, 1) := by decide +kernel
theorem dX11_layMost_206 : decode cX11_layMost 206 = .ok (.iconst 5, 1) := by decide +kernel
theorem dX11_layMost_207 : decode cX11_layMost 207 = .ok (.if_icmp .ge 10, 3) := by decide +kernel
theorem dX11_layMost_210 : decode cX11_layMost 210 = .ok (.aload_n 0, 1) := by decide +kernel
theorem dX11_layMost_211 : decode cX11_layMost 211 = .ok (.getfield 34, 3) := by decide +kernel
theorem dX11_layMost_214 : decode cX11_layMost 214 = .ok (.iload_n 3, 1) := by decide +kernel
theorem dX11_layMost_215 : decode cX11_layMost 215 = .ok (.iconst 0, 1) := by decide +kernel
theorem dX11_layMost_216 : decode cX11_layMost 216 = .ok (.iastore, 1) := by decide +kernel
theorem dX11_layMost_217 : decode cX11_layMost 217 = .ok (.goto (-198), 3) := by decide +kernel
theorem dX11_layMost_220 : decode cX11_layMost 220 = .ok (.iload_n 2, 1) := by decide +kernel
theorem dX11_layMost_221 : decode cX11_layMost 221 = .ok (.ireturn, 1) := by decide +kernel
theorem dX11_mostOf_0 : decode cX11_mostOf 0 = .ok (.aload_n 0, 1) := by decide +kernel
theorem dX11_mostOf_1 : decode cX11_mostOf 1 = .ok (.aload_n 0, 1) := by decide +kernel
theorem dX11_mostOf_2 : decode cX11_mostOf 2 = .ok (.invokevirtual 199, 3) := by decide +kernel
theorem dX11_mostOf_5 : decode cX11_mostOf 5 = .ok (.invokevirtual 215, 3) := by decide +kernel
theorem dX11_mostOf_8 : decode cX11_mostOf 8 = .ok (.istore_n 2, 1) := by decide +kernel
theorem dX11_mostOf_9 : decode cX11_mostOf 9 = .ok (.iload_n 1, 1) := by decide +kernel
theorem dX11_mostOf_10 : decode cX11_mostOf 10 = .ok (.ifCond .ne 7, 3) := by decide +kernel
theorem dX11_mostOf_13 : decode cX11_mostOf 13 = .ok (.iload_n 2, 1) := by decide +kernel
theorem dX11_mostOf_14 : decode cX11_mostOf 14 = .ok (.goto 12, 3) := by decide +kernel
theorem dX11_mostOf_17 : decode cX11_mostOf 17 = .ok (.aload_n 0, 1) := by decide +kernel
theorem dX11_mostOf_18 : decode cX11_mostOf 18 = .ok (.getfield 31, 3) := by decide +kernel
theorem dX11_mostOf_21 : decode cX11_mostOf 21 = .ok (.iload_n 1, 1) := by decide +kernel
theorem dX11_mostOf_22 : decode cX11_mostOf 22 = .ok (.bipush 10, 2) := by decide +kernel
theorem dX11_mostOf_24 : decode cX11_mostOf 24 = .ok (.isub, 1) := by decide +kernel
theorem dX11_mostOf_25 : decode cX11_mostOf 25 = .ok (.iaload, 1) := by decide +kernel
theorem dX11_mostOf_26 : decode cX11_mostOf 26 = .ok (.ireturn, 1) := by decide +kernel
theorem dX11_most_0 : decode cX11_most 0 = .ok (.iload_n 1, 1) := by decide +kernel
theorem dX11_most_1 : decode cX11_most 1 = .ok (.ifCond .eq 20, 3) := by decide +kernel
theorem dX11_most_4 : decode cX11_most 4 = .ok (.iload_n 1, 1) := by decide +kernel
theorem dX11_most_5 : decode cX11_most 5 = .ok (.i2l, 1) := by decide +kernel
theorem dX11_most_6 : decode cX11_most 6 = .ok (.ldc2_w 218, 3) := by decide +kernel
theorem dX11_most_9 : decode cX11_most 9 = .ok (.ldc2_w 220, 3) := by decide +kernel
theorem dX11_most_12 : decode cX11_most 12 = .ok (.invokestatic 64, 3) := by decide +kernel
theorem dX11_most_15 : decode cX11_most 15 = .ok (.ifCond .ne 6, 3) := by decide +kernel
theorem dX11_most_18 : decode cX11_most 18 = .ok (.bipush (-102), 2) := by decide +kernel
theorem dX11_most_20 : decode cX11_most 20 = .ok (.ireturn, 1) := by decide +kernel
theorem dX11_most_21 : decode cX11_most 21 = .ok (.aload_n 0, 1) := by decide +kernel
theorem dX11_most_22 : decode cX11_most 22 = .ok (.invokevirtual 192, 3) := by decide +kernel
theorem dX11_most_25 : decode cX11_most 25 = .ok (.ifCond .ne 12, 3) := by decide +kernel
theorem dX11_most_28 : decode cX11_most 28 = .ok (.aload_n 0, 1) := by decide +kernel
theorem dX11_most_29 : decode cX11_most 29 = .ok (.getfield 222, 3) := by decide +kernel
theorem dX11_most_32 : decode cX11_most 32 = .ok (.bipush 16, 2) := by decide +kernel
theorem dX11_most_34 : decode cX11_most 34 = .ok (.if_icmp .ne 6, 3) := by decide +kernel
theorem dX11_most_37 : decode cX11_most 37 = .ok (.bipush (-103), 2) := by decide +kernel
theorem dX11_most_39 : decode cX11_most 39 = .ok (.ireturn, 1) := by decide +kernel
theorem dX11_most_40 : decode cX11_most 40 = .ok (.aload_n 0, 1) := by decide +kernel
theorem dX11_most_41 : decode cX11_most 41 = .ok (.dup, 1) := by decide +kernel
theorem dX11_most_42 : decode cX11_most 42 = .ok (.getfield 222, 3) := by decide +kernel
theorem dX11_most_45 : decode cX11_most 45 = .ok (.iconst 1, 1) := by decide +kernel
theorem dX11_most_46 : decode cX11_most 46 = .ok (.iadd, 1) := by decide +kernel
theorem dX11_most_47 : decode cX11_most 47 = .ok (.putfield 222, 3) := by decide +kernel
theorem dX11_most_50 : decode cX11_most 50 = .ok (.aload_n 0, 1) := by decide +kernel
theorem dX11_most_51 : decode cX11_most 51 = .ok (.iload_n 1, 1) := by decide +kernel
theorem dX11_most_52 : decode cX11_most 52 = .ok (.invokevirtual 225, 3) := by decide +kernel
theorem dX11_most_55 : decode cX11_most 55 = .ok (.ireturn, 1) := by decide +kernel
theorem dX11_fill_0 : decode cX11_fill 0 = .ok (.aload_n 0, 1) := by decide +kernel
theorem dX11_fill_1 : decode cX11_fill 1 = .ok (.invokevirtual 192, 3) := by decide +kernel
theorem dX11_fill_4 : decode cX11_fill 4 = .ok (.ifCond .ne 12, 3) := by decide +kernel
theorem dX11_fill_7 : decode cX11_fill 7 = .ok (.aload_n 0, 1) := by decide +kernel
theorem dX11_fill_8 : decode cX11_fill 8 = .ok (.getfield 222, 3) := by decide +kernel
theorem dX11_fill_11 : decode cX11_fill 11 = .ok (.bipush 16, 2) := by decide +kernel
theorem dX11_fill_13 : decode cX11_fill 13 = .ok (.if_icmp .ne 6, 3) := by decide +kernel
theorem dX11_fill_16 : decode cX11_fill 16 = .ok (.bipush (-103), 2) := by decide +kernel
theorem dX11_fill_18 : decode cX11_fill 18 = .ok (.ireturn, 1) := by decide +kernel
theorem dX11_fill_19 : decode cX11_fill 19 = .ok (.aload_n 0, 1) := by decide +kernel
theorem dX11_fill_20 : decode cX11_fill 20 = .ok (.dup, 1) := by decide +kernel
theorem dX11_fill_21 : decode cX11_fill 21 = .ok (.getfield 222, 3) := by decide +kernel
theorem dX11_fill_24 : decode cX11_fill 24 = .ok (.iconst 1, 1) := by decide +kernel
theorem dX11_fill_25 : decode cX11_fill 25 = .ok (.iadd, 1) := by decide +kernel
theorem dX11_fill_26 : decode cX11_fill 26 = .ok (.putfield 222, 3) := by decide +kernel
theorem dX11_fill_29 : decode cX11_fill 29 = .ok (.aload_n 0, 1) := by decide +kernel
theorem dX11_fill_30 : decode cX11_fill 30 = .ok (.aload_n 0, 1) := by decide +kernel
theorem dX11_fill_31 : decode cX11_fill 31 = .ok (.invokevirtual 199, 3) := by decide +kernel
theorem dX11_fill_34 : decode cX11_fill 34 = .ok (.invokevirtual 215, 3) := by decide +kernel
theorem dX11_fill_37 : decode cX11_fill 37 = .ok (.istore_n 1, 1) := by decide +kernel
theorem dX11_fill_38 : decode cX11_fill 38 = .ok (.aload_n 0, 1) := by decide +kernel
theorem dX11_fill_39 : decode cX11_fill 39 = .ok (.getfield 31, 3) := by decide +kernel
theorem dX11_fill_42 : decode cX11_fill 42 = .ok (.aload_n 0, 1) := by decide +kernel
theorem dX11_fill_43 : decode cX11_fill 43 = .ok (.getfield 19, 3) := by decide +kernel
theorem dX11_fill_46 : decode cX11_fill 46 = .ok (.invokestatic 208, 3) := by decide +kernel
theorem dX11_fill_49 : decode cX11_fill 49 = .ok (.iload_n 1, 1) := by decide +kernel
theorem dX11_fill_50 : decode cX11_fill 50 = .ok (.ireturn, 1) := by decide +kernel
theorem dX11_fewestOf_0 : decode cX11_fewestOf 0 = .ok (.aload_n 0, 1) := by decide +kernel
theorem dX11_fewestOf_1 : decode cX11_fewestOf 1 = .ok (.invokevirtual 199, 3) := by decide +kernel
theorem dX11_fewestOf_4 : decode cX11_fewestOf 4 = .ok (.istore_n 2, 1) := by decide +kernel
theorem dX11_fewestOf_5 : decode cX11_fewestOf 5 = .ok (.iconst (-1), 1) := by decide +kernel
theorem dX11_fewestOf_6 : decode cX11_fewestOf 6 = .ok (.istore_n 3, 1) := by decide +kernel
theorem dX11_fewestOf_7 : decode cX11_fewestOf 7 = .ok (.iconst 0, 1) := by decide +kernel
theorem dX11_fewestOf_8 : decode cX11_fewestOf 8 = .ok (.istore 4, 2) := by decide +kernel
theorem dX11_fewestOf_10 : decode cX11_fewestOf 10 = .ok (.iload 4, 2) := by decide +kernel
theorem dX11_fewestOf_12 : decode cX11_fewestOf 12 = .ok (.bipush 32, 2) := by decide +kernel
theorem dX11_fewestOf_14 : decode cX11_fewestOf 14 = .ok (.if_icmp .ge 67, 3) := by decide +kernel
theorem dX11_fewestOf_17 : decode cX11_fewestOf 17 = .ok (.iload 4, 2) := by decide +kernel
theorem dX11_fewestOf_19 : decode cX11_fewestOf 19 = .ok (.iload_n 2, 1) := by decide +kernel
theorem dX11_fewestOf_20 : decode cX11_fewestOf 20 = .ok (.iconst (-1), 1) := by decide +kernel
theorem dX11_fewestOf_21 : decode cX11_fewestOf 21 = .ok (.ixor, 1) := by decide +kernel
theorem dX11_fewestOf_22 : decode cX11_fewestOf 22 = .ok (.iand, 1) := by decide +kernel
theorem dX11_fewestOf_23 : decode cX11_fewestOf 23 = .ok (.ifCond .ne 24, 3) := by decide +kernel
theorem dX11_fewestOf_26 : decode cX11_fewestOf 26 = .ok (.iload_n 3, 1) := by decide +kernel
theorem dX11_fewestOf_27 : decode cX11_fewestOf 27 = .ok (.iconst (-1), 1) := by decide +kernel
theorem dX11_fewestOf_28 : decode cX11_fewestOf 28 = .ok (.if_icmp .eq 15, 3) := by decide +kernel
theorem dX11_fewestOf_31 : decode cX11_fewestOf 31 = .ok (.iload 4, 2) := by decide +kernel
theorem dX11_fewestOf_33 : decode cX11_fewestOf 33 = .ok (.invokestatic 141, 3) := by decide +kernel
theorem dX11_fewestOf_36 : decode cX11_fewestOf 36 = .ok (.iload_n 3, 1) := by decide +kernel
theorem dX11_fewestOf_37 : decode cX11_fewestOf 37 = .ok (.invokestatic 141, 3) := by decide +kernel
theorem dX11_fewestOf_40 : decode cX11_fewestOf 40 = .ok (.if_icmp .ge 7, 3) := by decide +kernel
theorem dX11_fewestOf_43 : decode cX11_fewestOf 43 = .ok (.iconst 1, 1) := by decide +kernel
theorem dX11_fewestOf_44 : decode cX11_fewestOf 44 = .ok (.goto 4, 3) := by decide +kernel
theorem dX11_fewestOf_47 : decode cX11_fewestOf 47 = .ok (.iconst 0, 1) := by decide +kernel
theorem dX11_fewestOf_48 : decode cX11_fewestOf 48 = .ok (.istore 5, 2) := by decide +kernel
theorem dX11_fewestOf_50 : decode cX11_fewestOf 50 = .ok (.iload 5, 2) := by decide +kernel
theorem dX11_fewestOf_52 : decode cX11_fewestOf 52 = .ok (.ifCond .eq 21, 3) := by decide +kernel
theorem dX11_fewestOf_55 : decode cX11_fewestOf 55 = .ok (.aload_n 0, 1) := by decide +kernel
theorem dX11_fewestOf_56 : decode cX11_fewestOf 56 = .ok (.iload 4, 2) := by decide +kernel
theorem dX11_fewestOf_58 : decode cX11_fewestOf 58 = .ok (.invokevirtual 215, 3) := by decide +kernel
theorem dX11_fewestOf_61 : decode cX11_fewestOf 61 = .ok (.aload_n 0, 1) := by decide +kernel
theorem dX11_fewestOf_62 : decode cX11_fewestOf 62 = .ok (.getfield 101, 3) := by decide +kernel
theorem dX11_fewestOf_65 : decode cX11_fewestOf 65 = .ok (.if_icmp .ne 8, 3) := by decide +kernel
theorem dX11_fewestOf_68 : decode cX11_fewestOf 68 = .ok (.iload 4, 2) := by decide +kernel
theorem dX11_fewestOf_70 : decode cX11_fewestOf 70 = .ok (.goto 4, 3) := by decide +kernel
theorem dX11_fewestOf_73 : decode cX11_fewestOf 73 = .ok (.iload_n 3, 1) := by decide +kernel
theorem dX11_fewestOf_74 : decode cX11_fewestOf 74 = .ok (.istore_n 3, 1) := by decide +kernel
theorem dX11_fewestOf_75 : decode cX11_fewestOf 75 = .ok (.iinc 4 1, 3) := by decide +kernel
theorem dX11_fewestOf_78 : decode cX11_fewestOf 78 = .ok (.goto (-68), 3) := by decide +kernel
theorem dX11_fewestOf_81 : decode cX11_fewestOf 81 = .ok (.iload_n 3, 1) := by decide +kernel
theorem dX11_fewestOf_82 : decode cX11_fewestOf 82 = .ok (.iconst (-1), 1) := by decide +kernel
theorem dX11_fewestOf_83 : decode cX11_fewestOf 83 = .ok (.if_icmp .eq 8, 3) := by decide +kernel
theorem dX11_fewestOf_86 : decode cX11_fewestOf 86 = .ok (.iload_n 1, 1) := by decide +kernel
theorem dX11_fewestOf_87 : decode cX11_fewestOf 87 = .ok (.iconst 1, 1) := by decide +kernel
theorem dX11_fewestOf_88 : decode cX11_fewestOf 88 = .ok (.if_icmp .ne 7, 3) := by decide +kernel
theorem dX11_fewestOf_91 : decode cX11_fewestOf 91 = .ok (.iload_n 3, 1) := by decide +kernel
theorem dX11_fewestOf_92 : decode cX11_fewestOf 92 = .ok (.goto 7, 3) := by decide +kernel
theorem dX11_fewestOf_95 : decode cX11_fewestOf 95 = .ok (.iload_n 3, 1) := by decide +kernel
theorem dX11_fewestOf_96 : decode cX11_fewestOf 96 = .ok (.invokestatic 141, 3) := by decide +kernel
theorem dX11_fewestOf_99 : decode cX11_fewestOf 99 = .ok (.ireturn, 1) := by decide +kernel
theorem dX11_fewest_0 : decode cX11_fewest 0 = .ok (.iload_n 1, 1) := by decide +kernel
theorem dX11_fewest_1 : decode cX11_fewest 1 = .ok (.i2l, 1) := by decide +kernel
theorem dX11_fewest_2 : decode cX11_fewest 2 = .ok (.lconst 0, 1) := by decide +kernel
theorem dX11_fewest_3 : decode cX11_fewest 3 = .ok (.lconst 1, 1) := by decide +kernel
theorem dX11_fewest_4 : decode cX11_fewest 4 = .ok (.invokestatic 64, 3) := by decide +kernel
theorem dX11_fewest_7 : decode cX11_fewest 7 = .ok (.ifCond .ne 6, 3) := by decide +kernel
theorem dX11_fewest_10 : decode cX11_fewest 10 = .ok (.bipush (-102), 2) := by decide +kernel
theorem dX11_fewest_12 : decode cX11_fewest 12 = .ok (.ireturn, 1) := by decide +kernel
theorem dX11_fewest_13 : decode cX11_fewest 13 = .ok (.aload_n 0, 1) := by decide +kernel
theorem dX11_fewest_14 : decode cX11_fewest 14 = .ok (.invokevirtual 192, 3) := by decide +kernel
theorem dX11_fewest_17 : decode cX11_fewest 17 = .ok (.ifCond .ne 12, 3) := by decide +kernel
theorem dX11_fewest_20 : decode cX11_fewest 20 = .ok (.aload_n 0, 1) := by decide +kernel
theorem dX11_fewest_21 : decode cX11_fewest 21 = .ok (.getfield 228, 3) := by decide +kernel
theorem dX11_fewest_24 : decode cX11_fewest 24 = .ok (.bipush 6, 2) := by decide +kernel
theorem dX11_fewest_26 : decode cX11_fewest 26 = .ok (.if_icmp .ne 6, 3) := by decide +kernel
theorem dX11_fewest_29 : decode cX11_fewest 29 = .ok (.bipush (-103), 2) := by decide +kernel
theorem dX11_fewest_31 : decode cX11_fewest 31 = .ok (.ireturn, 1) := by decide +kernel
theorem dX11_fewest_32 : decode cX11_fewest 32 = .ok (.aload_n 0, 1) := by decide +kernel
theorem dX11_fewest_33 : decode cX11_fewest 33 = .ok (.dup, 1) := by decide +kernel
theorem dX11_fewest_34 : decode cX11_fewest 34 = .ok (.getfield 228, 3) := by decide +kernel
theorem dX11_fewest_37 : decode cX11_fewest 37 = .ok (.iconst 1, 1) := by decide +kernel
theorem dX11_fewest_38 : decode cX11_fewest 38 = .ok (.iadd, 1) := by decide +kernel
theorem dX11_fewest_39 : decode cX11_fewest 39 = .ok (.putfield 228, 3) := by decide +kernel
theorem dX11_fewest_42 : decode cX11_fewest 42 = .ok (.aload_n 0, 1) := by decide +kernel
theorem dX11_fewest_43 : decode cX11_fewest 43 = .ok (.iload_n 1, 1) := by decide +kernel
theorem dX11_fewest_44 : decode cX11_fewest 44 = .ok (.invokevirtual 231, 3) := by decide +kernel
theorem dX11_fewest_47 : decode cX11_fewest 47 = .ok (.ireturn, 1) := by decide +kernel
theorem dX11_spareOf_0 : decode cX11_spareOf 0 = .ok (.aload_n 0, 1) := by decide +kernel
theorem dX11_spareOf_1 : decode cX11_spareOf 1 = .ok (.invokevirtual 199, 3) := by decide +kernel
theorem dX11_spareOf_4 : decode cX11_spareOf 4 = .ok (.istore_n 1, 1) := by decide +kernel
theorem dX11_spareOf_5 : decode cX11_spareOf 5 = .ok (.aload_n 0, 1) := by decide +kernel
theorem dX11_spareOf_6 : decode cX11_spareOf 6 = .ok (.iload_n 1, 1) := by decide +kernel
theorem dX11_spareOf_7 : decode cX11_spareOf 7 = .ok (.invokevirtual 215, 3) := by decide +kernel
theorem dX11_spareOf_10 : decode cX11_spareOf 10 = .ok (.istore_n 2, 1) := by decide +kernel
theorem dX11_spareOf_11 : decode cX11_spareOf 11 = .ok (.iconst 0, 1) := by decide +kernel
theorem dX11_spareOf_12 : decode cX11_spareOf 12 = .ok (.istore_n 3, 1) := by decide +kernel
theorem dX11_spareOf_13 : decode cX11_spareOf 13 = .ok (.iconst 0, 1) := by decide +kernel
theorem dX11_spareOf_14 : decode cX11_spareOf 14 = .ok (.istore 4, 2) := by decide +kernel
theorem dX11_spareOf_16 : decode cX11_spareOf 16 = .ok (.iload 4, 2) := by decide +kernel
theorem dX11_spareOf_18 : decode cX11_spareOf 18 = .ok (.aload_n 0, 1) := by decide +kernel
theorem dX11_spareOf_19 : decode cX11_spareOf 19 = .ok (.getfield 104, 3) := by decide +kernel
theorem dX11_spareOf_22 : decode cX11_spareOf 22 = .ok (.if_icmp .ge 57, 3) := by decide +kernel
theorem dX11_spareOf_25 : decode cX11_spareOf 25 = .ok (.aload_n 0, 1) := by decide +kernel
theorem dX11_spareOf_26 : decode cX11_spareOf 26 = .ok (.iload 4, 2) := by decide +kernel
theorem dX11_spareOf_28 : decode cX11_spareOf 28 = .ok (.invokevirtual 131, 3) := by decide +kernel
theorem dX11_spareOf_31 : decode cX11_spareOf 31 = .ok (.ifCond .eq 23, 3) := by decide +kernel
theorem dX11_spareOf_34 : decode cX11_spareOf 34 = .ok (.aload_n 0, 1) := by decide +kernel
theorem dX11_spareOf_35 : decode cX11_spareOf 35 = .ok (.iload_n 1, 1) := by decide +kernel
theorem dX11_spareOf_36 : decode cX11_spareOf 36 = .ok (.iconst 1, 1) := by decide +kernel
theorem dX11_spareOf_37 : decode cX11_spareOf 37 = .ok (.iload 4, 2) := by decide +kernel
theorem dX11_spareOf_39 : decode cX11_spareOf 39 = .ok (.ishl, 1) := by decide +kernel
theorem dX11_spareOf_40 : decode cX11_spareOf 40 = .ok (.iconst (-1), 1) := by decide +kernel
theorem dX11_spareOf_41 : decode cX11_spareOf 41 = .ok (.ixor, 1) := by decide +kernel
theorem dX11_spareOf_42 : decode cX11_spareOf 42 = .ok (.iand, 1) := by decide +kernel
theorem dX11_spareOf_43 : decode cX11_spareOf 43 = .ok (.invokevirtual 215, 3) := by decide +kernel
theorem dX11_spareOf_46 : decode cX11_spareOf 46 = .ok (.iload_n 2, 1) := by decide +kernel
theorem dX11_spareOf_47 : decode cX11_spareOf 47 = .ok (.if_icmp .ne 7, 3) := by decide +kernel
theorem dX11_spareOf_50 : decode cX11_spareOf 50 = .ok (.iconst 1, 1) := by decide +kernel
theorem dX11_spareOf_51 : decode cX11_spareOf 51 = .ok (.goto 4, 3) := by decide +kernel
theorem dX11_spareOf_54 : decode cX11_spareOf 54 = .ok (.iconst 0, 1) := by decide +kernel
theorem dX11_spareOf_55 : decode cX11_spareOf 55 = .ok (.istore 5, 2) := by decide +kernel
theorem dX11_spareOf_57 : decode cX11_spareOf 57 = .ok (.iload_n 3, 1) := by decide +kernel
theorem dX11_spareOf_58 : decode cX11_spareOf 58 = .ok (.iload 5, 2) := by decide +kernel
theorem dX11_spareOf_60 : decode cX11_spareOf 60 = .ok (.ifCond .eq 10, 3) := by decide +kernel
theorem dX11_spareOf_63 : decode cX11_spareOf 63 = .ok (.iconst 1, 1) := by decide +kernel
theorem dX11_spareOf_64 : decode cX11_spareOf 64 = .ok (.iload 4, 2) := by decide +kernel
theorem dX11_spareOf_66 : decode cX11_spareOf 66 = .ok (.ishl, 1) := by decide +kernel
theorem dX11_spareOf_67 : decode cX11_spareOf 67 = .ok (.goto 4, 3) := by decide +kernel
theorem dX11_spareOf_70 : decode cX11_spareOf 70 = .ok (.iconst 0, 1) := by decide +kernel
theorem dX11_spareOf_71 : decode cX11_spareOf 71 = .ok (.ior, 1) := by decide +kernel
theorem dX11_spareOf_72 : decode cX11_spareOf 72 = .ok (.istore_n 3, 1) := by decide +kernel
theorem dX11_spareOf_73 : decode cX11_spareOf 73 = .ok (.iinc 4 1, 3) := by decide +kernel
theorem dX11_spareOf_76 : decode cX11_spareOf 76 = .ok (.goto (-60), 3) := by decide +kernel
theorem dX11_spareOf_79 : decode cX11_spareOf 79 = .ok (.iload_n 3, 1) := by decide +kernel
theorem dX11_spareOf_80 : decode cX11_spareOf 80 = .ok (.ireturn, 1) := by decide +kernel
theorem dX11_spare_0 : decode cX11_spare 0 = .ok (.aload_n 0, 1) := by decide +kernel
theorem dX11_spare_1 : decode cX11_spare 1 = .ok (.invokevirtual 192, 3) := by decide +kernel
theorem dX11_spare_4 : decode cX11_spare 4 = .ok (.ifCond .ne 12, 3) := by decide +kernel
theorem dX11_spare_7 : decode cX11_spare 7 = .ok (.aload_n 0, 1) := by decide +kernel
theorem dX11_spare_8 : decode cX11_spare 8 = .ok (.getfield 234, 3) := by decide +kernel
theorem dX11_spare_11 : decode cX11_spare 11 = .ok (.bipush 6, 2) := by decide +kernel
theorem dX11_spare_13 : decode cX11_spare 13 = .ok (.if_icmp .ne 6, 3) := by decide +kernel
theorem dX11_spare_16 : decode cX11_spare 16 = .ok (.bipush (-103), 2) := by decide +kernel
theorem dX11_spare_18 : decode cX11_spare 18 = .ok (.ireturn, 1) := by decide +kernel
theorem dX11_spare_19 : decode cX11_spare 19 = .ok (.aload_n 0, 1) := by decide +kernel
theorem dX11_spare_20 : decode cX11_spare 20 = .ok (.dup, 1) := by decide +kernel
theorem dX11_spare_21 : decode cX11_spare 21 = .ok (.getfield 234, 3) := by decide +kernel
theorem dX11_spare_24 : decode cX11_spare 24 = .ok (.iconst 1, 1) := by decide +kernel
theorem dX11_spare_25 : decode cX11_spare 25 = .ok (.iadd, 1) := by decide +kernel
theorem dX11_spare_26 : decode cX11_spare 26 = .ok (.putfield 234, 3) := by decide +kernel
theorem dX11_spare_29 : decode cX11_spare 29 = .ok (.aload_n 0, 1) := by decide +kernel
theorem dX11_spare_30 : decode cX11_spare 30 = .ok (.invokevirtual 237, 3) := by decide +kernel
theorem dX11_spare_33 : decode cX11_spare 33 = .ok (.ireturn, 1) := by decide +kernel
theorem dX11_wantsAt_0 : decode cX11_wantsAt 0 = .ok (.iconst 0, 1) := by decide +kernel
theorem dX11_wantsAt_1 : decode cX11_wantsAt 1 = .ok (.istore_n 2, 1) := by decide +kernel
theorem dX11_wantsAt_2 : decode cX11_wantsAt 2 = .ok (.iconst 0, 1) := by decide +kernel
theorem dX11_wantsAt_3 : decode cX11_wantsAt 3 = .ok (.istore_n 3, 1) := by decide +kernel
theorem dX11_wantsAt_4 : decode cX11_wantsAt 4 = .ok (.iload_n 3, 1) := by decide +kernel
theorem dX11_wantsAt_5 : decode cX11_wantsAt 5 = .ok (.aload_n 0, 1) := by decide +kernel
theorem dX11_wantsAt_6 : decode cX11_wantsAt 6 = .ok (.getfield 101, 3) := by decide +kernel
theorem dX11_wantsAt_9 : decode cX11_wantsAt 9 = .ok (.if_icmp .ge 27, 3) := by decide +kernel
theorem dX11_wantsAt_12 : decode cX11_wantsAt 12 = .ok (.iload_n 2, 1) := by decide +kernel
theorem dX11_wantsAt_13 : decode cX11_wantsAt 13 = .ok (.aload_n 0, 1) := by decide +kernel
theorem dX11_wantsAt_14 : decode cX11_wantsAt 14 = .ok (.iload_n 3, 1) := by decide +kernel
theorem dX11_wantsAt_15 : decode cX11_wantsAt 15 = .ok (.invokevirtual 150, 3) := by decide +kernel
theorem dX11_wantsAt_18 : decode cX11_wantsAt 18 = .ok (.iload_n 1, 1) := by decide +kernel
theorem dX11_wantsAt_19 : decode cX11_wantsAt 19 = .ok (.ishr, 1) := by decide +kernel
theorem dX11_wantsAt_20 : decode cX11_wantsAt 20 = .ok (.iconst 1, 1) := by decide +kernel
theorem dX11_wantsAt_21 : decode cX11_wantsAt 21 = .ok (.iand, 1) := by decide +kernel
theorem dX11_wantsAt_22 : decode cX11_wantsAt 22 = .ok (.aload_n 0, 1) := by decide +kernel
theorem dX11_wantsAt_23 : decode cX11_wantsAt 23 = .ok (.iload_n 3, 1) := by decide +kernel
theorem dX11_wantsAt_24 : decode cX11_wantsAt 24 = .ok (.invokevirtual 144, 3) := by decide +kernel
theorem dX11_wantsAt_27 : decode cX11_wantsAt 27 = .ok (.imul, 1) := by decide +kernel
theorem dX11_wantsAt_28 : decode cX11_wantsAt 28 = .ok (.iadd, 1) := by decide +kernel
theorem dX11_wantsAt_29 : decode cX11_wantsAt 29 = .ok (.istore_n 2, 1) := by decide +kernel
theorem dX11_wantsAt_30 : decode cX11_wantsAt 30 = .ok (.iinc 3 1, 3) := by decide +kernel
theorem dX11_wantsAt_33 : decode cX11_wantsAt 33 = .ok (.goto (-29), 3) := by decide +kernel
theorem dX11_wantsAt_36 : decode cX11_wantsAt 36 = .ok (.iload_n 2, 1) := by decide +kernel
theorem dX11_wantsAt_37 : decode cX11_wantsAt 37 = .ok (.ireturn, 1) := by decide +kernel
theorem dX11_wants_0 : decode cX11_wants 0 = .ok (.iload_n 1, 1) := by decide +kernel
theorem dX11_wants_1 : decode cX11_wants 1 = .ok (.i2l, 1) := by decide +kernel
theorem dX11_wants_2 : decode cX11_wants 2 = .ok (.lconst 0, 1) := by decide +kernel
theorem dX11_wants_3 : decode cX11_wants 3 = .ok (.ldc2_w 240, 3) := by decide +kernel
theorem dX11_wants_6 : decode cX11_wants 6 = .ok (.invokestatic 64, 3) := by decide +kernel
theorem dX11_wants_9 : decode cX11_wants 9 = .ok (.ifCond .ne 6, 3) := by decide +kernel
theorem dX11_wants_12 : decode cX11_wants 12 = .ok (.bipush (-102), 2) := by decide +kernel
theorem dX11_wants_14 : decode cX11_wants 14 = .ok (.ireturn, 1) := by decide +kernel
theorem dX11_wants_15 : decode cX11_wants 15 = .ok (.aload_n 0, 1) := by decide +kernel
theorem dX11_wants_16 : decode cX11_wants 16 = .ok (.invokevirtual 192, 3) := by decide +kernel
theorem dX11_wants_19 : decode cX11_wants 19 = .ok (.ifCond .eq 8, 3) := by decide +kernel
theorem dX11_wants_22 : decode cX11_wants 22 = .ok (.bipush (-103), 2) := by decide +kernel
theorem dX11_wants_24 : decode cX11_wants 24 = .ok (.goto 8, 3) := by decide +kernel
theorem dX11_wants_27 : decode cX11_wants 27 = .ok (.aload_n 0, 1) := by decide +kernel
theorem dX11_wants_28 : decode cX11_wants 28 = .ok (.iload_n 1, 1) := by decide +kernel
theorem dX11_wants_29 : decode cX11_wants 29 = .ok (.invokevirtual 242, 3) := by decide +kernel
theorem dX11_wants_32 : decode cX11_wants 32 = .ok (.ireturn, 1) := by decide +kernel
theorem dX11_bound_0 : decode cX11_bound 0 = .ok (.iconst 0, 1) := by decide +kernel
theorem dX11_bound_1 : decode cX11_bound 1 = .ok (.istore_n 1, 1) := by decide +kernel
theorem dX11_bound_2 : decode cX11_bound 2 = .ok (.iconst 0, 1) := by decide +kernel
theorem dX11_bound_3 : decode cX11_bound 3 = .ok (.istore_n 2, 1) := by decide +kernel
theorem dX11_bound_4 : decode cX11_bound 4 = .ok (.iload_n 2, 1) := by decide +kernel
theorem dX11_bound_5 : decode cX11_bound 5 = .ok (.bipush 12, 2) := by decide +kernel
theorem dX11_bound_7 : decode cX11_bound 7 = .ok (.if_icmp .ge 26, 3) := by decide +kernel
theorem dX11_bound_10 : decode cX11_bound 10 = .ok (.aload_n 0, 1) := by decide +kernel
theorem dX11_bound_11 : decode cX11_bound 11 = .ok (.iload_n 2, 1) := by decide +kernel
theorem dX11_bound_12 : decode cX11_bound 12 = .ok (.invokevirtual 242, 3) := by decide +kernel
theorem dX11_bound_15 : decode cX11_bound 15 = .ok (.istore_n 3, 1) := by decide +kernel
theorem dX11_bound_16 : decode cX11_bound 16 = .ok (.iload_n 3, 1) := by decide +kernel
theorem dX11_bound_17 : decode cX11_bound 17 = .ok (.iload_n 1, 1) := by decide +kernel
theorem dX11_bound_18 : decode cX11_bound 18 = .ok (.if_icmp .le 7, 3) := by decide +kernel
theorem dX11_bound_21 : decode cX11_bound 21 = .ok (.iload_n 3, 1) := by decide +kernel
theorem dX11_bound_22 : decode cX11_bound 22 = .ok (.goto 4, 3) := by decide +kernel
theorem dX11_bound_25 : decode cX11_bound 25 = .ok (.iload_n 1, 1) := by decide +kernel
theorem dX11_bound_26 : decode cX11_bound 26 = .ok (.istore_n 1, 1) := by decide +kernel
theorem dX11_bound_27 : decode cX11_bound 27 = .ok (.iinc 2 1, 3) := by decide +kernel
theorem dX11_bound_30 : decode cX11_bound 30 = .ok (.goto (-26), 3) := by decide +kernel
theorem dX11_bound_33 : decode cX11_bound 33 = .ok (.iload_n 1, 1) := by decide +kernel
theorem dX11_bound_34 : decode cX11_bound 34 = .ok (.ireturn, 1) := by decide +kernel
theorem dX11_isThrough_0 : decode cX11_isThrough 0 = .ok (.iconst 1, 1) := by decide +kernel
theorem dX11_isThrough_1 : decode cX11_isThrough 1 = .ok (.istore_n 3, 1) := by decide +kernel
theorem dX11_isThrough_2 : decode cX11_isThrough 2 = .ok (.iconst 1, 1) := by decide +kernel
theorem dX11_isThrough_3 : decode cX11_isThrough 3 = .ok (.istore 4, 2) := by decide +kernel
theorem dX11_isThrough_5 : decode cX11_isThrough 5 = .ok (.iload 4, 2) := by decide +kernel
theorem dX11_isThrough_7 : decode cX11_isThrough 7 = .ok (.bipush 6, 2) := by decide +kernel
theorem dX11_isThrough_9 : decode cX11_isThrough 9 = .ok (.if_icmp .ge 43, 3) := by decide +kernel
theorem dX11_isThrough_12 : decode cX11_isThrough 12 = .ok (.iload_n 3, 1) := by decide +kernel
theorem dX11_isThrough_13 : decode cX11_isThrough 13 = .ok (.ifCond .eq 31, 3) := by decide +kernel
theorem dX11_isThrough_16 : decode cX11_isThrough 16 = .ok (.iload_n 0, 1) := by decide +kernel
theorem dX11_isThrough_17 : decode cX11_isThrough 17 = .ok (.iload 4, 2) := by decide +kernel
theorem dX11_isThrough_19 : decode cX11_isThrough 19 = .ok (.ishr, 1) := by decide +kernel
theorem dX11_isThrough_20 : decode cX11_isThrough 20 = .ok (.iconst 1, 1) := by decide +kernel
theorem dX11_isThrough_21 : decode cX11_isThrough 21 = .ok (.iand, 1) := by decide +kernel
theorem dX11_isThrough_22 : decode cX11_isThrough 22 = .ok (.ifCond .eq 18, 3) := by decide +kernel
theorem dX11_isThrough_25 : decode cX11_isThrough 25 = .ok (.iload 4, 2) := by decide +kernel
theorem dX11_isThrough_27 : decode cX11_isThrough 27 = .ok (.iload_n 1, 1) := by decide +kernel
theorem dX11_isThrough_28 : decode cX11_isThrough 28 = .ok (.if_icmp .le 12, 3) := by decide +kernel
theorem dX11_isThrough_31 : decode cX11_isThrough 31 = .ok (.bipush 6, 2) := by decide +kernel
theorem dX11_isThrough_33 : decode cX11_isThrough 33 = .ok (.iload 4, 2) := by decide +kernel
theorem dX11_isThrough_35 : decode cX11_isThrough 35 = .ok (.isub, 1) := by decide +kernel
theorem dX11_isThrough_36 : decode cX11_isThrough 36 = .ok (.iload_n 2, 1) := by decide +kernel
theorem dX11_isThrough_37 : decode cX11_isThrough 37 = .ok (.if_icmp .gt 7, 3) := by decide +kernel
theorem dX11_isThrough_40 : decode cX11_isThrough 40 = .ok (.iconst 1, 1) := by decide +kernel
theorem dX11_isThrough_41 : decode cX11_isThrough 41 = .ok (.goto 4, 3) := by decide +kernel
theorem dX11_isThrough_44 : decode cX11_isThrough 44 = .ok (.iconst 0, 1) := by decide +kernel
theorem dX11_isThrough_45 : decode cX11_isThrough 45 = .ok (.istore_n 3, 1) := by decide +kernel
theorem dX11_isThrough_46 : decode cX11_isThrough 46 = .ok (.iinc 4 1, 3) := by decide +kernel
theorem dX11_isThrough_49 : decode cX11_isThrough 49 = .ok (.goto (-44), 3) := by decide +kernel
theorem dX11_isThrough_52 : decode cX11_isThrough 52 = .ok (.iload_n 3, 1) := by decide +kernel
theorem dX11_isThrough_53 : decode cX11_isThrough 53 = .ok (.ireturn, 1) := by decide +kernel
theorem dX11_routeOf_0 : decode cX11_routeOf 0 = .ok (.iconst 0, 1) := by decide +kernel
theorem dX11_routeOf_1 : decode cX11_routeOf 1 = .ok (.istore_n 3, 1) := by decide +kernel
theorem dX11_routeOf_2 : decode cX11_routeOf 2 = .ok (.iconst 0, 1) := by decide +kernel
theorem dX11_routeOf_3 : decode cX11_routeOf 3 = .ok (.istore 4, 2) := by decide +kernel
theorem dX11_routeOf_5 : decode cX11_routeOf 5 = .ok (.iload 4, 2) := by decide +kernel
theorem dX11_routeOf_7 : decode cX11_routeOf 7 = .ok (.aload_n 0, 1) := by decide +kernel
theorem dX11_routeOf_8 : decode cX11_routeOf 8 = .ok (.getfield 104, 3) := by decide +kernel
theorem dX11_routeOf_11 : decode cX11_routeOf 11 = .ok (.if_icmp .ge 50, 3) := by decide +kernel
theorem dX11_routeOf_14 : decode cX11_routeOf 14 = .ok (.iload_n 3, 1) := by decide +kernel
theorem dX11_routeOf_15 : decode cX11_routeOf 15 = .ok (.iload_n 1, 1) := by decide +kernel
theorem dX11_routeOf_16 : decode cX11_routeOf 16 = .ok (.iload 4, 2) := by decide +kernel
theorem dX11_routeOf_18 : decode cX11_routeOf 18 = .ok (.ishr, 1) := by decide +kernel
theorem dX11_routeOf_19 : decode cX11_routeOf 19 = .ok (.iconst 1, 1) := by decide +kernel
theorem dX11_routeOf_20 : decode cX11_routeOf 20 = .ok (.iand, 1) := by decide +kernel
theorem dX11_routeOf_21 : decode cX11_routeOf 21 = .ok (.iconst 1, 1) := by decide +kernel
theorem dX11_routeOf_22 : decode cX11_routeOf 22 = .ok (.if_icmp .ne 30, 3) := by decide +kernel
theorem dX11_routeOf_25 : decode cX11_routeOf 25 = .ok (.iconst 1, 1) := by decide +kernel
theorem dX11_routeOf_26 : decode cX11_routeOf 26 = .ok (.aload_n 0, 1) := by decide +kernel
theorem dX11_routeOf_27 : decode cX11_routeOf 27 = .ok (.getfield 16, 3) := by decide +kernel
theorem dX11_routeOf_30 : decode cX11_routeOf 30 = .ok (.iconst 3, 1) := by decide +kernel
theorem dX11_routeOf_31 : decode cX11_routeOf 31 = .ok (.iload 4, 2) := by decide +kernel
theorem dX11_routeOf_33 : decode cX11_routeOf 33 = .ok (.imul, 1) := by decide +kernel
theorem dX11_routeOf_34 : decode cX11_routeOf 34 = .ok (.iconst 1, 1) := by decide +kernel
theorem dX11_routeOf_35 : decode cX11_routeOf 35 = .ok (.iadd, 1) := by decide +kernel
theorem dX11_routeOf_36 : decode cX11_routeOf 36 = .ok (.iaload, 1) := by decide +kernel
theorem dX11_routeOf_37 : decode cX11_routeOf 37 = .ok (.aload_n 0, 1) := by decide +kernel
theorem dX11_routeOf_38 : decode cX11_routeOf 38 = .ok (.getfield 107, 3) := by decide +kernel
theorem dX11_routeOf_41 : decode cX11_routeOf 41 = .ok (.isub, 1) := by decide +kernel
theorem dX11_routeOf_42 : decode cX11_routeOf 42 = .ok (.bipush 6, 2) := by decide +kernel
theorem dX11_routeOf_44 : decode cX11_routeOf 44 = .ok (.iadd, 1) := by decide +kernel
theorem dX11_routeOf_45 : decode cX11_routeOf 45 = .ok (.bipush 6, 2) := by decide +kernel
theorem dX11_routeOf_47 : decode cX11_routeOf 47 = .ok (.irem, 1) := by decide +kernel
theorem dX11_routeOf_48 : decode cX11_routeOf 48 = .ok (.ishl, 1) := by decide +kernel
theorem dX11_routeOf_49 : decode cX11_routeOf 49 = .ok (.goto 4, 3) := by decide +kernel
theorem dX11_routeOf_52 : decode cX11_routeOf 52 = .ok (.iconst 0, 1) := by decide +kernel
theorem dX11_routeOf_53 : decode cX11_routeOf 53 = .ok (.ior, 1) := by decide +kernel
theorem dX11_routeOf_54 : decode cX11_routeOf 54 = .ok (.istore_n 3, 1) := by decide +kernel
theorem dX11_routeOf_55 : decode cX11_routeOf 55 = .ok (.iinc 4 1, 3) := by decide +kernel
theorem dX11_routeOf_58 : decode cX11_routeOf 58 = .ok (.goto (-53), 3) := by decide +kernel
theorem dX11_routeOf_61 : decode cX11_routeOf 61 = .ok (.bipush 99, 2) := by decide +kernel
theorem dX11_routeOf_63 : decode cX11_routeOf 63 = .ok (.istore 4, 2) := by decide +kernel
theorem dX11_routeOf_65 : decode cX11_routeOf 65 = .ok (.iconst (-1), 1) := by decide +kernel
theorem dX11_routeOf_66 : decode cX11_routeOf 66 = .ok (.istore 5, 2) := by decide +kernel
theorem dX11_routeOf_68 : decode cX11_routeOf 68 = .ok (.iconst 0, 1) := by decide +kernel
theorem dX11_routeOf_69 : decode cX11_routeOf 69 = .ok (.istore 6, 2) := by decide +kernel
theorem dX11_routeOf_71 : decode cX11_routeOf 71 = .ok (.iload 6, 2) := by decide +kernel
theorem dX11_routeOf_73 : decode cX11_routeOf 73 = .ok (.bipush 6, 2) := by decide +kernel
theorem dX11_routeOf_75 : decode cX11_routeOf 75 = .ok (.if_icmp .ge 148, 3) := by decide +kernel
theorem dX11_routeOf_78 : decode cX11_routeOf 78 = .ok (.iconst 0, 1) := by decide +kernel
theorem dX11_routeOf_79 : decode cX11_routeOf 79 = .ok (.istore 7, 2) := by decide +kernel
theorem dX11_routeOf_81 : decode cX11_routeOf 81 = .ok (.iload 7, 2) := by decide +kernel
theorem dX11_routeOf_83 : decode cX11_routeOf 83 = .ok (.bipush 6, 2) := by decide +kernel
theorem dX11_routeOf_85 : decode cX11_routeOf 85 = .ok (.if_icmp .ge 132, 3) := by decide +kernel
theorem dX11_routeOf_88 : decode cX11_routeOf 88 = .ok (.iload_n 3, 1) := by decide +kernel
theorem dX11_routeOf_89 : decode cX11_routeOf 89 = .ok (.iload 6, 2) := by decide +kernel
theorem dX11_routeOf_91 : decode cX11_routeOf 91 = .ok (.iload 7, 2) := by decide +kernel
theorem dX11_routeOf_93 : decode cX11_routeOf 93 = .ok (.invokestatic 245, 3) := by decide +kernel
theorem dX11_routeOf_96 : decode cX11_routeOf 96 = .ok (.ifCond .eq 115, 3) := by decide +kernel
theorem dX11_routeOf_99 : decode cX11_routeOf 99 = .ok (.iload 7, 2) := by decide +kernel
theorem dX11_routeOf_101 : decode cX11_routeOf 101 = .ok (.ifCond .ne 8, 3) := by decide +kernel
theorem dX11_routeOf_104 : decode cX11_routeOf 104 = .ok (.iload 6, 2) := by decide +kernel
theorem dX11_routeOf_106 : decode cX11_routeOf 106 = .ok (.goto 10, 3) := by decide +kernel
theorem dX11_routeOf_109 : decode cX11_routeOf 109 = .ok (.iconst 2, 1) := by decide +kernel
theorem dX11_routeOf_110 : decode cX11_routeOf 110 = .ok (.iload 6, 2) := by decide +kernel
theorem dX11_routeOf_112 : decode cX11_routeOf 112 = .ok (.imul, 1) := by decide +kernel
theorem dX11_routeOf_113 : decode cX11_routeOf 113 = .ok (.iload 7, 2) := by decide +kernel
theorem dX11_routeOf_115 : decode cX11_routeOf 115 = .ok (.iadd, 1) := by decide +kernel
theorem dX11_routeOf_116 : decode cX11_routeOf 116 = .ok (.istore 8, 2) := by decide +kernel
theorem dX11_routeOf_118 : decode cX11_routeOf 118 = .ok (.iload 6, 2) := by decide +kernel
theorem dX11_routeOf_120 : decode cX11_routeOf 120 = .ok (.ifCond .ne 8, 3) := by decide +kernel
theorem dX11_routeOf_123 : decode cX11_routeOf 123 = .ok (.iload 7, 2) := by decide +kernel
theorem dX11_routeOf_125 : decode cX11_routeOf 125 = .ok (.goto 10, 3) := by decide +kernel
theorem dX11_routeOf_128 : decode cX11_routeOf 128 = .ok (.iconst 2, 1) := by decide +kernel
theorem dX11_routeOf_129 : decode cX11_routeOf 129 = .ok (.iload 7, 2) := by decide +kernel
theorem dX11_routeOf_131 : decode cX11_routeOf 131 = .ok (.imul, 1) := by decide +kernel
theorem dX11_routeOf_132 : decode cX11_routeOf 132 = .ok (.iload 6, 2) := by decide +kernel
theorem dX11_routeOf_134 : decode cX11_routeOf 134 = .ok (.iadd, 1) := by decide +kernel
theorem dX11_routeOf_135 : decode cX11_routeOf 135 = .ok (.istore 9, 2) := by decide +kernel
theorem dX11_routeOf_137 : decode cX11_routeOf 137 = .ok (.iload 6, 2) := by decide +kernel
theorem dX11_routeOf_139 : decode cX11_routeOf 139 = .ok (.ifCond .ne 7, 3) := by decide +kernel
theorem dX11_routeOf_142 : decode cX11_routeOf 142 = .ok (.iconst (-1), 1) := by decide +kernel
theorem dX11_routeOf_143 : decode cX11_routeOf 143 = .ok (.goto 4, 3) := by decide +kernel
theorem dX11_routeOf_146 : decode cX11_routeOf 146 = .ok (.iconst 1, 1) := by decide +kernel
theorem dX11_routeOf_147 : decode cX11_routeOf 147 = .ok (.istore 10, 2) := by decide +kernel
theorem dX11_routeOf_149 : decode cX11_routeOf 149 = .ok (.iload 6, 2) := by decide +kernel
theorem dX11_routeOf_151 : decode cX11_routeOf 151 = .ok (.ifCond .le 25, 3) := by decide +kernel
theorem dX11_routeOf_154 : decode cX11_routeOf 154 = .ok (.iload 8, 2) := by decide +kernel
theorem dX11_routeOf_156 : decode cX11_routeOf 156 = .ok (.iload 4, 2) := by decide +kernel
theorem dX11_routeOf_158 : decode cX11_routeOf 158 = .ok (.if_icmp .lt 10, 3) := by decide +kernel
theorem dX11_routeOf_161 : decode cX11_routeOf 161 = .ok (.iload 8, 2) := by decide +kernel
theorem dX11_routeOf_163 : decode cX11_routeOf 163 = .ok (.iload 4, 2) := by decide +kernel
theorem dX11_routeOf_165 : decode cX11_routeOf 165 = .ok (.if_icmp .ne 11, 3) := by decide +kernel
theorem dX11_routeOf_168 : decode cX11_routeOf 168 = .ok (.iload 8, 2) := by decide +kernel
theorem dX11_routeOf_170 : decode cX11_routeOf 170 = .ok (.istore 4, 2) := by decide +kernel
theorem dX11_routeOf_172 : decode cX11_routeOf 172 = .ok (.iload 10, 2) := by decide +kernel
theorem dX11_routeOf_174 : decode cX11_routeOf 174 = .ok (.istore 5, 2) := by decide +kernel
theorem dX11_routeOf_176 : decode cX11_routeOf 176 = .ok (.iload 7, 2) := by decide +kernel
theorem dX11_routeOf_178 : decode cX11_routeOf 178 = .ok (.ifCond .le 17, 3) := by decide +kernel
theorem dX11_routeOf_181 : decode cX11_routeOf 181 = .ok (.iload 9, 2) := by decide +kernel
theorem dX11_routeOf_183 : decode cX11_routeOf 183 = .ok (.iload 4, 2) := by decide +kernel
theorem dX11_routeOf_185 : decode cX11_routeOf 185 = .ok (.if_icmp .ge 10, 3) := by decide +kernel
theorem dX11_routeOf_188 : decode cX11_routeOf 188 = .ok (.iload 9, 2) := by decide +kernel
theorem dX11_routeOf_190 : decode cX11_routeOf 190 = .ok (.istore 4, 2) := by decide +kernel
theorem dX11_routeOf_192 : decode cX11_routeOf 192 = .ok (.iconst 0, 1) := by decide +kernel
theorem dX11_routeOf_193 : decode cX11_routeOf 193 = .ok (.istore 5, 2) := by decide +kernel
theorem dX11_routeOf_195 : decode cX11_routeOf 195 = .ok (.iload 6, 2) := by decide +kernel
theorem dX11_routeOf_197 : decode cX11_routeOf 197 = .ok (.ifCond .ne 14, 3) := by decide +kernel
theorem dX11_routeOf_200 : decode cX11_routeOf 200 = .ok (.iload 7, 2) := by decide +kernel
theorem dX11_routeOf_202 : decode cX11_routeOf 202 = .ok (.ifCond .ne 9, 3) := by decide +kernel
theorem dX11_routeOf_205 : decode cX11_routeOf 205 = .ok (.iconst 0, 1) := by decide +kernel
theorem dX11_routeOf_206 : decode cX11_routeOf 206 = .ok (.istore 4, 2) := by decide +kernel
theorem dX11_routeOf_208 : decode cX11_routeOf 208 = .ok (.iconst (-1), 1) := by decide +kernel
theorem dX11_routeOf_209 : decode cX11_routeOf 209 = .ok (.istore 5, 2) := by decide +kernel
theorem dX11_routeOf_211 : decode cX11_routeOf 211 = .ok (.iinc 7 1, 3) := by decide +kernel
theorem dX11_routeOf_214 : decode cX11_routeOf 214 = .ok (.goto (-133), 3) := by decide +kernel
theorem dX11_routeOf_217 : decode cX11_routeOf 217 = .ok (.iinc 6 1, 3) := by decide +kernel
theorem dX11_routeOf_220 : decode cX11_routeOf 220 = .ok (.goto (-149), 3) := by decide +kernel
theorem dX11_routeOf_223 : decode cX11_routeOf 223 = .ok (.iload_n 2, 1) := by decide +kernel
theorem dX11_routeOf_224 : decode cX11_routeOf 224 = .ok (.ifCond .ne 8, 3) := by decide +kernel
theorem dX11_routeOf_227 : decode cX11_routeOf 227 = .ok (.iload 4, 2) := by decide +kernel
theorem dX11_routeOf_229 : decode cX11_routeOf 229 = .ok (.goto 5, 3) := by decide +kernel
theorem dX11_routeOf_232 : decode cX11_routeOf 232 = .ok (.iload 5, 2) := by decide +kernel
theorem dX11_routeOf_234 : decode cX11_routeOf 234 = .ok (.ireturn, 1) := by decide +kernel
theorem dX11_route_0 : decode cX11_route 0 = .ok (.iload_n 1, 1) := by decide +kernel
theorem dX11_route_1 : decode cX11_route 1 = .ok (.iconst 1, 1) := by decide +kernel
theorem dX11_route_2 : decode cX11_route 2 = .ok (.if_icmp .lt 37, 3) := by decide +kernel
theorem dX11_route_5 : decode cX11_route 5 = .ok (.aload_n 0, 1) := by decide +kernel
theorem dX11_route_6 : decode cX11_route 6 = .ok (.invokevirtual 192, 3) := by decide +kernel
theorem dX11_route_9 : decode cX11_route 9 = .ok (.ifCond .ne 30, 3) := by decide +kernel
theorem dX11_route_12 : decode cX11_route 12 = .ok (.iload_n 1, 1) := by decide +kernel
theorem dX11_route_13 : decode cX11_route 13 = .ok (.bipush 31, 2) := by decide +kernel
theorem dX11_route_15 : decode cX11_route 15 = .ok (.if_icmp .gt 24, 3) := by decide +kernel
theorem dX11_route_18 : decode cX11_route 18 = .ok (.iload_n 1, 1) := by decide +kernel
theorem dX11_route_19 : decode cX11_route 19 = .ok (.aload_n 0, 1) := by decide +kernel
theorem dX11_route_20 : decode cX11_route 20 = .ok (.invokevirtual 199, 3) := by decide +kernel
theorem dX11_route_23 : decode cX11_route 23 = .ok (.iconst (-1), 1) := by decide +kernel
theorem dX11_route_24 : decode cX11_route 24 = .ok (.ixor, 1) := by decide +kernel
theorem dX11_route_25 : decode cX11_route 25 = .ok (.iand, 1) := by decide +kernel
theorem dX11_route_26 : decode cX11_route 26 = .ok (.ifCond .ne 13, 3) := by decide +kernel
theorem dX11_route_29 : decode cX11_route 29 = .ok (.iload_n 2, 1) := by decide +kernel
theorem dX11_route_30 : decode cX11_route 30 = .ok (.i2l, 1) := by decide +kernel
theorem dX11_route_31 : decode cX11_route 31 = .ok (.lconst 0, 1) := by decide +kernel
theorem dX11_route_32 : decode cX11_route 32 = .ok (.lconst 1, 1) := by decide +kernel
theorem dX11_route_33 : decode cX11_route 33 = .ok (.invokestatic 64, 3) := by decide +kernel
theorem dX11_route_36 : decode cX11_route 36 = .ok (.ifCond .ne 6, 3) := by decide +kernel
theorem dX11_route_39 : decode cX11_route 39 = .ok (.bipush (-102), 2) := by decide +kernel
theorem dX11_route_41 : decode cX11_route 41 = .ok (.ireturn, 1) := by decide +kernel
theorem dX11_route_42 : decode cX11_route 42 = .ok (.aload_n 0, 1) := by decide +kernel
theorem dX11_route_43 : decode cX11_route 43 = .ok (.iload_n 1, 1) := by decide +kernel
theorem dX11_route_44 : decode cX11_route 44 = .ok (.iload_n 2, 1) := by decide +kernel
theorem dX11_route_45 : decode cX11_route 45 = .ok (.invokevirtual 249, 3) := by decide +kernel
theorem dX11_route_48 : decode cX11_route 48 = .ok (.ireturn, 1) := by decide +kernel
theorem dX11_see_0 : decode cX11_see 0 = .ok (.aload_n 0, 1) := by decide +kernel
theorem dX11_see_1 : decode cX11_see 1 = .ok (.iload_n 1, 1) := by decide +kernel
theorem dX11_see_2 : decode cX11_see 2 = .ok (.invokevirtual 186, 3) := by decide +kernel
theorem dX11_see_5 : decode cX11_see 5 = .ok (.ifCond .eq 11, 3) := by decide +kernel
theorem dX11_see_8 : decode cX11_see 8 = .ok (.aload_n 0, 1) := by decide +kernel
theorem dX11_see_9 : decode cX11_see 9 = .ok (.iload_n 2, 1) := by decide +kernel
theorem dX11_see_10 : decode cX11_see 10 = .ok (.invokevirtual 165, 3) := by decide +kernel
theorem dX11_see_13 : decode cX11_see 13 = .ok (.ifCond .ne 6, 3) := by decide +kernel
theorem dX11_see_16 : decode cX11_see 16 = .ok (.bipush (-101), 2) := by decide +kernel
theorem dX11_see_18 : decode cX11_see 18 = .ok (.ireturn, 1) := by decide +kernel
theorem dX11_see_19 : decode cX11_see 19 = .ok (.aload_n 0, 1) := by decide +kernel
theorem dX11_see_20 : decode cX11_see 20 = .ok (.getfield 125, 3) := by decide +kernel
theorem dX11_see_23 : decode cX11_see 23 = .ok (.bipush 8, 2) := by decide +kernel
theorem dX11_see_25 : decode cX11_see 25 = .ok (.if_icmp .ne 6, 3) := by decide +kernel
theorem dX11_see_28 : decode cX11_see 28 = .ok (.bipush (-104), 2) := by decide +kernel
theorem dX11_see_30 : decode cX11_see 30 = .ok (.ireturn, 1) := by decide +kernel
theorem dX11_see_31 : decode cX11_see 31 = .ok (.aload_n 0, 1) := by decide +kernel
theorem dX11_see_32 : decode cX11_see 32 = .ok (.getfield 37, 3) := by decide +kernel
theorem dX11_see_35 : decode cX11_see 35 = .ok (.iconst 3, 1) := by decide +kernel
theorem dX11_see_36 : decode cX11_see 36 = .ok (.aload_n 0, 1) := by decide +kernel
theorem dX11_see_37 : decode cX11_see 37 = .ok (.getfield 125, 3) := by decide +kernel
theorem dX11_see_40 : decode cX11_see 40 = .ok (.imul, 1) := by decide +kernel
theorem dX11_see_41 : decode cX11_see 41 = .ok (.iload_n 1, 1) := by decide +kernel
theorem dX11_see_42 : decode cX11_see 42 = .ok (.iastore, 1) := by decide +kernel
theorem dX11_see_43 : decode cX11_see 43 = .ok (.aload_n 0, 1) := by decide +kernel
theorem dX11_see_44 : decode cX11_see 44 = .ok (.getfield 37, 3) := by decide +kernel
theorem dX11_see_47 : decode cX11_see 47 = .ok (.iconst 3, 1) := by decide +kernel
theorem dX11_see_48 : decode cX11_see 48 = .ok (.aload_n 0, 1) := by decide +kernel
theorem dX11_see_49 : decode cX11_see 49 = .ok (.getfield 125, 3) := by decide +kernel
theorem dX11_see_52 : decode cX11_see 52 = .ok (.imul, 1) := by decide +kernel
theorem dX11_see_53 : decode cX11_see 53 = .ok (.iconst 1, 1) := by decide +kernel
theorem dX11_see_54 : decode cX11_see 54 = .ok (.iadd, 1) := by decide +kernel
theorem dX11_see_55 : decode cX11_see 55 = .ok (.iload_n 2, 1) := by decide +kernel
theorem dX11_see_56 : decode cX11_see 56 = .ok (.iastore, 1) := by decide +kernel
theorem dX11_see_57 : decode cX11_see 57 = .ok (.aload_n 0, 1) := by decide +kernel
theorem dX11_see_58 : decode cX11_see 58 = .ok (.getfield 37, 3) := by decide +kernel
theorem dX11_see_61 : decode cX11_see 61 = .ok (.iconst 3, 1) := by decide +kernel
theorem dX11_see_62 : decode cX11_see 62 = .ok (.aload_n 0, 1) := by decide +kernel
theorem dX11_see_63 : decode cX11_see 63 = .ok (.getfield 125, 3) := by decide +kernel
theorem dX11_see_66 : decode cX11_see 66 = .ok (.imul, 1) := by decide +kernel
theorem dX11_see_67 : decode cX11_see 67 = .ok (.iconst 2, 1) := by decide +kernel
theorem dX11_see_68 : decode cX11_see 68 = .ok (.iadd, 1) := by decide +kernel
theorem dX11_see_69 : decode cX11_see 69 = .ok (.iload_n 3, 1) := by decide +kernel
theorem dX11_see_70 : decode cX11_see 70 = .ok (.ifCond .eq 7, 3) := by decide +kernel
theorem dX11_see_73 : decode cX11_see 73 = .ok (.iconst 1, 1) := by decide +kernel
theorem dX11_see_74 : decode cX11_see 74 = .ok (.goto 4, 3) := by decide +kernel
theorem dX11_see_77 : decode cX11_see 77 = .ok (.iconst 0, 1) := by decide +kernel
theorem dX11_see_78 : decode cX11_see 78 = .ok (.iastore, 1) := by decide +kernel
theorem dX11_see_79 : decode cX11_see 79 = .ok (.aload_n 0, 1) := by decide +kernel
theorem dX11_see_80 : decode cX11_see 80 = .ok (.dup, 1) := by decide +kernel
theorem dX11_see_81 : decode cX11_see 81 = .ok (.getfield 125, 3) := by decide +kernel
theorem dX11_see_84 : decode cX11_see 84 = .ok (.iconst 1, 1) := by decide +kernel
theorem dX11_see_85 : decode cX11_see 85 = .ok (.iadd, 1) := by decide +kernel
theorem dX11_see_86 : decode cX11_see 86 = .ok (.putfield 125, 3) := by decide +kernel
theorem dX11_see_89 : decode cX11_see 89 = .ok (.aload_n 0, 1) := by decide +kernel
theorem dX11_see_90 : decode cX11_see 90 = .ok (.getfield 125, 3) := by decide +kernel
theorem dX11_see_93 : decode cX11_see 93 = .ok (.ireturn, 1) := by decide +kernel
theorem dX11_forget_0 : decode cX11_forget 0 = .ok (.aload_n 0, 1) := by decide +kernel
theorem dX11_forget_1 : decode cX11_forget 1 = .ok (.getfield 125, 3) := by decide +kernel
theorem dX11_forget_4 : decode cX11_forget 4 = .ok (.istore_n 1, 1) := by decide +kernel
theorem dX11_forget_5 : decode cX11_forget 5 = .ok (.aload_n 0, 1) := by decide +kernel
theorem dX11_forget_6 : decode cX11_forget 6 = .ok (.iconst 0, 1) := by decide +kernel
theorem dX11_forget_7 : decode cX11_forget 7 = .ok (.putfield 125, 3) := by decide +kernel
theorem dX11_forget_10 : decode cX11_forget 10 = .ok (.iload_n 1, 1) := by decide +kernel
theorem dX11_forget_11 : decode cX11_forget 11 = .ok (.ireturn, 1) := by decide +kernel
theorem dX11_strongsOf_0 : decode cX11_strongsOf 0 = .ok (.iconst 0, 1) := by decide +kernel
theorem dX11_strongsOf_1 : decode cX11_strongsOf 1 = .ok (.istore_n 2, 1) := by decide +kernel
theorem dX11_strongsOf_2 : decode cX11_strongsOf 2 = .ok (.iconst 0, 1) := by decide +kernel
theorem dX11_strongsOf_3 : decode cX11_strongsOf 3 = .ok (.istore_n 3, 1) := by decide +kernel
theorem dX11_strongsOf_4 : decode cX11_strongsOf 4 = .ok (.iload_n 3, 1) := by decide +kernel
theorem dX11_strongsOf_5 : decode cX11_strongsOf 5 = .ok (.bipush 10, 2) := by decide +kernel
theorem dX11_strongsOf_7 : decode cX11_strongsOf 7 = .ok (.if_icmp .ge 109, 3) := by decide +kernel
theorem dX11_strongsOf_10 : decode cX11_strongsOf 10 = .ok (.iconst 1, 1) := by decide +kernel
theorem dX11_strongsOf_11 : decode cX11_strongsOf 11 = .ok (.istore 4, 2) := by decide +kernel
theorem dX11_strongsOf_13 : decode cX11_strongsOf 13 = .ok (.iconst 0, 1) := by decide +kernel
theorem dX11_strongsOf_14 : decode cX11_strongsOf 14 = .ok (.istore 5, 2) := by decide +kernel
theorem dX11_strongsOf_16 : decode cX11_strongsOf 16 = .ok (.iload 5, 2) := by decide +kernel
theorem dX11_strongsOf_18 : decode cX11_strongsOf 18 = .ok (.iconst 3, 1) := by decide +kernel
theorem dX11_strongsOf_19 : decode cX11_strongsOf 19 = .ok (.aload_n 0, 1) := by decide +kernel
theorem dX11_strongsOf_20 : decode cX11_strongsOf 20 = .ok (.getfield 125, 3) := by decide +kernel
theorem dX11_strongsOf_23 : decode cX11_strongsOf 23 = .ok (.imul, 1) := by decide +kernel
theorem dX11_strongsOf_24 : decode cX11_strongsOf 24 = .ok (.if_icmp .ge 71, 3) := by decide +kernel
theorem dX11_strongsOf_27 : decode cX11_strongsOf 27 = .ok (.aload_n 0, 1) := by decide +kernel
theorem dX11_strongsOf_28 : decode cX11_strongsOf 28 = .ok (.iload_n 3, 1) := by decide +kernel
theorem dX11_strongsOf_29 : decode cX11_strongsOf 29 = .ok (.aload_n 0, 1) := by decide +kernel
theorem dX11_strongsOf_30 : decode cX11_strongsOf 30 = .ok (.getfield 37, 3) := by decide +kernel
theorem dX11_strongsOf_33 : decode cX11_strongsOf 33 = .ok (.iload 5, 2) := by decide +kernel
theorem dX11_strongsOf_35 : decode cX11_strongsOf 35 = .ok (.iconst 1, 1) := by decide +kernel
theorem dX11_strongsOf_36 : decode cX11_strongsOf 36 = .ok (.iadd, 1) := by decide +kernel
theorem dX11_strongsOf_37 : decode cX11_strongsOf 37 = .ok (.iaload, 1) := by decide +kernel
theorem dX11_strongsOf_38 : decode cX11_strongsOf 38 = .ok (.invokevirtual 134, 3) := by decide +kernel
theorem dX11_strongsOf_41 : decode cX11_strongsOf 41 = .ok (.istore 6, 2) := by decide +kernel
theorem dX11_strongsOf_43 : decode cX11_strongsOf 43 = .ok (.iload 4, 2) := by decide +kernel
theorem dX11_strongsOf_45 : decode cX11_strongsOf 45 = .ok (.ifCond .eq 41, 3) := by decide +kernel
theorem dX11_strongsOf_48 : decode cX11_strongsOf 48 = .ok (.aload_n 0, 1) := by decide +kernel
theorem dX11_strongsOf_49 : decode cX11_strongsOf 49 = .ok (.getfield 37, 3) := by decide +kernel
theorem dX11_strongsOf_52 : decode cX11_strongsOf 52 = .ok (.iload 5, 2) := by decide +kernel
theorem dX11_strongsOf_54 : decode cX11_strongsOf 54 = .ok (.iaload, 1) := by decide +kernel
theorem dX11_strongsOf_55 : decode cX11_strongsOf 55 = .ok (.iload_n 1, 1) := by decide +kernel
theorem dX11_strongsOf_56 : decode cX11_strongsOf 56 = .ok (.if_icmp .ne 26, 3) := by decide +kernel
theorem dX11_strongsOf_59 : decode cX11_strongsOf 59 = .ok (.iload 6, 2) := by decide +kernel
theorem dX11_strongsOf_61 : decode cX11_strongsOf 61 = .ok (.aload_n 0, 1) := by decide +kernel
theorem dX11_strongsOf_62 : decode cX11_strongsOf 62 = .ok (.getfield 37, 3) := by decide +kernel
theorem dX11_strongsOf_65 : decode cX11_strongsOf 65 = .ok (.iload 5, 2) := by decide +kernel
theorem dX11_strongsOf_67 : decode cX11_strongsOf 67 = .ok (.iconst 2, 1) := by decide +kernel
theorem dX11_strongsOf_68 : decode cX11_strongsOf 68 = .ok (.iadd, 1) := by decide +kernel
theorem dX11_strongsOf_69 : decode cX11_strongsOf 69 = .ok (.iaload, 1) := by decide +kernel
theorem dX11_strongsOf_70 : decode cX11_strongsOf 70 = .ok (.iconst 1, 1) := by decide +kernel
theorem dX11_strongsOf_71 : decode cX11_strongsOf 71 = .ok (.if_icmp .ne 7, 3) := by decide +kernel
theorem dX11_strongsOf_74 : decode cX11_strongsOf 74 = .ok (.iconst 1, 1) := by decide +kernel
theorem dX11_strongsOf_75 : decode cX11_strongsOf 75 = .ok (.goto 4, 3) := by decide +kernel
theorem dX11_strongsOf_78 : decode cX11_strongsOf 78 = .ok (.iconst 0, 1) := by decide +kernel
theorem dX11_strongsOf_79 : decode cX11_strongsOf 79 = .ok (.if_icmp .ne 7, 3) := by decide +kernel
theorem dX11_strongsOf_82 : decode cX11_strongsOf 82 = .ok (.iconst 1, 1) := by decide +kernel
theorem dX11_strongsOf_83 : decode cX11_strongsOf 83 = .ok (.goto 4, 3) := by decide +kernel
theorem dX11_strongsOf_86 : decode cX11_strongsOf 86 = .ok (.iconst 0, 1) := by decide +kernel
theorem dX11_strongsOf_87 : decode cX11_strongsOf 87 = .ok (.istore 4, 2) := by decide +kernel
theorem dX11_strongsOf_89 : decode cX11_strongsOf 89 = .ok (.iinc 5 3, 3) := by decide +kernel
theorem dX11_strongsOf_92 : decode cX11_strongsOf 92 = .ok (.goto (-76), 3) := by decide +kernel
theorem dX11_strongsOf_95 : decode cX11_strongsOf 95 = .ok (.iload_n 2, 1) := by decide +kernel
theorem dX11_strongsOf_96 : decode cX11_strongsOf 96 = .ok (.iload 4, 2) := by decide +kernel
theorem dX11_strongsOf_98 : decode cX11_strongsOf 98 = .ok (.ifCond .eq 9, 3) := by decide +kernel
theorem dX11_strongsOf_101 : decode cX11_strongsOf 101 = .ok (.iconst 1, 1) := by decide +kernel
theorem dX11_strongsOf_102 : decode cX11_strongsOf 102 = .ok (.iload_n 3, 1) := by decide +kernel
theorem dX11_strongsOf_103 : decode cX11_strongsOf 103 = .ok (.ishl, 1) := by decide +kernel
theorem dX11_strongsOf_104 : decode cX11_strongsOf 104 = .ok (.goto 4, 3) := by decide +kernel
theorem dX11_strongsOf_107 : decode cX11_strongsOf 107 = .ok (.iconst 0, 1) := by decide +kernel
theorem dX11_strongsOf_108 : decode cX11_strongsOf 108 = .ok (.ior, 1) := by decide +kernel
theorem dX11_strongsOf_109 : decode cX11_strongsOf 109 = .ok (.istore_n 2, 1) := by decide +kernel
theorem dX11_strongsOf_110 : decode cX11_strongsOf 110 = .ok (.iinc 3 1, 3) := by decide +kernel
theorem dX11_strongsOf_113 : decode cX11_strongsOf 113 = .ok (.goto (-109), 3) := by decide +kernel
theorem dX11_strongsOf_116 : decode cX11_strongsOf 116 = .ok (.iload_n 2, 1) := by decide +kernel
theorem dX11_strongsOf_117 : decode cX11_strongsOf 117 = .ok (.ireturn, 1) := by decide +kernel
theorem dX11_tryOf_0 : decode cX11_tryOf 0 = .ok (.aload_n 0, 1) := by decide +kernel
theorem dX11_tryOf_1 : decode cX11_tryOf 1 = .ok (.iload_n 1, 1) := by decide +kernel
theorem dX11_tryOf_2 : decode cX11_tryOf 2 = .ok (.invokevirtual 180, 3) := by decide +kernel
theorem dX11_tryOf_5 : decode cX11_tryOf 5 = .ok (.istore_n 2, 1) := by decide +kernel
theorem dX11_tryOf_6 : decode cX11_tryOf 6 = .ok (.iconst (-1), 1) := by decide +kernel
theorem dX11_tryOf_7 : decode cX11_tryOf 7 = .ok (.istore_n 3, 1) := by decide +kernel
theorem dX11_tryOf_8 : decode cX11_tryOf 8 = .ok (.bipush 11, 2) := by decide +kernel
theorem dX11_tryOf_10 : decode cX11_tryOf 10 = .ok (.istore 4, 2) := by decide +kernel
theorem dX11_tryOf_12 : decode cX11_tryOf 12 = .ok (.iconst 0, 1) := by decide +kernel
theorem dX11_tryOf_13 : decode cX11_tryOf 13 = .ok (.istore 5, 2) := by decide +kernel
theorem dX11_tryOf_15 : decode cX11_tryOf 15 = .ok (.iload 5, 2) := by decide +kernel
theorem dX11_tryOf_17 : decode cX11_tryOf 17 = .ok (.aload_n 0, 1) := by decide +kernel
theorem dX11_tryOf_18 : decode cX11_tryOf 18 = .ok (.getfield 101, 3) := by decide +kernel
theorem dX11_tryOf_21 : decode cX11_tryOf 21 = .ok (.if_icmp .ge 113, 3) := by decide +kernel
theorem dX11_tryOf_24 : decode cX11_tryOf 24 = .ok (.iload_n 2, 1) := by decide +kernel
theorem dX11_tryOf_25 : decode cX11_tryOf 25 = .ok (.ifCond .eq 109, 3) := by decide +kernel
theorem dX11_tryOf_28 : decode cX11_tryOf 28 = .ok (.iconst 0, 1) := by decide +kernel
theorem dX11_tryOf_29 : decode cX11_tryOf 29 = .ok (.istore 6, 2) := by decide +kernel
theorem dX11_tryOf_31 : decode cX11_tryOf 31 = .ok (.iconst 0, 1) := by decide +kernel
theorem dX11_tryOf_32 : decode cX11_tryOf 32 = .ok (.istore 7, 2) := by decide +kernel
theorem dX11_tryOf_34 : decode cX11_tryOf 34 = .ok (.iload 7, 2) := by decide +kernel
theorem dX11_tryOf_36 : decode cX11_tryOf 36 = .ok (.bipush 10, 2) := by decide +kernel
theorem dX11_tryOf_38 : decode cX11_tryOf 38 = .ok (.if_icmp .ge 35, 3) := by decide +kernel
theorem dX11_tryOf_41 : decode cX11_tryOf 41 = .ok (.iload 6, 2) := by decide +kernel
theorem dX11_tryOf_43 : decode cX11_tryOf 43 = .ok (.aload_n 0, 1) := by decide +kernel
theorem dX11_tryOf_44 : decode cX11_tryOf 44 = .ok (.iload 7, 2) := by decide +kernel
theorem dX11_tryOf_46 : decode cX11_tryOf 46 = .ok (.iload 5, 2) := by decide +kernel
theorem dX11_tryOf_48 : decode cX11_tryOf 48 = .ok (.invokevirtual 134, 3) := by decide +kernel
theorem dX11_tryOf_51 : decode cX11_tryOf 51 = .ok (.ifCond .eq 12, 3) := by decide +kernel
theorem dX11_tryOf_54 : decode cX11_tryOf 54 = .ok (.iload_n 2, 1) := by decide +kernel
theorem dX11_tryOf_55 : decode cX11_tryOf 55 = .ok (.iload 7, 2) := by decide +kernel
theorem dX11_tryOf_57 : decode cX11_tryOf 57 = .ok (.ishr, 1) := by decide +kernel
theorem dX11_tryOf_58 : decode cX11_tryOf 58 = .ok (.iconst 1, 1) := by decide +kernel
theorem dX11_tryOf_59 : decode cX11_tryOf 59 = .ok (.iand, 1) := by decide +kernel
theorem dX11_tryOf_60 : decode cX11_tryOf 60 = .ok (.goto 4, 3) := by decide +kernel
theorem dX11_tryOf_63 : decode cX11_tryOf 63 = .ok (.iconst 0, 1) := by decide +kernel
theorem dX11_tryOf_64 : decode cX11_tryOf 64 = .ok (.iadd, 1) := by decide +kernel
theorem dX11_tryOf_65 : decode cX11_tryOf 65 = .ok (.istore 6, 2) := by decide +kernel
theorem dX11_tryOf_67 : decode cX11_tryOf 67 = .ok (.iinc 7 1, 3) := by decide +kernel
theorem dX11_tryOf_70 : decode cX11_tryOf 70 = .ok (.goto (-36), 3) := by decide +kernel
theorem dX11_tryOf_73 : decode cX11_tryOf 73 = .ok (.iload_n 2, 1) := by decide +kernel
theorem dX11_tryOf_74 : decode cX11_tryOf 74 = .ok (.invokestatic 141, 3) := by decide +kernel
theorem dX11_tryOf_77 : decode cX11_tryOf 77 = .ok (.iload 6, 2) := by decide +kernel
theorem dX11_tryOf_79 : decode cX11_tryOf 79 = .ok (.isub, 1) := by decide +kernel
theorem dX11_tryOf_80 : decode cX11_tryOf 80 = .ok (.istore 7, 2) := by decide +kernel
theorem dX11_tryOf_82 : decode cX11_tryOf 82 = .ok (.iload 6, 2) := by decide +kernel
theorem dX11_tryOf_84 : decode cX11_tryOf 84 = .ok (.iload 7, 2) := by decide +kernel
theorem dX11_tryOf_86 : decode cX11_tryOf 86 = .ok (.if_icmp .le 8, 3) := by decide +kernel
theorem dX11_tryOf_89 : decode cX11_tryOf 89 = .ok (.iload 6, 2) := by decide +kernel
theorem dX11_tryOf_91 : decode cX11_tryOf 91 = .ok (.goto 5, 3) := by decide +kernel
theorem dX11_tryOf_94 : decode cX11_tryOf 94 = .ok (.iload 7, 2) := by decide +kernel
theorem dX11_tryOf_96 : decode cX11_tryOf 96 = .ok (.istore 8, 2) := by decide +kernel
theorem dX11_tryOf_98 : decode cX11_tryOf 98 = .ok (.iload 8, 2) := by decide +kernel
theorem dX11_tryOf_100 : decode cX11_tryOf 100 = .ok (.iload 4, 2) := by decide +kernel
theorem dX11_tryOf_102 : decode cX11_tryOf 102 = .ok (.if_icmp .ge 8, 3) := by decide +kernel
theorem dX11_tryOf_105 : decode cX11_tryOf 105 = .ok (.iload 5, 2) := by decide +kernel
theorem dX11_tryOf_107 : decode cX11_tryOf 107 = .ok (.goto 4, 3) := by decide +kernel
theorem dX11_tryOf_110 : decode cX11_tryOf 110 = .ok (.iload_n 3, 1) := by decide +kernel
theorem dX11_tryOf_111 : decode cX11_tryOf 111 = .ok (.istore_n 3, 1) := by decide +kernel
theorem dX11_tryOf_112 : decode cX11_tryOf 112 = .ok (.iload 8, 2) := by decide +kernel
theorem dX11_tryOf_114 : decode cX11_tryOf 114 = .ok (.iload 4, 2) := by decide +kernel
theorem dX11_tryOf_116 : decode cX11_tryOf 116 = .ok (.if_icmp .ge 8, 3) := by decide +kernel
theorem dX11_tryOf_119 : decode cX11_tryOf 119 = .ok (.iload 8, 2) := by decide +kernel
theorem dX11_tryOf_121 : decode cX11_tryOf 121 = .ok (.goto 5, 3) := by decide +kernel
theorem dX11_tryOf_124 : decode cX11_tryOf 124 = .ok (.iload 4, 2) := by decide +kernel
theorem dX11_tryOf_126 : decode cX11_tryOf 126 = .ok (.istore 4, 2) := by decide +kernel
theorem dX11_tryOf_128 : decode cX11_tryOf 128 = .ok (.iinc 5 1, 3) := by decide +kernel
theorem dX11_tryOf_131 : decode cX11_tryOf 131 = .ok (.goto (-116), 3) := by decide +kernel
theorem dX11_tryOf_134 : decode cX11_tryOf 134 = .ok (.iload_n 3, 1) := by decide +kernel
theorem dX11_tryOf_135 : decode cX11_tryOf 135 = .ok (.ireturn, 1) := by decide +kernel
theorem dX11_draw_0 : decode cX11_draw 0 = .ok (.aload_n 0, 1) := by decide +kernel
theorem dX11_draw_1 : decode cX11_draw 1 = .ok (.ldc2_w 252, 3) := by decide +kernel
theorem dX11_draw_4 : decode cX11_draw 4 = .ok (.aload_n 0, 1) := by decide +kernel
theorem dX11_draw_5 : decode cX11_draw 5 = .ok (.getfield 254, 3) := by decide +kernel
theorem dX11_draw_8 : decode cX11_draw 8 = .ok (.i2l, 1) := by decide +kernel
theorem dX11_draw_9 : decode cX11_draw 9 = .ok (.lmul, 1) := by decide +kernel
theorem dX11_draw_10 : decode cX11_draw 10 = .ok (.ldc2_w 257, 3) := by decide +kernel
theorem dX11_draw_13 : decode cX11_draw 13 = .ok (.ladd, 1) := by decide +kernel
theorem dX11_draw_14 : decode cX11_draw 14 = .ok (.ldc2_w 259, 3) := by decide +kernel
theorem dX11_draw_17 : decode cX11_draw 17 = .ok (.land, 1) := by decide +kernel
theorem dX11_draw_18 : decode cX11_draw 18 = .ok (.l2i, 1) := by decide +kernel
theorem dX11_draw_19 : decode cX11_draw 19 = .ok (.putfield 254, 3) := by decide +kernel
theorem dX11_draw_22 : decode cX11_draw 22 = .ok (.aload_n 0, 1) := by decide +kernel
theorem dX11_draw_23 : decode cX11_draw 23 = .ok (.getfield 254, 3) := by decide +kernel
theorem dX11_draw_26 : decode cX11_draw 26 = .ok (.ldc_w 261, 3) := by decide +kernel
theorem dX11_draw_29 : decode cX11_draw 29 = .ok (.idiv, 1) := by decide +kernel
theorem dX11_draw_30 : decode cX11_draw 30 = .ok (.iload_n 1, 1) := by decide +kernel
theorem dX11_draw_31 : decode cX11_draw 31 = .ok (.irem, 1) := by decide +kernel
theorem dX11_draw_32 : decode cX11_draw 32 = .ok (.ireturn, 1) := by decide +kernel
theorem dX11_takesLine_0 : decode cX11_takesLine 0 = .ok (.iconst 0, 1) := by decide +kernel
theorem dX11_takesLine_1 : decode cX11_takesLine 1 = .ok (.istore_n 2, 1) := by decide +kernel
theorem dX11_takesLine_2 : decode cX11_takesLine 2 = .ok (.iconst 0, 1) := by decide +kernel
theorem dX11_takesLine_3 : decode cX11_takesLine 3 = .ok (.istore_n 3, 1) := by decide +kernel
theorem dX11_takesLine_4 : decode cX11_takesLine 4 = .ok (.iconst 0, 1) := by decide +kernel
theorem dX11_takesLine_5 : decode cX11_takesLine 5 = .ok (.istore 4, 2) := by decide +kernel
theorem dX11_takesLine_7 : decode cX11_takesLine 7 = .ok (.iload 4, 2) := by decide +kernel
theorem dX11_takesLine_9 : decode cX11_takesLine 9 = .ok (.aload_n 0, 1) := by decide +kernel
theorem dX11_takesLine_10 : decode cX11_takesLine 10 = .ok (.getfield 262, 3) := by decide +kernel
theorem dX11_takesLine_13 : decode cX11_takesLine 13 = .ok (.if_icmp .ge 94, 3) := by decide +kernel
theorem dX11_takesLine_16 : decode cX11_takesLine 16 = .ok (.iload_n 2, 1) := by decide +kernel
theorem dX11_takesLine_17 : decode cX11_takesLine 17 = .ok (.invokestatic 141, 3) := by decide +kernel
theorem dX11_takesLine_20 : decode cX11_takesLine 20 = .ok (.aload_n 0, 1) := by decide +kernel
theorem dX11_takesLine_21 : decode cX11_takesLine 21 = .ok (.iload_n 1, 1) := by decide +kernel
theorem dX11_takesLine_22 : decode cX11_takesLine 22 = .ok (.invokevirtual 144, 3) := by decide +kernel
theorem dX11_takesLine_25 : decode cX11_takesLine 25 = .ok (.if_icmp .ge 38, 3) := by decide +kernel
theorem dX11_takesLine_28 : decode cX11_takesLine 28 = .ok (.aload_n 0, 1) := by decide +kernel
theorem dX11_takesLine_29 : decode cX11_takesLine 29 = .ok (.aload_n 0, 1) := by decide +kernel
theorem dX11_takesLine_30 : decode cX11_takesLine 30 = .ok (.getfield 40, 3) := by decide +kernel
theorem dX11_takesLine_33 : decode cX11_takesLine 33 = .ok (.iload 4, 2) := by decide +kernel
theorem dX11_takesLine_35 : decode cX11_takesLine 35 = .ok (.iaload, 1) := by decide +kernel
theorem dX11_takesLine_36 : decode cX11_takesLine 36 = .ok (.iload_n 1, 1) := by decide +kernel
theorem dX11_takesLine_37 : decode cX11_takesLine 37 = .ok (.invokevirtual 134, 3) := by decide +kernel
theorem dX11_takesLine_40 : decode cX11_takesLine 40 = .ok (.ifCond .eq 23, 3) := by decide +kernel
theorem dX11_takesLine_43 : decode cX11_takesLine 43 = .ok (.aload_n 0, 1) := by decide +kernel
theorem dX11_takesLine_44 : decode cX11_takesLine 44 = .ok (.getfield 43, 3) := by decide +kernel
theorem dX11_takesLine_47 : decode cX11_takesLine 47 = .ok (.iload 4, 2) := by decide +kernel
theorem dX11_takesLine_49 : decode cX11_takesLine 49 = .ok (.iaload, 1) := by decide +kernel
theorem dX11_takesLine_50 : decode cX11_takesLine 50 = .ok (.aload_n 0, 1) := by decide +kernel
theorem dX11_takesLine_51 : decode cX11_takesLine 51 = .ok (.iload_n 1, 1) := by decide +kernel
theorem dX11_takesLine_52 : decode cX11_takesLine 52 = .ok (.invokevirtual 162, 3) := by decide +kernel
theorem dX11_takesLine_55 : decode cX11_takesLine 55 = .ok (.iand, 1) := by decide +kernel
theorem dX11_takesLine_56 : decode cX11_takesLine 56 = .ok (.ifCond .ne 7, 3) := by decide +kernel
theorem dX11_takesLine_59 : decode cX11_takesLine 59 = .ok (.iconst 1, 1) := by decide +kernel
theorem dX11_takesLine_60 : decode cX11_takesLine 60 = .ok (.goto 4, 3) := by decide +kernel
theorem dX11_takesLine_63 : decode cX11_takesLine 63 = .ok (.iconst 0, 1) := by decide +kernel
theorem dX11_takesLine_64 : decode cX11_takesLine 64 = .ok (.istore 5, 2) := by decide +kernel
theorem dX11_takesLine_66 : decode cX11_takesLine 66 = .ok (.iload_n 2, 1) := by decide +kernel
theorem dX11_takesLine_67 : decode cX11_takesLine 67 = .ok (.iload 5, 2) := by decide +kernel
theorem dX11_takesLine_69 : decode cX11_takesLine 69 = .ok (.ifCond .eq 10, 3) := by decide +kernel
theorem dX11_takesLine_72 : decode cX11_takesLine 72 = .ok (.iconst 1, 1) := by decide +kernel
theorem dX11_takesLine_73 : decode cX11_takesLine 73 = .ok (.iload 4, 2) := by decide +kernel
theorem dX11_takesLine_75 : decode cX11_takesLine 75 = .ok (.ishl, 1) := by decide +kernel
theorem dX11_takesLine_76 : decode cX11_takesLine 76 = .ok (.goto 4, 3) := by decide +kernel
theorem dX11_takesLine_79 : decode cX11_takesLine 79 = .ok (.iconst 0, 1) := by decide +kernel
theorem dX11_takesLine_80 : decode cX11_takesLine 80 = .ok (.ior, 1) := by decide +kernel
theorem dX11_takesLine_81 : decode cX11_takesLine 81 = .ok (.istore_n 2, 1) := by decide +kernel
theorem dX11_takesLine_82 : decode cX11_takesLine 82 = .ok (.iload_n 3, 1) := by decide +kernel
theorem dX11_takesLine_83 : decode cX11_takesLine 83 = .ok (.iload 5, 2) := by decide +kernel
theorem dX11_takesLine_85 : decode cX11_takesLine 85 = .ok (.ifCond .eq 13, 3) := by decide +kernel
theorem dX11_takesLine_88 : decode cX11_takesLine 88 = .ok (.aload_n 0, 1) := by decide +kernel
theorem dX11_takesLine_89 : decode cX11_takesLine 89 = .ok (.getfield 40, 3) := by decide +kernel
theorem dX11_takesLine_92 : decode cX11_takesLine 92 = .ok (.iload 4, 2) := by decide +kernel
theorem dX11_takesLine_94 : decode cX11_takesLine 94 = .ok (.iaload, 1) := by decide +kernel
theorem dX11_takesLine_95 : decode cX11_takesLine 95 = .ok (.goto 4, 3) := by decide +kernel
theorem dX11_takesLine_98 : decode cX11_takesLine 98 = .ok (.iconst 0, 1) := by decide +kernel
theorem dX11_takesLine_99 : decode cX11_takesLine 99 = .ok (.iadd, 1) := by decide +kernel
theorem dX11_takesLine_100 : decode cX11_takesLine 100 = .ok (.istore_n 3, 1) := by decide +kernel
theorem dX11_takesLine_101 : decode cX11_takesLine 101 = .ok (.iinc 4 1, 3) := by decide +kernel
theorem dX11_takesLine_104 : decode cX11_takesLine 104 = .ok (.goto (-97), 3) := by decide +kernel
theorem dX11_takesLine_107 : decode cX11_takesLine 107 = .ok (.iload_n 2, 1) := by decide +kernel
theorem dX11_takesLine_108 : decode cX11_takesLine 108 = .ok (.invokestatic 141, 3) := by decide +kernel
theorem dX11_takesLine_111 : decode cX11_takesLine 111 = .ok (.aload_n 0, 1) := by decide +kernel
theorem dX11_takesLine_112 : decode cX11_takesLine 112 = .ok (.iload_n 1, 1) := by decide +kernel
theorem dX11_takesLine_113 : decode cX11_takesLine 113 = .ok (.invokevirtual 144, 3) := by decide +kernel
theorem dX11_takesLine_116 : decode cX11_takesLine 116 = .ok (.if_icmp .ne 33, 3) := by decide +kernel
theorem dX11_takesLine_119 : decode cX11_takesLine 119 = .ok (.aload_n 0, 1) := by decide +kernel
theorem dX11_takesLine_120 : decode cX11_takesLine 120 = .ok (.getfield 13, 3) := by decide +kernel
theorem dX11_takesLine_123 : decode cX11_takesLine 123 = .ok (.iconst 4, 1) := by decide +kernel
theorem dX11_takesLine_124 : decode cX11_takesLine 124 = .ok (.iload_n 1, 1) := by decide +kernel
theorem dX11_takesLine_125 : decode cX11_takesLine 125 = .ok (.imul, 1) := by decide +kernel
theorem dX11_takesLine_126 : decode cX11_takesLine 126 = .ok (.iaload, 1) := by decide +kernel
theorem dX11_takesLine_127 : decode cX11_takesLine 127 = .ok (.iconst 4, 1) := by decide +kernel
theorem dX11_takesLine_128 : decode cX11_takesLine 128 = .ok (.if_icmp .ne 17, 3) := by decide +kernel
theorem dX11_takesLine_131 : decode cX11_takesLine 131 = .ok (.iload_n 3, 1) := by decide +kernel
theorem dX11_takesLine_132 : decode cX11_takesLine 132 = .ok (.aload_n 0, 1) := by decide +kernel
theorem dX11_takesLine_133 : decode cX11_takesLine 133 = .ok (.getfield 13, 3) := by decide +kernel
theorem dX11_takesLine_136 : decode cX11_takesLine 136 = .ok (.iconst 4, 1) := by decide +kernel
theorem dX11_takesLine_137 : decode cX11_takesLine 137 = .ok (.iload_n 1, 1) := by decide +kernel
theorem dX11_takesLine_138 : decode cX11_takesLine 138 = .ok (.imul, 1) := by decide +kernel
theorem dX11_takesLine_139 : decode cX11_takesLine 139 = .ok (.iconst 3, 1) := by decide +kernel
theorem dX11_takesLine_140 : decode cX11_takesLine 140 = .ok (.iadd, 1) := by decide +kernel
theorem dX11_takesLine_141 : decode cX11_takesLine 141 = .ok (.iaload, 1) := by decide +kernel
theorem dX11_takesLine_142 : decode cX11_takesLine 142 = .ok (.if_icmp .lt 7, 3) := by decide +kernel
theorem dX11_takesLine_145 : decode cX11_takesLine 145 = .ok (.iconst 1, 1) := by decide +kernel
theorem dX11_takesLine_146 : decode cX11_takesLine 146 = .ok (.goto 4, 3) := by decide +kernel
theorem dX11_takesLine_149 : decode cX11_takesLine 149 = .ok (.iconst 0, 1) := by decide +kernel
theorem dX11_takesLine_150 : decode cX11_takesLine 150 = .ok (.istore 4, 2) := by decide +kernel
theorem dX11_takesLine_152 : decode cX11_takesLine 152 = .ok (.iconst 0, 1) := by decide +kernel
theorem dX11_takesLine_153 : decode cX11_takesLine 153 = .ok (.istore 5, 2) := by decide +kernel
theorem dX11_takesLine_155 : decode cX11_takesLine 155 = .ok (.iload 5, 2) := by decide +kernel
theorem dX11_takesLine_157 : decode cX11_takesLine 157 = .ok (.aload_n 0, 1) := by decide +kernel
theorem dX11_takesLine_158 : decode cX11_takesLine 158 = .ok (.getfield 262, 3) := by decide +kernel
theorem dX11_takesLine_161 : decode cX11_takesLine 161 = .ok (.if_icmp .ge 55, 3) := by decide +kernel
theorem dX11_takesLine_164 : decode cX11_takesLine 164 = .ok (.iload_n 2, 1) := by decide +kernel
theorem dX11_takesLine_165 : decode cX11_takesLine 165 = .ok (.iload 5, 2) := by decide +kernel
theorem dX11_takesLine_167 : decode cX11_takesLine 167 = .ok (.ishr, 1) := by decide +kernel
theorem dX11_takesLine_168 : decode cX11_takesLine 168 = .ok (.iconst 1, 1) := by decide +kernel
theorem dX11_takesLine_169 : decode cX11_takesLine 169 = .ok (.iand, 1) := by decide +kernel
theorem dX11_takesLine_170 : decode cX11_takesLine 170 = .ok (.iconst 1, 1) := by decide +kernel
theorem dX11_takesLine_171 : decode cX11_takesLine 171 = .ok (.if_icmp .ne 39, 3) := by decide +kernel
theorem dX11_takesLine_174 : decode cX11_takesLine 174 = .ok (.aload_n 0, 1) := by decide +kernel
theorem dX11_takesLine_175 : decode cX11_takesLine 175 = .ok (.getfield 43, 3) := by decide +kernel
theorem dX11_takesLine_178 : decode cX11_takesLine 178 = .ok (.iload 5, 2) := by decide +kernel
theorem dX11_takesLine_180 : decode cX11_takesLine 180 = .ok (.dup2, 1) := by decide +kernel
theorem dX11_takesLine_181 : decode cX11_takesLine 181 = .ok (.iaload, 1) := by decide +kernel
theorem dX11_takesLine_182 : decode cX11_takesLine 182 = .ok (.iconst 1, 1) := by decide +kernel
theorem dX11_takesLine_183 : decode cX11_takesLine 183 = .ok (.iload_n 1, 1) := by decide +kernel
theorem dX11_takesLine_184 : decode cX11_takesLine 184 = .ok (.ishl, 1) := by decide +kernel
theorem dX11_takesLine_185 : decode cX11_takesLine 185 = .ok (.ior, 1) := by decide +kernel
theorem dX11_takesLine_186 : decode cX11_takesLine 186 = .ok (.iastore, 1) := by decide +kernel
theorem dX11_takesLine_187 : decode cX11_takesLine 187 = .ok (.aload_n 0, 1) := by decide +kernel
theorem dX11_takesLine_188 : decode cX11_takesLine 188 = .ok (.getfield 46, 3) := by decide +kernel
theorem dX11_takesLine_191 : decode cX11_takesLine 191 = .ok (.iload 5, 2) := by decide +kernel
theorem dX11_takesLine_193 : decode cX11_takesLine 193 = .ok (.iload 4, 2) := by decide +kernel
theorem dX11_takesLine_195 : decode cX11_takesLine 195 = .ok (.ifCond .eq 7, 3) := by decide +kernel
theorem dX11_takesLine_198 : decode cX11_takesLine 198 = .ok (.iconst 1, 1) := by decide +kernel
theorem dX11_takesLine_199 : decode cX11_takesLine 199 = .ok (.goto 10, 3) := by decide +kernel
theorem dX11_takesLine_202 : decode cX11_takesLine 202 = .ok (.aload_n 0, 1) := by decide +kernel
theorem dX11_takesLine_203 : decode cX11_takesLine 203 = .ok (.getfield 46, 3) := by decide +kernel
theorem dX11_takesLine_206 : decode cX11_takesLine 206 = .ok (.iload 5, 2) := by decide +kernel
theorem dX11_takesLine_208 : decode cX11_takesLine 208 = .ok (.iaload, 1) := by decide +kernel
theorem dX11_takesLine_209 : decode cX11_takesLine 209 = .ok (.iastore, 1) := by decide +kernel
theorem dX11_takesLine_210 : decode cX11_takesLine 210 = .ok (.iinc 5 1, 3) := by decide +kernel
theorem dX11_takesLine_213 : decode cX11_takesLine 213 = .ok (.goto (-58), 3) := by decide +kernel
theorem dX11_takesLine_216 : decode cX11_takesLine 216 = .ok (.iload 4, 2) := by decide +kernel
theorem dX11_takesLine_218 : decode cX11_takesLine 218 = .ok (.ireturn, 1) := by decide +kernel
theorem dX11_letLineGo_0 : decode cX11_letLineGo 0 = .ok (.iconst 0, 1) := by decide +kernel
theorem dX11_letLineGo_1 : decode cX11_letLineGo 1 = .ok (.istore_n 1, 1) := by decide +kernel
theorem dX11_letLineGo_2 : decode cX11_letLineGo 2 = .ok (.iload_n 1, 1) := by decide +kernel
theorem dX11_letLineGo_3 : decode cX11_letLineGo 3 = .ok (.aload_n 0, 1) := by decide +kernel
theorem dX11_letLineGo_4 : decode cX11_letLineGo 4 = .ok (.getfield 262, 3) := by decide +kernel
theorem dX11_letLineGo_7 : decode cX11_letLineGo 7 = .ok (.if_icmp .ge 19, 3) := by decide +kernel
theorem dX11_letLineGo_10 : decode cX11_letLineGo 10 = .ok (.aload_n 0, 1) := by decide +kernel
theorem dX11_letLineGo_11 : decode cX11_letLineGo 11 = .ok (.getfield 46, 3) := by decide +kernel
theorem dX11_letLineGo_14 : decode cX11_letLineGo 14 = .ok (.iload_n 1, 1) := by decide +kernel
theorem dX11_letLineGo_15 : decode cX11_letLineGo 15 = .ok (.iaload, 1) := by decide +kernel
theorem dX11_letLineGo_16 : decode cX11_letLineGo 16 = .ok (.iconst 1, 1) := by decide +kernel
theorem dX11_letLineGo_17 : decode cX11_letLineGo 17 = .ok (.if_icmp .ne 9, 3) := by decide +kernel
theorem dX11_letLineGo_20 : decode cX11_letLineGo 20 = .ok (.iinc 1 1, 3) := by decide +kernel
theorem dX11_letLineGo_23 : decode cX11_letLineGo 23 = .ok (.goto (-21), 3) := by decide +kernel
theorem dX11_letLineGo_26 : decode cX11_letLineGo 26 = .ok (.iload_n 1, 1) := by decide +kernel
theorem dX11_letLineGo_27 : decode cX11_letLineGo 27 = .ok (.aload_n 0, 1) := by decide +kernel
theorem dX11_letLineGo_28 : decode cX11_letLineGo 28 = .ok (.getfield 262, 3) := by decide +kernel
theorem dX11_letLineGo_31 : decode cX11_letLineGo 31 = .ok (.if_icmp .ne 5, 3) := by decide +kernel
theorem dX11_letLineGo_34 : decode cX11_letLineGo 34 = .ok (.iconst 0, 1) := by decide +kernel
theorem dX11_letLineGo_35 : decode cX11_letLineGo 35 = .ok (.ireturn, 1) := by decide +kernel
theorem dX11_letLineGo_36 : decode cX11_letLineGo 36 = .ok (.iload_n 1, 1) := by decide +kernel
theorem dX11_letLineGo_37 : decode cX11_letLineGo 37 = .ok (.istore_n 2, 1) := by decide +kernel
theorem dX11_letLineGo_38 : decode cX11_letLineGo 38 = .ok (.iload_n 2, 1) := by decide +kernel
theorem dX11_letLineGo_39 : decode cX11_letLineGo 39 = .ok (.iconst 1, 1) := by decide +kernel
theorem dX11_letLineGo_40 : decode cX11_letLineGo 40 = .ok (.iadd, 1) := by decide +kernel
theorem dX11_letLineGo_41 : decode cX11_letLineGo 41 = .ok (.aload_n 0, 1) := by decide +kernel
theorem dX11_letLineGo_42 : decode cX11_letLineGo 42 = .ok (.getfield 262, 3) := by decide +kernel
theorem dX11_letLineGo_45 : decode cX11_letLineGo 45 = .ok (.if_icmp .ge 23, 3) := by decide +kernel
theorem dX11_letLineGo_48 : decode cX11_letLineGo 48 = .ok (.aload_n 0, 1) := by decide +kernel
theorem dX11_letLineGo_49 : decode cX11_letLineGo 49 = .ok (.getfield 40, 3) := by decide +kernel
theorem dX11_letLineGo_52 : decode cX11_letLineGo 52 = .ok (.iload_n 2, 1) := by decide +kernel
theorem dX11_letLineGo_53 : decode cX11_letLineGo 53 = .ok (.aload_n 0, 1) := by decide +kernel
theorem dX11_letLineGo_54 : decode cX11_letLineGo 54 = .ok (.getfield 40, 3) := by decide +kernel
theorem dX11_letLineGo_57 : decode cX11_letLineGo 57 = .ok (.iload_n 2, 1) := by decide +kernel
theorem dX11_letLineGo_58 : decode cX11_letLineGo 58 = .ok (.iconst 1, 1) := by decide +kernel
theorem dX11_letLineGo_59 : decode cX11_letLineGo 59 = .ok (.iadd, 1) := by decide +kernel
theorem dX11_letLineGo_60 : decode cX11_letLineGo 60 = .ok (.iaload, 1) := by decide +kernel
theorem dX11_letLineGo_61 : decode cX11_letLineGo 61 = .ok (.iastore, 1) := by decide +kernel
theorem dX11_letLineGo_62 : decode cX11_letLineGo 62 = .ok (.iinc 2 1, 3) := by decide +kernel
theorem dX11_letLineGo_65 : decode cX11_letLineGo 65 = .ok (.goto (-27), 3) := by decide +kernel
theorem dX11_letLineGo_68 : decode cX11_letLineGo 68 = .ok (.aload_n 0, 1) := by decide +kernel
theorem dX11_letLineGo_69 : decode cX11_letLineGo 69 = .ok (.dup, 1) := by decide +kernel
theorem dX11_letLineGo_70 : decode cX11_letLineGo 70 = .ok (.getfield 262, 3) := by decide +kernel
theorem dX11_letLineGo_73 : decode cX11_letLineGo 73 = .ok (.iconst 1, 1) := by decide +kernel
theorem dX11_letLineGo_74 : decode cX11_letLineGo 74 = .ok (.isub, 1) := by decide +kernel
theorem dX11_letLineGo_75 : decode cX11_letLineGo 75 = .ok (.putfield 262, 3) := by decide +kernel
theorem dX11_letLineGo_78 : decode cX11_letLineGo 78 = .ok (.iconst 1, 1) := by decide +kernel
theorem dX11_letLineGo_79 : decode cX11_letLineGo 79 = .ok (.ireturn, 1) := by decide +kernel
theorem dX11_tours_0 : decode cX11_tours 0 = .ok (.iload_n 1, 1) := by decide +kernel
theorem dX11_tours_1 : decode cX11_tours 1 = .ok (.i2l, 1) := by decide +kernel
theorem dX11_tours_2 : decode cX11_tours 2 = .ok (.lconst 1, 1) := by decide +kernel
theorem dX11_tours_3 : decode cX11_tours 3 = .ok (.ldc2_w 265, 3) := by decide +kernel
theorem dX11_tours_6 : decode cX11_tours 6 = .ok (.invokestatic 64, 3) := by decide +kernel
theorem dX11_tours_9 : decode cX11_tours 9 = .ok (.ifCond .eq 19, 3) := by decide +kernel
theorem dX11_tours_12 : decode cX11_tours 12 = .ok (.iload_n 2, 1) := by decide +kernel
theorem dX11_tours_13 : decode cX11_tours 13 = .ok (.ifCond .lt 15, 3) := by decide +kernel
theorem dX11_tours_16 : decode cX11_tours 16 = .ok (.iload_n 3, 1) := by decide +kernel
theorem dX11_tours_17 : decode cX11_tours 17 = .ok (.i2l, 1) := by decide +kernel
theorem dX11_tours_18 : decode cX11_tours 18 = .ok (.lconst 0, 1) := by decide +kernel
theorem dX11_tours_19 : decode cX11_tours 19 = .ok (.ldc2_w 267, 3) := by decide +kernel
theorem dX11_tours_22 : decode cX11_tours 22 = .ok (.invokestatic 64, 3) := by decide +kernel
theorem dX11_tours_25 : decode cX11_tours 25 = .ok (.ifCond .ne 6, 3) := by decide +kernel
theorem dX11_tours_28 : decode cX11_tours 28 = .ok (.bipush (-102), 2) := by decide +kernel
theorem dX11_tours_30 : decode cX11_tours 30 = .ok (.ireturn, 1) := by decide +kernel
theorem dX11_tours_31 : decode cX11_tours 31 = .ok (.aload_n 0, 1) := by decide +kernel
theorem dX11_tours_32 : decode cX11_tours 32 = .ok (.invokevirtual 192, 3) := by decide +kernel
theorem dX11_tours_35 : decode cX11_tours 35 = .ok (.ifCond .eq 6, 3) := by decide +kernel
theorem dX11_tours_38 : decode cX11_tours 38 = .ok (.bipush (-103), 2) := by decide +kernel
theorem dX11_tours_40 : decode cX11_tours 40 = .ok (.ireturn, 1) := by decide +kernel
theorem dX11_tours_41 : decode cX11_tours 41 = .ok (.aload_n 0, 1) := by decide +kernel
theorem dX11_tours_42 : decode cX11_tours 42 = .ok (.iload_n 2, 1) := by decide +kernel
theorem dX11_tours_43 : decode cX11_tours 43 = .ok (.putfield 254, 3) := by decide +kernel
theorem dX11_tours_46 : decode cX11_tours 46 = .ok (.aload_n 0, 1) := by decide +kernel
theorem dX11_tours_47 : decode cX11_tours 47 = .ok (.iconst 0, 1) := by decide +kernel
theorem dX11_tours_48 : decode cX11_tours 48 = .ok (.putfield 262, 3) := by decide +kernel
theorem dX11_tours_51 : decode cX11_tours 51 = .ok (.iconst 0, 1) := by decide +kernel
theorem dX11_tours_52 : decode cX11_tours 52 = .ok (.istore 4, 2) := by decide +kernel
theorem dX11_tours_54 : decode cX11_tours 54 = .ok (.iconst 0, 1) := by decide +kernel
theorem dX11_tours_55 : decode cX11_tours 55 = .ok (.istore 5, 2) := by decide +kernel
theorem dX11_tours_57 : decode cX11_tours 57 = .ok (.iconst 0, 1) := by decide +kernel
theorem dX11_tours_58 : decode cX11_tours 58 = .ok (.istore 6, 2) := by decide +kernel
theorem dX11_tours_60 : decode cX11_tours 60 = .ok (.iload 6, 2) := by decide +kernel
theorem dX11_tours_62 : decode cX11_tours 62 = .ok (.iload_n 1, 1) := by decide +kernel
theorem dX11_tours_63 : decode cX11_tours 63 = .ok (.if_icmp .ge 123, 3) := by decide +kernel
theorem dX11_tours_66 : decode cX11_tours 66 = .ok (.aload_n 0, 1) := by decide +kernel
theorem dX11_tours_67 : decode cX11_tours 67 = .ok (.bipush 10, 2) := by decide +kernel
theorem dX11_tours_69 : decode cX11_tours 69 = .ok (.invokevirtual 269, 3) := by decide +kernel
theorem dX11_tours_72 : decode cX11_tours 72 = .ok (.istore 7, 2) := by decide +kernel
theorem dX11_tours_74 : decode cX11_tours 74 = .ok (.aload_n 0, 1) := by decide +kernel
theorem dX11_tours_75 : decode cX11_tours 75 = .ok (.getfield 262, 3) := by decide +kernel
theorem dX11_tours_78 : decode cX11_tours 78 = .ok (.iconst 5, 1) := by decide +kernel
theorem dX11_tours_79 : decode cX11_tours 79 = .ok (.if_icmp .ge 24, 3) := by decide +kernel
theorem dX11_tours_82 : decode cX11_tours 82 = .ok (.aload_n 0, 1) := by decide +kernel
theorem dX11_tours_83 : decode cX11_tours 83 = .ok (.getfield 40, 3) := by decide +kernel
theorem dX11_tours_86 : decode cX11_tours 86 = .ok (.aload_n 0, 1) := by decide +kernel
theorem dX11_tours_87 : decode cX11_tours 87 = .ok (.getfield 262, 3) := by decide +kernel
theorem dX11_tours_90 : decode cX11_tours 90 = .ok (.iload 7, 2) := by decide +kernel
theorem dX11_tours_92 : decode cX11_tours 92 = .ok (.iastore, 1) := by decide +kernel
theorem dX11_tours_93 : decode cX11_tours 93 = .ok (.aload_n 0, 1) := by decide +kernel
theorem dX11_tours_94 : decode cX11_tours 94 = .ok (.dup, 1) := by decide +kernel
theorem dX11_tours_95 : decode cX11_tours 95 = .ok (.getfield 262, 3) := by decide +kernel
theorem dX11_tours_98 : decode cX11_tours 98 = .ok (.iconst 1, 1) := by decide +kernel
theorem dX11_tours_99 : decode cX11_tours 99 = .ok (.iadd, 1) := by decide +kernel
theorem dX11_tours_100 : decode cX11_tours 100 = .ok (.putfield 262, 3) := by decide +kernel
theorem dX11_tours_103 : decode cX11_tours 103 = .ok (.iconst 0, 1) := by decide +kernel
theorem dX11_tours_104 : decode cX11_tours 104 = .ok (.istore 8, 2) := by decide +kernel
theorem dX11_tours_106 : decode cX11_tours 106 = .ok (.iload 8, 2) := by decide +kernel
theorem dX11_tours_108 : decode cX11_tours 108 = .ok (.iconst 5, 1) := by decide +kernel
theorem dX11_tours_109 : decode cX11_tours 109 = .ok (.if_icmp .ge 25, 3) := by decide +kernel
theorem dX11_tours_112 : decode cX11_tours 112 = .ok (.aload_n 0, 1) := by decide +kernel
theorem dX11_tours_113 : decode cX11_tours 113 = .ok (.getfield 43, 3) := by decide +kernel
theorem dX11_tours_116 : decode cX11_tours 116 = .ok (.iload 8, 2) := by decide +kernel
theorem dX11_tours_118 : decode cX11_tours 118 = .ok (.iconst 0, 1) := by decide +kernel
theorem dX11_tours_119 : decode cX11_tours 119 = .ok (.iastore, 1) := by decide +kernel
theorem dX11_tours_120 : decode cX11_tours 120 = .ok (.aload_n 0, 1) := by decide +kernel
theorem dX11_tours_121 : decode cX11_tours 121 = .ok (.getfield 46, 3) := by decide +kernel
theorem dX11_tours_124 : decode cX11_tours 124 = .ok (.iload 8, 2) := by decide +kernel
theorem dX11_tours_126 : decode cX11_tours 126 = .ok (.iconst 0, 1) := by decide +kernel
theorem dX11_tours_127 : decode cX11_tours 127 = .ok (.iastore, 1) := by decide +kernel
theorem dX11_tours_128 : decode cX11_tours 128 = .ok (.iinc 8 1, 3) := by decide +kernel
theorem dX11_tours_131 : decode cX11_tours 131 = .ok (.goto (-25), 3) := by decide +kernel
theorem dX11_tours_134 : decode cX11_tours 134 = .ok (.iconst 0, 1) := by decide +kernel
theorem dX11_tours_135 : decode cX11_tours 135 = .ok (.istore 8, 2) := by decide +kernel
theorem dX11_tours_137 : decode cX11_tours 137 = .ok (.iload 8, 2) := by decide +kernel
theorem dX11_tours_139 : decode cX11_tours 139 = .ok (.aload_n 0, 1) := by decide +kernel
theorem dX11_tours_140 : decode cX11_tours 140 = .ok (.getfield 101, 3) := by decide +kernel
theorem dX11_tours_143 : decode cX11_tours 143 = .ok (.if_icmp .ge 28, 3) := by decide +kernel
theorem dX11_tours_146 : decode cX11_tours 146 = .ok (.iload 4, 2) := by decide +kernel
theorem dX11_tours_148 : decode cX11_tours 148 = .ok (.aload_n 0, 1) := by decide +kernel
theorem dX11_tours_149 : decode cX11_tours 149 = .ok (.iload 8, 2) := by decide +kernel
theorem dX11_tours_151 : decode cX11_tours 151 = .ok (.invokevirtual 272, 3) := by decide +kernel
theorem dX11_tours_154 : decode cX11_tours 154 = .ok (.ifCond .eq 7, 3) := by decide +kernel
theorem dX11_tours_157 : decode cX11_tours 157 = .ok (.iconst 1, 1) := by decide +kernel
theorem dX11_tours_158 : decode cX11_tours 158 = .ok (.goto 4, 3) := by decide +kernel
theorem dX11_tours_161 : decode cX11_tours 161 = .ok (.iconst 0, 1) := by decide +kernel
theorem dX11_tours_162 : decode cX11_tours 162 = .ok (.iadd, 1) := by decide +kernel
theorem dX11_tours_163 : decode cX11_tours 163 = .ok (.istore 4, 2) := by decide +kernel
theorem dX11_tours_165 : decode cX11_tours 165 = .ok (.iinc 8 1, 3) := by decide +kernel
theorem dX11_tours_168 : decode cX11_tours 168 = .ok (.goto (-31), 3) := by decide +kernel
theorem dX11_tours_171 : decode cX11_tours 171 = .ok (.iload 5, 2) := by decide +kernel
theorem dX11_tours_173 : decode cX11_tours 173 = .ok (.aload_n 0, 1) := by decide +kernel
theorem dX11_tours_174 : decode cX11_tours 174 = .ok (.invokevirtual 275, 3) := by decide +kernel
theorem dX11_tours_177 : decode cX11_tours 177 = .ok (.iadd, 1) := by decide +kernel
theorem dX11_tours_178 : decode cX11_tours 178 = .ok (.istore 5, 2) := by decide +kernel
theorem dX11_tours_180 : decode cX11_tours 180 = .ok (.iinc 6 1, 3) := by decide +kernel
theorem dX11_tours_183 : decode cX11_tours 183 = .ok (.goto (-123), 3) := by decide +kernel
theorem dX11_tours_186 : decode cX11_tours 186 = .ok (.iload_n 3, 1) := by decide +kernel
theorem dX11_tours_187 : decode cX11_tours 187 = .ok (.ifCond .ne 8, 3) := by decide +kernel
theorem dX11_tours_190 : decode cX11_tours 190 = .ok (.iload 4, 2) := by decide +kernel
theorem dX11_tours_192 : decode cX11_tours 192 = .ok (.goto 17, 3) := by decide +kernel
theorem dX11_tours_195 : decode cX11_tours 195 = .ok (.iload_n 3, 1) := by decide +kernel
theorem dX11_tours_196 : decode cX11_tours 196 = .ok (.iconst 1, 1) := by decide +kernel
theorem dX11_tours_197 : decode cX11_tours 197 = .ok (.if_icmp .ne 8, 3) := by decide +kernel
theorem dX11_tours_200 : decode cX11_tours 200 = .ok (.iload 5, 2) := by decide +kernel
theorem dX11_tours_202 : decode cX11_tours 202 = .ok (.goto 7, 3) := by decide +kernel
theorem dX11_tours_205 : decode cX11_tours 205 = .ok (.aload_n 0, 1) := by decide +kernel
theorem dX11_tours_206 : decode cX11_tours 206 = .ok (.getfield 254, 3) := by decide +kernel
theorem dX11_tours_209 : decode cX11_tours 209 = .ok (.ireturn, 1) := by decide +kernel
theorem dX11_image_0 : decode cX11_image 0 = .ok (.aload_n 0, 1) := by decide +kernel
theorem dX11_image_1 : decode cX11_image 1 = .ok (.invokevirtual 192, 3) := by decide +kernel
theorem dX11_image_4 : decode cX11_image 4 = .ok (.ifCond .eq 6, 3) := by decide +kernel
theorem dX11_image_7 : decode cX11_image 7 = .ok (.bipush (-103), 2) := by decide +kernel
theorem dX11_image_9 : decode cX11_image 9 = .ok (.ireturn, 1) := by decide +kernel
theorem dX11_image_10 : decode cX11_image 10 = .ok (.aload_n 0, 1) := by decide +kernel
theorem dX11_image_11 : decode cX11_image 11 = .ok (.getfield 16, 3) := by decide +kernel
theorem dX11_image_14 : decode cX11_image 14 = .ok (.aload_n 0, 1) := by decide +kernel
theorem dX11_image_15 : decode cX11_image 15 = .ok (.getfield 49, 3) := by decide +kernel
theorem dX11_image_18 : decode cX11_image 18 = .ok (.invokestatic 208, 3) := by decide +kernel
theorem dX11_image_21 : decode cX11_image 21 = .ok (.aload_n 0, 1) := by decide +kernel
theorem dX11_image_22 : decode cX11_image 22 = .ok (.getfield 19, 3) := by decide +kernel
theorem dX11_image_25 : decode cX11_image 25 = .ok (.aload_n 0, 1) := by decide +kernel
theorem dX11_image_26 : decode cX11_image 26 = .ok (.getfield 52, 3) := by decide +kernel
theorem dX11_image_29 : decode cX11_image 29 = .ok (.invokestatic 208, 3) := by decide +kernel
theorem dX11_image_32 : decode cX11_image 32 = .ok (.aload_n 0, 1) := by decide +kernel
theorem dX11_image_33 : decode cX11_image 33 = .ok (.getfield 37, 3) := by decide +kernel
theorem dX11_image_36 : decode cX11_image 36 = .ok (.aload_n 0, 1) := by decide +kernel
theorem dX11_image_37 : decode cX11_image 37 = .ok (.getfield 55, 3) := by decide +kernel
theorem dX11_image_40 : decode cX11_image 40 = .ok (.invokestatic 208, 3) := by decide +kernel
theorem dX11_image_43 : decode cX11_image 43 = .ok (.aload_n 0, 1) := by decide +kernel
theorem dX11_image_44 : decode cX11_image 44 = .ok (.aload_n 0, 1) := by decide +kernel
theorem dX11_image_45 : decode cX11_image 45 = .ok (.getfield 107, 3) := by decide +kernel
theorem dX11_image_48 : decode cX11_image 48 = .ok (.putfield 278, 3) := by decide +kernel
theorem dX11_image_51 : decode cX11_image 51 = .ok (.aload_n 0, 1) := by decide +kernel
theorem dX11_image_52 : decode cX11_image 52 = .ok (.aload_n 0, 1) := by decide +kernel
theorem dX11_image_53 : decode cX11_image 53 = .ok (.getfield 110, 3) := by decide +kernel
theorem dX11_image_56 : decode cX11_image 56 = .ok (.putfield 281, 3) := by decide +kernel
theorem dX11_image_59 : decode cX11_image 59 = .ok (.aload_n 0, 1) := by decide +kernel
theorem dX11_image_60 : decode cX11_image 60 = .ok (.aload_n 0, 1) := by decide +kernel
theorem dX11_image_61 : decode cX11_image 61 = .ok (.getfield 113, 3) := by decide +kernel
theorem dX11_image_64 : decode cX11_image 64 = .ok (.putfield 284, 3) := by decide +kernel
theorem dX11_image_67 : decode cX11_image 67 = .ok (.aload_n 0, 1) := by decide +kernel
theorem dX11_image_68 : decode cX11_image 68 = .ok (.aload_n 0, 1) := by decide +kernel
theorem dX11_image_69 : decode cX11_image 69 = .ok (.getfield 116, 3) := by decide +kernel
theorem dX11_image_72 : decode cX11_image 72 = .ok (.putfield 287, 3) := by decide +kernel
theorem dX11_image_75 : decode cX11_image 75 = .ok (.aload_n 0, 1) := by decide +kernel
theorem dX11_image_76 : decode cX11_image 76 = .ok (.aload_n 0, 1) := by decide +kernel
theorem dX11_image_77 : decode cX11_image 77 = .ok (.getfield 119, 3) := by decide +kernel
theorem dX11_image_80 : decode cX11_image 80 = .ok (.putfield 290, 3) := by decide +kernel
theorem dX11_image_83 : decode cX11_image 83 = .ok (.aload_n 0, 1) := by decide +kernel
theorem dX11_image_84 : decode cX11_image 84 = .ok (.aload_n 0, 1) := by decide +kernel
theorem dX11_image_85 : decode cX11_image 85 = .ok (.getfield 122, 3) := by decide +kernel
theorem dX11_image_88 : decode cX11_image 88 = .ok (.putfield 293, 3) := by decide +kernel
theorem dX11_image_91 : decode cX11_image 91 = .ok (.aload_n 0, 1) := by decide +kernel
theorem dX11_image_92 : decode cX11_image 92 = .ok (.aload_n 0, 1) := by decide +kernel
theorem dX11_image_93 : decode cX11_image 93 = .ok (.getfield 125, 3) := by decide +kernel
theorem dX11_image_96 : decode cX11_image 96 = .ok (.putfield 296, 3) := by decide +kernel
theorem dX11_image_99 : decode cX11_image 99 = .ok (.aload_n 0, 1) := by decide +kernel
theorem dX11_image_100 : decode cX11_image 100 = .ok (.aload_n 0, 1) := by decide +kernel
theorem dX11_image_101 : decode cX11_image 101 = .ok (.getfield 128, 3) := by decide +kernel
theorem dX11_image_104 : decode cX11_image 104 = .ok (.putfield 58, 3) := by decide +kernel
theorem dX11_image_107 : decode cX11_image 107 = .ok (.aload_n 0, 1) := by decide +kernel
theorem dX11_image_108 : decode cX11_image 108 = .ok (.getfield 110, 3) := by decide +kernel
theorem dX11_image_111 : decode cX11_image 111 = .ok (.ireturn, 1) := by decide +kernel
theorem dX11_restore_0 : decode cX11_restore 0 = .ok (.aload_n 0, 1) := by decide +kernel
theorem dX11_restore_1 : decode cX11_restore 1 = .ok (.getfield 58, 3) := by decide +kernel
theorem dX11_restore_4 : decode cX11_restore 4 = .ok (.aload_n 0, 1) := by decide +kernel
theorem dX11_restore_5 : decode cX11_restore 5 = .ok (.getfield 128, 3) := by decide +kernel
theorem dX11_restore_8 : decode cX11_restore 8 = .ok (.if_icmp .eq 6, 3) := by decide +kernel
theorem dX11_restore_11 : decode cX11_restore 11 = .ok (.bipush (-103), 2) := by decide +kernel
theorem dX11_restore_13 : decode cX11_restore 13 = .ok (.ireturn, 1) := by decide +kernel
theorem dX11_restore_14 : decode cX11_restore 14 = .ok (.aload_n 0, 1) := by decide +kernel
theorem dX11_restore_15 : decode cX11_restore 15 = .ok (.getfield 49, 3) := by decide +kernel
theorem dX11_restore_18 : decode cX11_restore 18 = .ok (.aload_n 0, 1) := by decide +kernel
theorem dX11_restore_19 : decode cX11_restore 19 = .ok (.getfield 16, 3) := by decide +kernel
theorem dX11_restore_22 : decode cX11_restore 22 = .ok (.invokestatic 208, 3) := by decide +kernel
theorem dX11_restore_25 : decode cX11_restore 25 = .ok (.aload_n 0, 1) := by decide +kernel
theorem dX11_restore_26 : decode cX11_restore 26 = .ok (.getfield 52, 3) := by decide +kernel
theorem dX11_restore_29 : decode cX11_restore 29 = .ok (.aload_n 0, 1) := by decide +kernel
theorem dX11_restore_30 : decode cX11_restore 30 = .ok (.getfield 19, 3) := by decide +kernel
theorem dX11_restore_33 : decode cX11_restore 33 = .ok (.invokestatic 208, 3) := by decide +kernel
theorem dX11_restore_36 : decode cX11_restore 36 = .ok (.aload_n 0, 1) := by decide +kernel
theorem dX11_restore_37 : decode cX11_restore 37 = .ok (.getfield 55, 3) := by decide +kernel
theorem dX11_restore_40 : decode cX11_restore 40 = .ok (.aload_n 0, 1) := by decide +kernel
theorem dX11_restore_41 : decode cX11_restore 41 = .ok (.getfield 37, 3) := by decide +kernel
theorem dX11_restore_44 : decode cX11_restore 44 = .ok (.invokestatic 208, 3) := by decide +kernel
theorem dX11_restore_47 : decode cX11_restore 47 = .ok (.aload_n 0, 1) := by decide +kernel
theorem dX11_restore_48 : decode cX11_restore 48 = .ok (.aload_n 0, 1) := by decide +kernel
theorem dX11_restore_49 : decode cX11_restore 49 = .ok (.getfield 278, 3) := by decide +kernel
theorem dX11_restore_52 : decode cX11_restore 52 = .ok (.putfield 107, 3) := by decide +kernel
theorem dX11_restore_55 : decode cX11_restore 55 = .ok (.aload_n 0, 1) := by decide +kernel
theorem dX11_restore_56 : decode cX11_restore 56 = .ok (.aload_n 0, 1) := by decide +kernel
theorem dX11_restore_57 : decode cX11_restore 57 = .ok (.getfield 281, 3) := by decide +kernel
theorem dX11_restore_60 : decode cX11_restore 60 = .ok (.putfield 110, 3) := by decide +kernel
theorem dX11_restore_63 : decode cX11_restore 63 = .ok (.aload_n 0, 1) := by decide +kernel
theorem dX11_restore_64 : decode cX11_restore 64 = .ok (.aload_n 0, 1) := by decide +kernel
theorem dX11_restore_65 : decode cX11_restore 65 = .ok (.getfield 284, 3) := by decide +kernel
theorem dX11_restore_68 : decode cX11_restore 68 = .ok (.putfield 113, 3) := by decide +kernel
theorem dX11_restore_71 : decode cX11_restore 71 = .ok (.aload_n 0, 1) := by decide +kernel
theorem dX11_restore_72 : decode cX11_restore 72 = .ok (.aload_n 0, 1) := by decide +kernel
theorem dX11_restore_73 : decode cX11_restore 73 = .ok (.getfield 287, 3) := by decide +kernel
theorem dX11_restore_76 : decode cX11_restore 76 = .ok (.putfield 116, 3) := by decide +kernel
theorem dX11_restore_79 : decode cX11_restore 79 = .ok (.aload_n 0, 1) := by decide +kernel
theorem dX11_restore_80 : decode cX11_restore 80 = .ok (.aload_n 0, 1) := by decide +kernel
theorem dX11_restore_81 : decode cX11_restore 81 = .ok (.getfield 290, 3) := by decide +kernel
theorem dX11_restore_84 : decode cX11_restore 84 = .ok (.putfield 119, 3) := by decide +kernel
theorem dX11_restore_87 : decode cX11_restore 87 = .ok (.aload_n 0, 1) := by decide +kernel
theorem dX11_restore_88 : decode cX11_restore 88 = .ok (.aload_n 0, 1) := by decide +kernel
theorem dX11_restore_89 : decode cX11_restore 89 = .ok (.getfield 293, 3) := by decide +kernel
theorem dX11_restore_92 : decode cX11_restore 92 = .ok (.putfield 122, 3) := by decide +kernel
theorem dX11_restore_95 : decode cX11_restore 95 = .ok (.aload_n 0, 1) := by decide +kernel
theorem dX11_restore_96 : decode cX11_restore 96 = .ok (.aload_n 0, 1) := by decide +kernel
theorem dX11_restore_97 : decode cX11_restore 97 = .ok (.getfield 296, 3) := by decide +kernel
theorem dX11_restore_100 : decode cX11_restore 100 = .ok (.putfield 125, 3) := by decide +kernel
theorem dX11_restore_103 : decode cX11_restore 103 = .ok (.aload_n 0, 1) := by decide +kernel
theorem dX11_restore_104 : decode cX11_restore 104 = .ok (.getfield 110, 3) := by decide +kernel
theorem dX11_restore_107 : decode cX11_restore 107 = .ok (.ireturn, 1) := by decide +kernel
theorem dX11_countOf_0 : decode cX11_countOf 0 = .ok (.iload_n 1, 1) := by decide +kernel
theorem dX11_countOf_1 : decode cX11_countOf 1 = .ok (.tableswitch 99 0 8 #[51, 56, 61, 69, 74, 79, 84, 89, 94], 51) := by decide +kernel
theorem dX11_countOf_52 : decode cX11_countOf 52 = .ok (.aload_n 0, 1) := by decide +kernel
theorem dX11_countOf_53 : decode cX11_countOf 53 = .ok (.getfield 101, 3) := by decide +kernel
theorem dX11_countOf_56 : decode cX11_countOf 56 = .ok (.ireturn, 1) := by decide +kernel
theorem dX11_countOf_57 : decode cX11_countOf 57 = .ok (.aload_n 0, 1) := by decide +kernel
theorem dX11_countOf_58 : decode cX11_countOf 58 = .ok (.getfield 104, 3) := by decide +kernel
theorem dX11_countOf_61 : decode cX11_countOf 61 = .ok (.ireturn, 1) := by decide +kernel
theorem dX11_countOf_62 : decode cX11_countOf 62 = .ok (.aload_n 0, 1) := by decide +kernel
theorem dX11_countOf_63 : decode cX11_countOf 63 = .ok (.invokevirtual 199, 3) := by decide +kernel
theorem dX11_countOf_66 : decode cX11_countOf 66 = .ok (.invokestatic 141, 3) := by decide +kernel
theorem dX11_countOf_69 : decode cX11_countOf 69 = .ok (.ireturn, 1) := by decide +kernel
theorem dX11_countOf_70 : decode cX11_countOf 70 = .ok (.aload_n 0, 1) := by decide +kernel
theorem dX11_countOf_71 : decode cX11_countOf 71 = .ok (.invokevirtual 196, 3) := by decide +kernel
theorem dX11_countOf_74 : decode cX11_countOf 74 = .ok (.ireturn, 1) := by decide +kernel
theorem dX11_countOf_75 : decode cX11_countOf 75 = .ok (.aload_n 0, 1) := by decide +kernel
theorem dX11_countOf_76 : decode cX11_countOf 76 = .ok (.invokevirtual 299, 3) := by decide +kernel
theorem dX11_countOf_79 : decode cX11_countOf 79 = .ok (.ireturn, 1) := by decide +kernel
theorem dX11_countOf_80 : decode cX11_countOf 80 = .ok (.aload_n 0, 1) := by decide +kernel
theorem dX11_countOf_81 : decode cX11_countOf 81 = .ok (.getfield 110, 3) := by decide +kernel
theorem dX11_countOf_84 : decode cX11_countOf 84 = .ok (.ireturn, 1) := by decide +kernel
theorem dX11_countOf_85 : decode cX11_countOf 85 = .ok (.aload_n 0, 1) := by decide +kernel
theorem dX11_countOf_86 : decode cX11_countOf 86 = .ok (.getfield 113, 3) := by decide +kernel
theorem dX11_countOf_89 : decode cX11_countOf 89 = .ok (.ireturn, 1) := by decide +kernel
theorem dX11_countOf_90 : decode cX11_countOf 90 = .ok (.aload_n 0, 1) := by decide +kernel
theorem dX11_countOf_91 : decode cX11_countOf 91 = .ok (.getfield 116, 3) := by decide +kernel
theorem dX11_countOf_94 : decode cX11_countOf 94 = .ok (.ireturn, 1) := by decide +kernel
theorem dX11_countOf_95 : decode cX11_countOf 95 = .ok (.aload_n 0, 1) := by decide +kernel
theorem dX11_countOf_96 : decode cX11_countOf 96 = .ok (.getfield 107, 3) := by decide +kernel
theorem dX11_countOf_99 : decode cX11_countOf 99 = .ok (.ireturn, 1) := by decide +kernel
theorem dX11_countOf_100 : decode cX11_countOf 100 = .ok (.aload_n 0, 1) := by decide +kernel
theorem dX11_countOf_101 : decode cX11_countOf 101 = .ok (.iload_n 1, 1) := by decide +kernel
theorem dX11_countOf_102 : decode cX11_countOf 102 = .ok (.invokevirtual 302, 3) := by decide +kernel
theorem dX11_countOf_105 : decode cX11_countOf 105 = .ok (.ireturn, 1) := by decide +kernel
theorem dX11_countMore_0 : decode cX11_countMore 0 = .ok (.iload_n 1, 1) := by decide +kernel
theorem dX11_countMore_1 : decode cX11_countMore 1 = .ok (.tableswitch 87 9 16 #[47, 52, 57, 62, 67, 72, 77, 82], 47) := by decide +kernel
theorem dX11_countMore_48 : decode cX11_countMore 48 = .ok (.aload_n 0, 1) := by decide +kernel
theorem dX11_countMore_49 : decode cX11_countMore 49 = .ok (.getfield 119, 3) := by decide +kernel
theorem dX11_countMore_52 : decode cX11_countMore 52 = .ok (.ireturn, 1) := by decide +kernel
theorem dX11_countMore_53 : decode cX11_countMore 53 = .ok (.aload_n 0, 1) := by decide +kernel
theorem dX11_countMore_54 : decode cX11_countMore 54 = .ok (.getfield 122, 3) := by decide +kernel
theorem dX11_countMore_57 : decode cX11_countMore 57 = .ok (.ireturn, 1) := by decide +kernel
theorem dX11_countMore_58 : decode cX11_countMore 58 = .ok (.aload_n 0, 1) := by decide +kernel
theorem dX11_countMore_59 : decode cX11_countMore 59 = .ok (.getfield 125, 3) := by decide +kernel
theorem dX11_countMore_62 : decode cX11_countMore 62 = .ok (.ireturn, 1) := by decide +kernel
theorem dX11_countMore_63 : decode cX11_countMore 63 = .ok (.aload_n 0, 1) := by decide +kernel
theorem dX11_countMore_64 : decode cX11_countMore 64 = .ok (.getfield 68, 3) := by decide +kernel
theorem dX11_countMore_67 : decode cX11_countMore 67 = .ok (.ireturn, 1) := by decide +kernel
theorem dX11_countMore_68 : decode cX11_countMore 68 = .ok (.aload_n 0, 1) := by decide +kernel
theorem dX11_countMore_69 : decode cX11_countMore 69 = .ok (.getfield 128, 3) := by decide +kernel
theorem dX11_countMore_72 : decode cX11_countMore 72 = .ok (.ireturn, 1) := by decide +kernel
theorem dX11_countMore_73 : decode cX11_countMore 73 = .ok (.aload_n 0, 1) := by decide +kernel
theorem dX11_countMore_74 : decode cX11_countMore 74 = .ok (.getfield 222, 3) := by decide +kernel
theorem dX11_countMore_77 : decode cX11_countMore 77 = .ok (.ireturn, 1) := by decide +kernel
theorem dX11_countMore_78 : decode cX11_countMore 78 = .ok (.aload_n 0, 1) := by decide +kernel
theorem dX11_countMore_79 : decode cX11_countMore 79 = .ok (.getfield 228, 3) := by decide +kernel
theorem dX11_countMore_82 : decode cX11_countMore 82 = .ok (.ireturn, 1) := by decide +kernel
theorem dX11_countMore_83 : decode cX11_countMore 83 = .ok (.aload_n 0, 1) := by decide +kernel
theorem dX11_countMore_84 : decode cX11_countMore 84 = .ok (.getfield 234, 3) := by decide +kernel
theorem dX11_countMore_87 : decode cX11_countMore 87 = .ok (.ireturn, 1) := by decide +kernel
theorem dX11_countMore_88 : decode cX11_countMore 88 = .ok (.bipush (-102), 2) := by decide +kernel
theorem dX11_countMore_90 : decode cX11_countMore 90 = .ok (.ireturn, 1) := by decide +kernel
theorem dX11_count_0 : decode cX11_count 0 = .ok (.aload_n 0, 1) := by decide +kernel
theorem dX11_count_1 : decode cX11_count 1 = .ok (.iload_n 1, 1) := by decide +kernel
theorem dX11_count_2 : decode cX11_count 2 = .ok (.invokevirtual 305, 3) := by decide +kernel
theorem dX11_count_5 : decode cX11_count 5 = .ok (.ireturn, 1) := by decide +kernel
theorem dX11_say_0 : decode cX11_say 0 = .ok (.aload_n 0, 1) := by decide +kernel
theorem dX11_say_1 : decode cX11_say 1 = .ok (.ldc2_w 308, 3) := by decide +kernel
theorem dX11_say_4 : decode cX11_say 4 = .ok (.aload_n 0, 1) := by decide +kernel
theorem dX11_say_5 : decode cX11_say 5 = .ok (.getfield 310, 3) := by decide +kernel
theorem dX11_say_8 : decode cX11_say 8 = .ok (.lmul, 1) := by decide +kernel
theorem dX11_say_9 : decode cX11_say 9 = .ok (.lload_n 1, 1) := by decide +kernel
theorem dX11_say_10 : decode cX11_say 10 = .ok (.ladd, 1) := by decide +kernel
theorem dX11_say_11 : decode cX11_say 11 = .ok (.putfield 310, 3) := by decide +kernel
theorem dX11_say_14 : decode cX11_say 14 = .ok (.return_, 1) := by decide +kernel
theorem dX11_digest_0 : decode cX11_digest 0 = .ok (.aload_n 0, 1) := by decide +kernel
theorem dX11_digest_1 : decode cX11_digest 1 = .ok (.ldc2_w 314, 3) := by decide +kernel
theorem dX11_digest_4 : decode cX11_digest 4 = .ok (.putfield 310, 3) := by decide +kernel
theorem dX11_digest_7 : decode cX11_digest 7 = .ok (.iconst 0, 1) := by decide +kernel
theorem dX11_digest_8 : decode cX11_digest 8 = .ok (.istore_n 1, 1) := by decide +kernel
theorem dX11_digest_9 : decode cX11_digest 9 = .ok (.iload_n 1, 1) := by decide +kernel
theorem dX11_digest_10 : decode cX11_digest 10 = .ok (.aload_n 0, 1) := by decide +kernel
theorem dX11_digest_11 : decode cX11_digest 11 = .ok (.getfield 101, 3) := by decide +kernel
theorem dX11_digest_14 : decode cX11_digest 14 = .ok (.if_icmp .ge 34, 3) := by decide +kernel
theorem dX11_digest_17 : decode cX11_digest 17 = .ok (.iconst 0, 1) := by decide +kernel
theorem dX11_digest_18 : decode cX11_digest 18 = .ok (.istore_n 2, 1) := by decide +kernel
theorem dX11_digest_19 : decode cX11_digest 19 = .ok (.iload_n 2, 1) := by decide +kernel
theorem dX11_digest_20 : decode cX11_digest 20 = .ok (.bipush 9, 2) := by decide +kernel
theorem dX11_digest_22 : decode cX11_digest 22 = .ok (.if_icmp .ge 20, 3) := by decide +kernel
theorem dX11_digest_25 : decode cX11_digest 25 = .ok (.aload_n 0, 1) := by decide +kernel
theorem dX11_digest_26 : decode cX11_digest 26 = .ok (.aload_n 0, 1) := by decide +kernel
theorem dX11_digest_27 : decode cX11_digest 27 = .ok (.iload_n 1, 1) := by decide +kernel
theorem dX11_digest_28 : decode cX11_digest 28 = .ok (.iload_n 2, 1) := by decide +kernel
theorem dX11_digest_29 : decode cX11_digest 29 = .ok (.invokevirtual 168, 3) := by decide +kernel
theorem dX11_digest_32 : decode cX11_digest 32 = .ok (.i2l, 1) := by decide +kernel
theorem dX11_digest_33 : decode cX11_digest 33 = .ok (.invokevirtual 316, 3) := by decide +kernel
theorem dX11_digest_36 : decode cX11_digest 36 = .ok (.iinc 2 1, 3) := by decide +kernel
theorem dX11_digest_39 : decode cX11_digest 39 = .ok (.goto (-20), 3) := by decide +kernel
theorem dX11_digest_42 : decode cX11_digest 42 = .ok (.iinc 1 1, 3) := by decide +kernel
theorem dX11_digest_45 : decode cX11_digest 45 = .ok (.goto (-36), 3) := by decide +kernel
theorem dX11_digest_48 : decode cX11_digest 48 = .ok (.iconst 0, 1) := by decide +kernel
theorem dX11_digest_49 : decode cX11_digest 49 = .ok (.istore_n 1, 1) := by decide +kernel
theorem dX11_digest_50 : decode cX11_digest 50 = .ok (.iload_n 1, 1) := by decide +kernel
theorem dX11_digest_51 : decode cX11_digest 51 = .ok (.aload_n 0, 1) := by decide +kernel
theorem dX11_digest_52 : decode cX11_digest 52 = .ok (.getfield 104, 3) := by decide +kernel
theorem dX11_digest_55 : decode cX11_digest 55 = .ok (.if_icmp .ge 34, 3) := by decide +kernel
theorem dX11_digest_58 : decode cX11_digest 58 = .ok (.iconst 0, 1) := by decide +kernel
theorem dX11_digest_59 : decode cX11_digest 59 = .ok (.istore_n 2, 1) := by decide +kernel
theorem dX11_digest_60 : decode cX11_digest 60 = .ok (.iload_n 2, 1) := by decide +kernel
theorem dX11_digest_61 : decode cX11_digest 61 = .ok (.bipush 8, 2) := by decide +kernel
theorem dX11_digest_63 : decode cX11_digest 63 = .ok (.if_icmp .ge 20, 3) := by decide +kernel
theorem dX11_digest_66 : decode cX11_digest 66 = .ok (.aload_n 0, 1) := by decide +kernel
theorem dX11_digest_67 : decode cX11_digest 67 = .ok (.aload_n 0, 1) := by decide +kernel
theorem dX11_digest_68 : decode cX11_digest 68 = .ok (.iload_n 1, 1) := by decide +kernel
theorem dX11_digest_69 : decode cX11_digest 69 = .ok (.iload_n 2, 1) := by decide +kernel
theorem dX11_digest_70 : decode cX11_digest 70 = .ok (.invokevirtual 189, 3) := by decide +kernel
theorem dX11_digest_73 : decode cX11_digest 73 = .ok (.i2l, 1) := by decide +kernel
theorem dX11_digest_74 : decode cX11_digest 74 = .ok (.invokevirtual 316, 3) := by decide +kernel
theorem dX11_digest_77 : decode cX11_digest 77 = .ok (.iinc 2 1, 3) := by decide +kernel
theorem dX11_digest_80 : decode cX11_digest 80 = .ok (.goto (-20), 3) := by decide +kernel
theorem dX11_digest_83 : decode cX11_digest 83 = .ok (.iinc 1 1, 3) := by decide +kernel
theorem dX11_digest_86 : decode cX11_digest 86 = .ok (.goto (-36), 3) := by decide +kernel
theorem dX11_digest_89 : decode cX11_digest 89 = .ok (.iconst 0, 1) := by decide +kernel
theorem dX11_digest_90 : decode cX11_digest 90 = .ok (.istore_n 1, 1) := by decide +kernel
theorem dX11_digest_91 : decode cX11_digest 91 = .ok (.iload_n 1, 1) := by decide +kernel
theorem dX11_digest_92 : decode cX11_digest 92 = .ok (.bipush 12, 2) := by decide +kernel
theorem dX11_digest_94 : decode cX11_digest 94 = .ok (.if_icmp .ge 26, 3) := by decide +kernel
theorem dX11_digest_97 : decode cX11_digest 97 = .ok (.aload_n 0, 1) := by decide +kernel
theorem dX11_digest_98 : decode cX11_digest 98 = .ok (.invokevirtual 192, 3) := by decide +kernel
theorem dX11_digest_101 : decode cX11_digest 101 = .ok (.ifCond .ne 19, 3) := by decide +kernel
theorem dX11_digest_104 : decode cX11_digest 104 = .ok (.aload_n 0, 1) := by decide +kernel
theorem dX11_digest_105 : decode cX11_digest 105 = .ok (.aload_n 0, 1) := by decide +kernel
theorem dX11_digest_106 : decode cX11_digest 106 = .ok (.iload_n 1, 1) := by decide +kernel
theorem dX11_digest_107 : decode cX11_digest 107 = .ok (.invokevirtual 242, 3) := by decide +kernel
theorem dX11_digest_110 : decode cX11_digest 110 = .ok (.i2l, 1) := by decide +kernel
theorem dX11_digest_111 : decode cX11_digest 111 = .ok (.invokevirtual 316, 3) := by decide +kernel
theorem dX11_digest_114 : decode cX11_digest 114 = .ok (.iinc 1 1, 3) := by decide +kernel
theorem dX11_digest_117 : decode cX11_digest 117 = .ok (.goto (-26), 3) := by decide +kernel
theorem dX11_digest_120 : decode cX11_digest 120 = .ok (.aload_n 0, 1) := by decide +kernel
theorem dX11_digest_121 : decode cX11_digest 121 = .ok (.invokevirtual 199, 3) := by decide +kernel
theorem dX11_digest_124 : decode cX11_digest 124 = .ok (.ifCond .eq 31, 3) := by decide +kernel
theorem dX11_digest_127 : decode cX11_digest 127 = .ok (.aload_n 0, 1) := by decide +kernel
theorem dX11_digest_128 : decode cX11_digest 128 = .ok (.aload_n 0, 1) := by decide +kernel
theorem dX11_digest_129 : decode cX11_digest 129 = .ok (.aload_n 0, 1) := by decide +kernel
theorem dX11_digest_130 : decode cX11_digest 130 = .ok (.invokevirtual 199, 3) := by decide +kernel
theorem dX11_digest_133 : decode cX11_digest 133 = .ok (.iconst 0, 1) := by decide +kernel
theorem dX11_digest_134 : decode cX11_digest 134 = .ok (.invokevirtual 249, 3) := by decide +kernel
theorem dX11_digest_137 : decode cX11_digest 137 = .ok (.i2l, 1) := by decide +kernel
theorem dX11_digest_138 : decode cX11_digest 138 = .ok (.invokevirtual 316, 3) := by decide +kernel
theorem dX11_digest_141 : decode cX11_digest 141 = .ok (.aload_n 0, 1) := by decide +kernel
theorem dX11_digest_142 : decode cX11_digest 142 = .ok (.aload_n 0, 1) := by decide +kernel
theorem dX11_digest_143 : decode cX11_digest 143 = .ok (.aload_n 0, 1) := by decide +kernel
theorem dX11_digest_144 : decode cX11_digest 144 = .ok (.invokevirtual 199, 3) := by decide +kernel
theorem dX11_digest_147 : decode cX11_digest 147 = .ok (.iconst 1, 1) := by decide +kernel
theorem dX11_digest_148 : decode cX11_digest 148 = .ok (.invokevirtual 249, 3) := by decide +kernel
theorem dX11_digest_151 : decode cX11_digest 151 = .ok (.i2l, 1) := by decide +kernel
theorem dX11_digest_152 : decode cX11_digest 152 = .ok (.invokevirtual 316, 3) := by decide +kernel
theorem dX11_digest_155 : decode cX11_digest 155 = .ok (.iconst 0, 1) := by decide +kernel
theorem dX11_digest_156 : decode cX11_digest 156 = .ok (.istore_n 1, 1) := by decide +kernel
theorem dX11_digest_157 : decode cX11_digest 157 = .ok (.iload_n 1, 1) := by decide +kernel
theorem dX11_digest_158 : decode cX11_digest 158 = .ok (.aload_n 0, 1) := by decide +kernel
theorem dX11_digest_159 : decode cX11_digest 159 = .ok (.getfield 68, 3) := by decide +kernel
theorem dX11_digest_162 : decode cX11_digest 162 = .ok (.if_icmp .ge 20, 3) := by decide +kernel
theorem dX11_digest_165 : decode cX11_digest 165 = .ok (.aload_n 0, 1) := by decide +kernel
theorem dX11_digest_166 : decode cX11_digest 166 = .ok (.aload_n 0, 1) := by decide +kernel
theorem dX11_digest_167 : decode cX11_digest 167 = .ok (.getfield 7, 3) := by decide +kernel
theorem dX11_digest_170 : decode cX11_digest 170 = .ok (.iload_n 1, 1) := by decide +kernel
theorem dX11_digest_171 : decode cX11_digest 171 = .ok (.iaload, 1) := by decide +kernel
theorem dX11_digest_172 : decode cX11_digest 172 = .ok (.i2l, 1) := by decide +kernel
theorem dX11_digest_173 : decode cX11_digest 173 = .ok (.invokevirtual 316, 3) := by decide +kernel
theorem dX11_digest_176 : decode cX11_digest 176 = .ok (.iinc 1 1, 3) := by decide +kernel
theorem dX11_digest_179 : decode cX11_digest 179 = .ok (.goto (-22), 3) := by decide +kernel
theorem dX11_digest_182 : decode cX11_digest 182 = .ok (.iconst 0, 1) := by decide +kernel
theorem dX11_digest_183 : decode cX11_digest 183 = .ok (.istore_n 1, 1) := by decide +kernel
theorem dX11_digest_184 : decode cX11_digest 184 = .ok (.iload_n 1, 1) := by decide +kernel
theorem dX11_digest_185 : decode cX11_digest 185 = .ok (.bipush 17, 2) := by decide +kernel
theorem dX11_digest_187 : decode cX11_digest 187 = .ok (.if_icmp .ge 19, 3) := by decide +kernel
theorem dX11_digest_190 : decode cX11_digest 190 = .ok (.aload_n 0, 1) := by decide +kernel
theorem dX11_digest_191 : decode cX11_digest 191 = .ok (.aload_n 0, 1) := by decide +kernel
theorem dX11_digest_192 : decode cX11_digest 192 = .ok (.iload_n 1, 1) := by decide +kernel
theorem dX11_digest_193 : decode cX11_digest 193 = .ok (.invokevirtual 305, 3) := by decide +kernel
theorem dX11_digest_196 : decode cX11_digest 196 = .ok (.i2l, 1) := by decide +kernel
theorem dX11_digest_197 : decode cX11_digest 197 = .ok (.invokevirtual 316, 3) := by decide +kernel
theorem dX11_digest_200 : decode cX11_digest 200 = .ok (.iinc 1 1, 3) := by decide +kernel
theorem dX11_digest_203 : decode cX11_digest 203 = .ok (.goto (-19), 3) := by decide +kernel
theorem dX11_digest_206 : decode cX11_digest 206 = .ok (.aload_n 0, 1) := by decide +kernel
theorem dX11_digest_207 : decode cX11_digest 207 = .ok (.getfield 310, 3) := by decide +kernel
theorem dX11_digest_210 : decode cX11_digest 210 = .ok (.lreturn, 1) := by decide +kernel
