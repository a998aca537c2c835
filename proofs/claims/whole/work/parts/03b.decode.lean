theorem dX10_init_0 : decode cX10_init 0 = .ok (.aload_n 0, 1) := by decide +kernel
theorem dX10_init_1 : decode cX10_init 1 = .ok (.invokespecial 1, 3) := by decide +kernel
theorem dX10_init_4 : decode cX10_init 4 = .ok (.aload_n 0, 1) := by decide +kernel
theorem dX10_init_5 : decode cX10_init 5 = .ok (.new 7, 3) := by decide +kernel
theorem dX10_init_8 : decode cX10_init 8 = .ok (.dup, 1) := by decide +kernel
theorem dX10_init_9 : decode cX10_init 9 = .ok (.invokespecial 9, 3) := by decide +kernel
theorem dX10_init_12 : decode cX10_init 12 = .ok (.putfield 10, 3) := by decide +kernel
theorem dX10_init_15 : decode cX10_init 15 = .ok (.aload_n 0, 1) := by decide +kernel
theorem dX10_init_16 : decode cX10_init 16 = .ok (.new 16, 3) := by decide +kernel
theorem dX10_init_19 : decode cX10_init 19 = .ok (.dup, 1) := by decide +kernel
theorem dX10_init_20 : decode cX10_init 20 = .ok (.invokespecial 18, 3) := by decide +kernel
theorem dX10_init_23 : decode cX10_init 23 = .ok (.putfield 19, 3) := by decide +kernel
theorem dX10_init_26 : decode cX10_init 26 = .ok (.aload_n 0, 1) := by decide +kernel
theorem dX10_init_27 : decode cX10_init 27 = .ok (.new 16, 3) := by decide +kernel
theorem dX10_init_30 : decode cX10_init 30 = .ok (.dup, 1) := by decide +kernel
theorem dX10_init_31 : decode cX10_init 31 = .ok (.invokespecial 18, 3) := by decide +kernel
theorem dX10_init_34 : decode cX10_init 34 = .ok (.putfield 23, 3) := by decide +kernel
theorem dX10_init_37 : decode cX10_init 37 = .ok (.aload_n 0, 1) := by decide +kernel
theorem dX10_init_38 : decode cX10_init 38 = .ok (.new 26, 3) := by decide +kernel
theorem dX10_init_41 : decode cX10_init 41 = .ok (.dup, 1) := by decide +kernel
theorem dX10_init_42 : decode cX10_init 42 = .ok (.invokespecial 28, 3) := by decide +kernel
theorem dX10_init_45 : decode cX10_init 45 = .ok (.putfield 29, 3) := by decide +kernel
theorem dX10_init_48 : decode cX10_init 48 = .ok (.aload_n 0, 1) := by decide +kernel
theorem dX10_init_49 : decode cX10_init 49 = .ok (.new 33, 3) := by decide +kernel
theorem dX10_init_52 : decode cX10_init 52 = .ok (.dup, 1) := by decide +kernel
theorem dX10_init_53 : decode cX10_init 53 = .ok (.invokespecial 35, 3) := by decide +kernel
theorem dX10_init_56 : decode cX10_init 56 = .ok (.putfield 36, 3) := by decide +kernel
theorem dX10_init_59 : decode cX10_init 59 = .ok (.aload_n 0, 1) := by decide +kernel
theorem dX10_init_60 : decode cX10_init 60 = .ok (.new 40, 3) := by decide +kernel
theorem dX10_init_63 : decode cX10_init 63 = .ok (.dup, 1) := by decide +kernel
theorem dX10_init_64 : decode cX10_init 64 = .ok (.iconst 0, 1) := by decide +kernel
theorem dX10_init_65 : decode cX10_init 65 = .ok (.anewarray 42, 3) := by decide +kernel
theorem dX10_init_68 : decode cX10_init 68 = .ok (.iconst 0, 1) := by decide +kernel
theorem dX10_init_69 : decode cX10_init 69 = .ok (.invokespecial 44, 3) := by decide +kernel
theorem dX10_init_72 : decode cX10_init 72 = .ok (.putfield 47, 3) := by decide +kernel
theorem dX10_init_75 : decode cX10_init 75 = .ok (.return_, 1) := by decide +kernel
theorem dX10_letter_0 : decode cX10_letter 0 = .ok (.iload_n 1, 1) := by decide +kernel
theorem dX10_letter_1 : decode cX10_letter 1 = .ok (.iconst 1, 1) := by decide +kernel
theorem dX10_letter_2 : decode cX10_letter 2 = .ok (.if_icmp .lt 9, 3) := by decide +kernel
theorem dX10_letter_5 : decode cX10_letter 5 = .ok (.iload_n 1, 1) := by decide +kernel
theorem dX10_letter_6 : decode cX10_letter 6 = .ok (.bipush 126, 2) := by decide +kernel
theorem dX10_letter_8 : decode cX10_letter 8 = .ok (.if_icmp .le 6, 3) := by decide +kernel
theorem dX10_letter_11 : decode cX10_letter 11 = .ok (.bipush (-102), 2) := by decide +kernel
theorem dX10_letter_13 : decode cX10_letter 13 = .ok (.ireturn, 1) := by decide +kernel
theorem dX10_letter_14 : decode cX10_letter 14 = .ok (.aload_n 0, 1) := by decide +kernel
theorem dX10_letter_15 : decode cX10_letter 15 = .ok (.getfield 10, 3) := by decide +kernel
theorem dX10_letter_18 : decode cX10_letter 18 = .ok (.iload_n 1, 1) := by decide +kernel
theorem dX10_letter_19 : decode cX10_letter 19 = .ok (.invokevirtual 51, 3) := by decide +kernel
theorem dX10_letter_22 : decode cX10_letter 22 = .ok (.ifCond .eq 13, 3) := by decide +kernel
theorem dX10_letter_25 : decode cX10_letter 25 = .ok (.aload_n 0, 1) := by decide +kernel
theorem dX10_letter_26 : decode cX10_letter 26 = .ok (.getfield 10, 3) := by decide +kernel
theorem dX10_letter_29 : decode cX10_letter 29 = .ok (.getfield 55, 3) := by decide +kernel
theorem dX10_letter_32 : decode cX10_letter 32 = .ok (.goto 5, 3) := by decide +kernel
theorem dX10_letter_35 : decode cX10_letter 35 = .ok (.bipush (-104), 2) := by decide +kernel
theorem dX10_letter_37 : decode cX10_letter 37 = .ok (.ireturn, 1) := by decide +kernel
theorem dX10_blank_0 : decode cX10_blank 0 = .ok (.aload_n 0, 1) := by decide +kernel
theorem dX10_blank_1 : decode cX10_blank 1 = .ok (.getfield 10, 3) := by decide +kernel
theorem dX10_blank_4 : decode cX10_blank 4 = .ok (.getfield 55, 3) := by decide +kernel
theorem dX10_blank_7 : decode cX10_blank 7 = .ok (.istore_n 1, 1) := by decide +kernel
theorem dX10_blank_8 : decode cX10_blank 8 = .ok (.aload_n 0, 1) := by decide +kernel
theorem dX10_blank_9 : decode cX10_blank 9 = .ok (.getfield 10, 3) := by decide +kernel
theorem dX10_blank_12 : decode cX10_blank 12 = .ok (.iconst 0, 1) := by decide +kernel
theorem dX10_blank_13 : decode cX10_blank 13 = .ok (.putfield 55, 3) := by decide +kernel
theorem dX10_blank_16 : decode cX10_blank 16 = .ok (.iload_n 1, 1) := by decide +kernel
theorem dX10_blank_17 : decode cX10_blank 17 = .ok (.ireturn, 1) := by decide +kernel
theorem dX10_fault_0 : decode cX10_fault 0 = .ok (.aload_n 0, 1) := by decide +kernel
theorem dX10_fault_1 : decode cX10_fault 1 = .ok (.getfield 10, 3) := by decide +kernel
theorem dX10_fault_4 : decode cX10_fault 4 = .ok (.invokevirtual 59, 3) := by decide +kernel
theorem dX10_fault_7 : decode cX10_fault 7 = .ok (.ireturn, 1) := by decide +kernel
theorem dX10_show_0 : decode cX10_show 0 = .ok (.aload_n 0, 1) := by decide +kernel
theorem dX10_show_1 : decode cX10_show 1 = .ok (.getfield 10, 3) := by decide +kernel
theorem dX10_show_4 : decode cX10_show 4 = .ok (.invokevirtual 63, 3) := by decide +kernel
theorem dX10_show_7 : decode cX10_show 7 = .ok (.ifCond .ne 6, 3) := by decide +kernel
theorem dX10_show_10 : decode cX10_show 10 = .ok (.bipush (-103), 2) := by decide +kernel
theorem dX10_show_12 : decode cX10_show 12 = .ok (.ireturn, 1) := by decide +kernel
theorem dX10_show_13 : decode cX10_show 13 = .ok (.aload_n 0, 1) := by decide +kernel
theorem dX10_show_14 : decode cX10_show 14 = .ok (.aload_n 0, 1) := by decide +kernel
theorem dX10_show_15 : decode cX10_show 15 = .ok (.getfield 10, 3) := by decide +kernel
theorem dX10_show_18 : decode cX10_show 18 = .ok (.invokevirtual 67, 3) := by decide +kernel
theorem dX10_show_21 : decode cX10_show 21 = .ok (.putfield 47, 3) := by decide +kernel
theorem dX10_show_24 : decode cX10_show 24 = .ok (.aload_n 0, 1) := by decide +kernel
theorem dX10_show_25 : decode cX10_show 25 = .ok (.getfield 10, 3) := by decide +kernel
theorem dX10_show_28 : decode cX10_show 28 = .ok (.aload_n 0, 1) := by decide +kernel
theorem dX10_show_29 : decode cX10_show 29 = .ok (.getfield 19, 3) := by decide +kernel
theorem dX10_show_32 : decode cX10_show 32 = .ok (.aload_n 0, 1) := by decide +kernel
theorem dX10_show_33 : decode cX10_show 33 = .ok (.getfield 47, 3) := by decide +kernel
theorem dX10_show_36 : decode cX10_show 36 = .ok (.getfield 71, 3) := by decide +kernel
theorem dX10_show_39 : decode cX10_show 39 = .ok (.invokevirtual 74, 3) := by decide +kernel
theorem dX10_show_42 : decode cX10_show 42 = .ok (.aload_n 0, 1) := by decide +kernel
theorem dX10_show_43 : decode cX10_show 43 = .ok (.getfield 10, 3) := by decide +kernel
theorem dX10_show_46 : decode cX10_show 46 = .ok (.iconst 0, 1) := by decide +kernel
theorem dX10_show_47 : decode cX10_show 47 = .ok (.putfield 55, 3) := by decide +kernel
theorem dX10_show_50 : decode cX10_show 50 = .ok (.aload_n 0, 1) := by decide +kernel
theorem dX10_show_51 : decode cX10_show 51 = .ok (.iconst 0, 1) := by decide +kernel
theorem dX10_show_52 : decode cX10_show 52 = .ok (.putfield 78, 3) := by decide +kernel
theorem dX10_show_55 : decode cX10_show 55 = .ok (.aload_n 0, 1) := by decide +kernel
theorem dX10_show_56 : decode cX10_show 56 = .ok (.dup, 1) := by decide +kernel
theorem dX10_show_57 : decode cX10_show 57 = .ok (.getfield 82, 3) := by decide +kernel
theorem dX10_show_60 : decode cX10_show 60 = .ok (.iconst 1, 1) := by decide +kernel
theorem dX10_show_61 : decode cX10_show 61 = .ok (.iadd, 1) := by decide +kernel
theorem dX10_show_62 : decode cX10_show 62 = .ok (.putfield 82, 3) := by decide +kernel
theorem dX10_show_65 : decode cX10_show 65 = .ok (.aload_n 0, 1) := by decide +kernel
theorem dX10_show_66 : decode cX10_show 66 = .ok (.getfield 47, 3) := by decide +kernel
theorem dX10_show_69 : decode cX10_show 69 = .ok (.getfield 85, 3) := by decide +kernel
theorem dX10_show_72 : decode cX10_show 72 = .ok (.arraylength, 1) := by decide +kernel
theorem dX10_show_73 : decode cX10_show 73 = .ok (.ireturn, 1) := by decide +kernel
theorem dX10_trick_0 : decode cX10_trick 0 = .ok (.aload_n 0, 1) := by decide +kernel
theorem dX10_trick_1 : decode cX10_trick 1 = .ok (.iload_n 1, 1) := by decide +kernel
theorem dX10_trick_2 : decode cX10_trick 2 = .ok (.invokevirtual 89, 3) := by decide +kernel
theorem dX10_trick_5 : decode cX10_trick 5 = .ok (.ifCond .ne 6, 3) := by decide +kernel
theorem dX10_trick_8 : decode cX10_trick 8 = .ok (.bipush (-101), 2) := by decide +kernel
theorem dX10_trick_10 : decode cX10_trick 10 = .ok (.ireturn, 1) := by decide +kernel
theorem dX10_trick_11 : decode cX10_trick 11 = .ok (.aload_n 0, 1) := by decide +kernel
theorem dX10_trick_12 : decode cX10_trick 12 = .ok (.getfield 47, 3) := by decide +kernel
theorem dX10_trick_15 : decode cX10_trick 15 = .ok (.getfield 85, 3) := by decide +kernel
theorem dX10_trick_18 : decode cX10_trick 18 = .ok (.iload_n 1, 1) := by decide +kernel
theorem dX10_trick_19 : decode cX10_trick 19 = .ok (.aaload, 1) := by decide +kernel
theorem dX10_trick_20 : decode cX10_trick 20 = .ok (.astore_n 3, 1) := by decide +kernel
theorem dX10_trick_21 : decode cX10_trick 21 = .ok (.iload_n 2, 1) := by decide +kernel
theorem dX10_trick_22 : decode cX10_trick 22 = .ok (.tableswitch 117 0 8 #[50, 55, 60, 65, 70, 75, 85, 99, 108], 50) := by decide +kernel
theorem dX10_trick_72 : decode cX10_trick 72 = .ok (.aload_n 3, 1) := by decide +kernel
theorem dX10_trick_73 : decode cX10_trick 73 = .ok (.invokevirtual 92, 3) := by decide +kernel
theorem dX10_trick_76 : decode cX10_trick 76 = .ok (.ireturn, 1) := by decide +kernel
theorem dX10_trick_77 : decode cX10_trick 77 = .ok (.aload_n 3, 1) := by decide +kernel
theorem dX10_trick_78 : decode cX10_trick 78 = .ok (.getfield 95, 3) := by decide +kernel
theorem dX10_trick_81 : decode cX10_trick 81 = .ok (.ireturn, 1) := by decide +kernel
theorem dX10_trick_82 : decode cX10_trick 82 = .ok (.aload_n 3, 1) := by decide +kernel
theorem dX10_trick_83 : decode cX10_trick 83 = .ok (.getfield 98, 3) := by decide +kernel
theorem dX10_trick_86 : decode cX10_trick 86 = .ok (.ireturn, 1) := by decide +kernel
theorem dX10_trick_87 : decode cX10_trick 87 = .ok (.aload_n 3, 1) := by decide +kernel
theorem dX10_trick_88 : decode cX10_trick 88 = .ok (.getfield 101, 3) := by decide +kernel
theorem dX10_trick_91 : decode cX10_trick 91 = .ok (.ireturn, 1) := by decide +kernel
theorem dX10_trick_92 : decode cX10_trick 92 = .ok (.aload_n 3, 1) := by decide +kernel
theorem dX10_trick_93 : decode cX10_trick 93 = .ok (.invokevirtual 104, 3) := by decide +kernel
theorem dX10_trick_96 : decode cX10_trick 96 = .ok (.ireturn, 1) := by decide +kernel
theorem dX10_trick_97 : decode cX10_trick 97 = .ok (.aload_n 0, 1) := by decide +kernel
theorem dX10_trick_98 : decode cX10_trick 98 = .ok (.getfield 19, 3) := by decide +kernel
theorem dX10_trick_101 : decode cX10_trick 101 = .ok (.getfield 107, 3) := by decide +kernel
theorem dX10_trick_104 : decode cX10_trick 104 = .ok (.iload_n 1, 1) := by decide +kernel
theorem dX10_trick_105 : decode cX10_trick 105 = .ok (.iaload, 1) := by decide +kernel
theorem dX10_trick_106 : decode cX10_trick 106 = .ok (.ireturn, 1) := by decide +kernel
theorem dX10_trick_107 : decode cX10_trick 107 = .ok (.aload_n 0, 1) := by decide +kernel
theorem dX10_trick_108 : decode cX10_trick 108 = .ok (.iload_n 1, 1) := by decide +kernel
theorem dX10_trick_109 : decode cX10_trick 109 = .ok (.invokevirtual 111, 3) := by decide +kernel
theorem dX10_trick_112 : decode cX10_trick 112 = .ok (.ifCond .eq 7, 3) := by decide +kernel
theorem dX10_trick_115 : decode cX10_trick 115 = .ok (.iconst 1, 1) := by decide +kernel
theorem dX10_trick_116 : decode cX10_trick 116 = .ok (.goto 4, 3) := by decide +kernel
theorem dX10_trick_119 : decode cX10_trick 119 = .ok (.iconst 0, 1) := by decide +kernel
theorem dX10_trick_120 : decode cX10_trick 120 = .ok (.ireturn, 1) := by decide +kernel
theorem dX10_trick_121 : decode cX10_trick 121 = .ok (.aload_n 0, 1) := by decide +kernel
theorem dX10_trick_122 : decode cX10_trick 122 = .ok (.getfield 19, 3) := by decide +kernel
theorem dX10_trick_125 : decode cX10_trick 125 = .ok (.aload_n 3, 1) := by decide +kernel
theorem dX10_trick_126 : decode cX10_trick 126 = .ok (.invokevirtual 114, 3) := by decide +kernel
theorem dX10_trick_129 : decode cX10_trick 129 = .ok (.ireturn, 1) := by decide +kernel
theorem dX10_trick_130 : decode cX10_trick 130 = .ok (.aload_n 0, 1) := by decide +kernel
theorem dX10_trick_131 : decode cX10_trick 131 = .ok (.getfield 47, 3) := by decide +kernel
theorem dX10_trick_134 : decode cX10_trick 134 = .ok (.iload_n 1, 1) := by decide +kernel
theorem dX10_trick_135 : decode cX10_trick 135 = .ok (.invokevirtual 118, 3) := by decide +kernel
theorem dX10_trick_138 : decode cX10_trick 138 = .ok (.ireturn, 1) := by decide +kernel
theorem dX10_trick_139 : decode cX10_trick 139 = .ok (.bipush (-102), 2) := by decide +kernel
theorem dX10_trick_141 : decode cX10_trick 141 = .ok (.ireturn, 1) := by decide +kernel
theorem dX10_as_0 : decode cX10_as 0 = .ok (.aload_n 0, 1) := by decide +kernel
theorem dX10_as_1 : decode cX10_as 1 = .ok (.iload_n 1, 1) := by decide +kernel
theorem dX10_as_2 : decode cX10_as 2 = .ok (.invokevirtual 89, 3) := by decide +kernel
theorem dX10_as_5 : decode cX10_as 5 = .ok (.ifCond .ne 6, 3) := by decide +kernel
theorem dX10_as_8 : decode cX10_as 8 = .ok (.bipush (-101), 2) := by decide +kernel
theorem dX10_as_10 : decode cX10_as 10 = .ok (.ireturn, 1) := by decide +kernel
theorem dX10_as_11 : decode cX10_as 11 = .ok (.iload_n 2, 1) := by decide +kernel
theorem dX10_as_12 : decode cX10_as 12 = .ok (.ifCond .lt 8, 3) := by decide +kernel
theorem dX10_as_15 : decode cX10_as 15 = .ok (.iload_n 2, 1) := by decide +kernel
theorem dX10_as_16 : decode cX10_as 16 = .ok (.iconst 5, 1) := by decide +kernel
theorem dX10_as_17 : decode cX10_as 17 = .ok (.if_icmp .lt 6, 3) := by decide +kernel
theorem dX10_as_20 : decode cX10_as 20 = .ok (.bipush (-102), 2) := by decide +kernel
theorem dX10_as_22 : decode cX10_as 22 = .ok (.ireturn, 1) := by decide +kernel
theorem dX10_as_23 : decode cX10_as 23 = .ok (.aload_n 0, 1) := by decide +kernel
theorem dX10_as_24 : decode cX10_as 24 = .ok (.getfield 47, 3) := by decide +kernel
theorem dX10_as_27 : decode cX10_as 27 = .ok (.getfield 85, 3) := by decide +kernel
theorem dX10_as_30 : decode cX10_as 30 = .ok (.iload_n 1, 1) := by decide +kernel
theorem dX10_as_31 : decode cX10_as 31 = .ok (.aaload, 1) := by decide +kernel
theorem dX10_as_32 : decode cX10_as 32 = .ok (.iload_n 2, 1) := by decide +kernel
theorem dX10_as_33 : decode cX10_as 33 = .ok (.invokestatic 122, 3) := by decide +kernel
theorem dX10_as_36 : decode cX10_as 36 = .ok (.ifCond .eq 7, 3) := by decide +kernel
theorem dX10_as_39 : decode cX10_as 39 = .ok (.iload_n 1, 1) := by decide +kernel
theorem dX10_as_40 : decode cX10_as 40 = .ok (.goto 4, 3) := by decide +kernel
theorem dX10_as_43 : decode cX10_as 43 = .ok (.iconst (-1), 1) := by decide +kernel
theorem dX10_as_44 : decode cX10_as 44 = .ok (.ireturn, 1) := by decide +kernel
theorem dX10_person_0 : decode cX10_person 0 = .ok (.aload_n 0, 1) := by decide +kernel
theorem dX10_person_1 : decode cX10_person 1 = .ok (.iload_n 1, 1) := by decide +kernel
theorem dX10_person_2 : decode cX10_person 2 = .ok (.invokevirtual 126, 3) := by decide +kernel
theorem dX10_person_5 : decode cX10_person 5 = .ok (.ifCond .ne 6, 3) := by decide +kernel
theorem dX10_person_8 : decode cX10_person 8 = .ok (.bipush (-101), 2) := by decide +kernel
theorem dX10_person_10 : decode cX10_person 10 = .ok (.ireturn, 1) := by decide +kernel
theorem dX10_person_11 : decode cX10_person 11 = .ok (.aload_n 0, 1) := by decide +kernel
theorem dX10_person_12 : decode cX10_person 12 = .ok (.getfield 19, 3) := by decide +kernel
theorem dX10_person_15 : decode cX10_person 15 = .ok (.getfield 129, 3) := by decide +kernel
theorem dX10_person_18 : decode cX10_person 18 = .ok (.iload_n 1, 1) := by decide +kernel
theorem dX10_person_19 : decode cX10_person 19 = .ok (.invokestatic 132, 3) := by decide +kernel
theorem dX10_person_22 : decode cX10_person 22 = .ok (.istore_n 3, 1) := by decide +kernel
theorem dX10_person_23 : decode cX10_person 23 = .ok (.iload_n 2, 1) := by decide +kernel
theorem dX10_person_24 : decode cX10_person 24 = .ok (.tableswitch 162 0 7 #[48, 66, 84, 94, 103, 119, 137, 146], 48) := by decide +kernel
theorem dX10_person_72 : decode cX10_person 72 = .ok (.iload_n 3, 1) := by decide +kernel
theorem dX10_person_73 : decode cX10_person 73 = .ok (.ifCond .eq 15, 3) := by decide +kernel
theorem dX10_person_76 : decode cX10_person 76 = .ok (.aload_n 0, 1) := by decide +kernel
theorem dX10_person_77 : decode cX10_person 77 = .ok (.getfield 19, 3) := by decide +kernel
theorem dX10_person_80 : decode cX10_person 80 = .ok (.getfield 136, 3) := by decide +kernel
theorem dX10_person_83 : decode cX10_person 83 = .ok (.iload_n 1, 1) := by decide +kernel
theorem dX10_person_84 : decode cX10_person 84 = .ok (.iaload, 1) := by decide +kernel
theorem dX10_person_85 : decode cX10_person 85 = .ok (.goto 4, 3) := by decide +kernel
theorem dX10_person_88 : decode cX10_person 88 = .ok (.iconst (-1), 1) := by decide +kernel
theorem dX10_person_89 : decode cX10_person 89 = .ok (.ireturn, 1) := by decide +kernel
theorem dX10_person_90 : decode cX10_person 90 = .ok (.iload_n 3, 1) := by decide +kernel
theorem dX10_person_91 : decode cX10_person 91 = .ok (.ifCond .eq 15, 3) := by decide +kernel
theorem dX10_person_94 : decode cX10_person 94 = .ok (.aload_n 0, 1) := by decide +kernel
theorem dX10_person_95 : decode cX10_person 95 = .ok (.getfield 19, 3) := by decide +kernel
theorem dX10_person_98 : decode cX10_person 98 = .ok (.getfield 139, 3) := by decide +kernel
theorem dX10_person_101 : decode cX10_person 101 = .ok (.iload_n 1, 1) := by decide +kernel
theorem dX10_person_102 : decode cX10_person 102 = .ok (.iaload, 1) := by decide +kernel
theorem dX10_person_103 : decode cX10_person 103 = .ok (.goto 4, 3) := by decide +kernel
theorem dX10_person_106 : decode cX10_person 106 = .ok (.iconst (-1), 1) := by decide +kernel
theorem dX10_person_107 : decode cX10_person 107 = .ok (.ireturn, 1) := by decide +kernel
theorem dX10_person_108 : decode cX10_person 108 = .ok (.iload_n 3, 1) := by decide +kernel
theorem dX10_person_109 : decode cX10_person 109 = .ok (.ifCond .eq 7, 3) := by decide +kernel
theorem dX10_person_112 : decode cX10_person 112 = .ok (.iconst 1, 1) := by decide +kernel
theorem dX10_person_113 : decode cX10_person 113 = .ok (.goto 4, 3) := by decide +kernel
theorem dX10_person_116 : decode cX10_person 116 = .ok (.iconst 0, 1) := by decide +kernel
theorem dX10_person_117 : decode cX10_person 117 = .ok (.ireturn, 1) := by decide +kernel
theorem dX10_person_118 : decode cX10_person 118 = .ok (.aload_n 0, 1) := by decide +kernel
theorem dX10_person_119 : decode cX10_person 119 = .ok (.getfield 19, 3) := by decide +kernel
theorem dX10_person_122 : decode cX10_person 122 = .ok (.iload_n 1, 1) := by decide +kernel
theorem dX10_person_123 : decode cX10_person 123 = .ok (.invokevirtual 142, 3) := by decide +kernel
theorem dX10_person_126 : decode cX10_person 126 = .ok (.ireturn, 1) := by decide +kernel
theorem dX10_person_127 : decode cX10_person 127 = .ok (.aload_n 0, 1) := by decide +kernel
theorem dX10_person_128 : decode cX10_person 128 = .ok (.getfield 47, 3) := by decide +kernel
theorem dX10_person_131 : decode cX10_person 131 = .ok (.aload_n 0, 1) := by decide +kernel
theorem dX10_person_132 : decode cX10_person 132 = .ok (.getfield 19, 3) := by decide +kernel
theorem dX10_person_135 : decode cX10_person 135 = .ok (.iload_n 1, 1) := by decide +kernel
theorem dX10_person_136 : decode cX10_person 136 = .ok (.invokevirtual 142, 3) := by decide +kernel
theorem dX10_person_139 : decode cX10_person 139 = .ok (.invokevirtual 145, 3) := by decide +kernel
theorem dX10_person_142 : decode cX10_person 142 = .ok (.ireturn, 1) := by decide +kernel
theorem dX10_person_143 : decode cX10_person 143 = .ok (.iload_n 3, 1) := by decide +kernel
theorem dX10_person_144 : decode cX10_person 144 = .ok (.ifCond .eq 15, 3) := by decide +kernel
theorem dX10_person_147 : decode cX10_person 147 = .ok (.aload_n 0, 1) := by decide +kernel
theorem dX10_person_148 : decode cX10_person 148 = .ok (.getfield 19, 3) := by decide +kernel
theorem dX10_person_151 : decode cX10_person 151 = .ok (.getfield 148, 3) := by decide +kernel
theorem dX10_person_154 : decode cX10_person 154 = .ok (.iload_n 1, 1) := by decide +kernel
theorem dX10_person_155 : decode cX10_person 155 = .ok (.iaload, 1) := by decide +kernel
theorem dX10_person_156 : decode cX10_person 156 = .ok (.goto 4, 3) := by decide +kernel
theorem dX10_person_159 : decode cX10_person 159 = .ok (.iconst 0, 1) := by decide +kernel
theorem dX10_person_160 : decode cX10_person 160 = .ok (.ireturn, 1) := by decide +kernel
theorem dX10_person_161 : decode cX10_person 161 = .ok (.aload_n 0, 1) := by decide +kernel
theorem dX10_person_162 : decode cX10_person 162 = .ok (.getfield 19, 3) := by decide +kernel
theorem dX10_person_165 : decode cX10_person 165 = .ok (.iload_n 1, 1) := by decide +kernel
theorem dX10_person_166 : decode cX10_person 166 = .ok (.invokevirtual 151, 3) := by decide +kernel
theorem dX10_person_169 : decode cX10_person 169 = .ok (.ireturn, 1) := by decide +kernel
theorem dX10_person_170 : decode cX10_person 170 = .ok (.aload_n 0, 1) := by decide +kernel
theorem dX10_person_171 : decode cX10_person 171 = .ok (.getfield 47, 3) := by decide +kernel
theorem dX10_person_174 : decode cX10_person 174 = .ok (.aload_n 0, 1) := by decide +kernel
theorem dX10_person_175 : decode cX10_person 175 = .ok (.getfield 19, 3) := by decide +kernel
theorem dX10_person_178 : decode cX10_person 178 = .ok (.iload_n 1, 1) := by decide +kernel
theorem dX10_person_179 : decode cX10_person 179 = .ok (.invokevirtual 151, 3) := by decide +kernel
theorem dX10_person_182 : decode cX10_person 182 = .ok (.invokevirtual 154, 3) := by decide +kernel
theorem dX10_person_185 : decode cX10_person 185 = .ok (.ireturn, 1) := by decide +kernel
theorem dX10_person_186 : decode cX10_person 186 = .ok (.bipush (-102), 2) := by decide +kernel
theorem dX10_person_188 : decode cX10_person 188 = .ok (.ireturn, 1) := by decide +kernel
theorem dX10_cast_0 : decode cX10_cast 0 = .ok (.aload_n 0, 1) := by decide +kernel
theorem dX10_cast_1 : decode cX10_cast 1 = .ok (.iload_n 1, 1) := by decide +kernel
theorem dX10_cast_2 : decode cX10_cast 2 = .ok (.invokevirtual 89, 3) := by decide +kernel
theorem dX10_cast_5 : decode cX10_cast 5 = .ok (.ifCond .eq 11, 3) := by decide +kernel
theorem dX10_cast_8 : decode cX10_cast 8 = .ok (.aload_n 0, 1) := by decide +kernel
theorem dX10_cast_9 : decode cX10_cast 9 = .ok (.iload_n 2, 1) := by decide +kernel
theorem dX10_cast_10 : decode cX10_cast 10 = .ok (.invokevirtual 126, 3) := by decide +kernel
theorem dX10_cast_13 : decode cX10_cast 13 = .ok (.ifCond .ne 6, 3) := by decide +kernel
theorem dX10_cast_16 : decode cX10_cast 16 = .ok (.bipush (-101), 2) := by decide +kernel
theorem dX10_cast_18 : decode cX10_cast 18 = .ok (.ireturn, 1) := by decide +kernel
theorem dX10_cast_19 : decode cX10_cast 19 = .ok (.aload_n 0, 1) := by decide +kernel
theorem dX10_cast_20 : decode cX10_cast 20 = .ok (.iload_n 1, 1) := by decide +kernel
theorem dX10_cast_21 : decode cX10_cast 21 = .ok (.iload_n 2, 1) := by decide +kernel
theorem dX10_cast_22 : decode cX10_cast 22 = .ok (.invokevirtual 157, 3) := by decide +kernel
theorem dX10_cast_25 : decode cX10_cast 25 = .ok (.ifCond .ne 6, 3) := by decide +kernel
theorem dX10_cast_28 : decode cX10_cast 28 = .ok (.bipush (-103), 2) := by decide +kernel
theorem dX10_cast_30 : decode cX10_cast 30 = .ok (.ireturn, 1) := by decide +kernel
theorem dX10_cast_31 : decode cX10_cast 31 = .ok (.aload_n 0, 1) := by decide +kernel
theorem dX10_cast_32 : decode cX10_cast 32 = .ok (.getfield 19, 3) := by decide +kernel
theorem dX10_cast_35 : decode cX10_cast 35 = .ok (.getfield 107, 3) := by decide +kernel
theorem dX10_cast_38 : decode cX10_cast 38 = .ok (.iload_n 1, 1) := by decide +kernel
theorem dX10_cast_39 : decode cX10_cast 39 = .ok (.dup2, 1) := by decide +kernel
theorem dX10_cast_40 : decode cX10_cast 40 = .ok (.iaload, 1) := by decide +kernel
theorem dX10_cast_41 : decode cX10_cast 41 = .ok (.iconst 1, 1) := by decide +kernel
theorem dX10_cast_42 : decode cX10_cast 42 = .ok (.iload_n 2, 1) := by decide +kernel
theorem dX10_cast_43 : decode cX10_cast 43 = .ok (.ishl, 1) := by decide +kernel
theorem dX10_cast_44 : decode cX10_cast 44 = .ok (.ior, 1) := by decide +kernel
theorem dX10_cast_45 : decode cX10_cast 45 = .ok (.iastore, 1) := by decide +kernel
theorem dX10_cast_46 : decode cX10_cast 46 = .ok (.aload_n 0, 1) := by decide +kernel
theorem dX10_cast_47 : decode cX10_cast 47 = .ok (.getfield 19, 3) := by decide +kernel
theorem dX10_cast_50 : decode cX10_cast 50 = .ok (.getfield 107, 3) := by decide +kernel
theorem dX10_cast_53 : decode cX10_cast 53 = .ok (.iload_n 1, 1) := by decide +kernel
theorem dX10_cast_54 : decode cX10_cast 54 = .ok (.iaload, 1) := by decide +kernel
theorem dX10_cast_55 : decode cX10_cast 55 = .ok (.invokestatic 160, 3) := by decide +kernel
theorem dX10_cast_58 : decode cX10_cast 58 = .ok (.ireturn, 1) := by decide +kernel
theorem dX10_drop_0 : decode cX10_drop 0 = .ok (.aload_n 0, 1) := by decide +kernel
theorem dX10_drop_1 : decode cX10_drop 1 = .ok (.iload_n 1, 1) := by decide +kernel
theorem dX10_drop_2 : decode cX10_drop 2 = .ok (.invokevirtual 89, 3) := by decide +kernel
theorem dX10_drop_5 : decode cX10_drop 5 = .ok (.ifCond .eq 11, 3) := by decide +kernel
theorem dX10_drop_8 : decode cX10_drop 8 = .ok (.aload_n 0, 1) := by decide +kernel
theorem dX10_drop_9 : decode cX10_drop 9 = .ok (.iload_n 2, 1) := by decide +kernel
theorem dX10_drop_10 : decode cX10_drop 10 = .ok (.invokevirtual 126, 3) := by decide +kernel
theorem dX10_drop_13 : decode cX10_drop 13 = .ok (.ifCond .ne 6, 3) := by decide +kernel
theorem dX10_drop_16 : decode cX10_drop 16 = .ok (.bipush (-101), 2) := by decide +kernel
theorem dX10_drop_18 : decode cX10_drop 18 = .ok (.ireturn, 1) := by decide +kernel
theorem dX10_drop_19 : decode cX10_drop 19 = .ok (.aload_n 0, 1) := by decide +kernel
theorem dX10_drop_20 : decode cX10_drop 20 = .ok (.getfield 19, 3) := by decide +kernel
theorem dX10_drop_23 : decode cX10_drop 23 = .ok (.getfield 107, 3) := by decide +kernel
theorem dX10_drop_26 : decode cX10_drop 26 = .ok (.iload_n 1, 1) := by decide +kernel
theorem dX10_drop_27 : decode cX10_drop 27 = .ok (.iaload, 1) := by decide +kernel
theorem dX10_drop_28 : decode cX10_drop 28 = .ok (.iload_n 2, 1) := by decide +kernel
theorem dX10_drop_29 : decode cX10_drop 29 = .ok (.invokestatic 132, 3) := by decide +kernel
theorem dX10_drop_32 : decode cX10_drop 32 = .ok (.ifCond .ne 6, 3) := by decide +kernel
theorem dX10_drop_35 : decode cX10_drop 35 = .ok (.bipush (-103), 2) := by decide +kernel
theorem dX10_drop_37 : decode cX10_drop 37 = .ok (.ireturn, 1) := by decide +kernel
theorem dX10_drop_38 : decode cX10_drop 38 = .ok (.aload_n 0, 1) := by decide +kernel
theorem dX10_drop_39 : decode cX10_drop 39 = .ok (.getfield 19, 3) := by decide +kernel
theorem dX10_drop_42 : decode cX10_drop 42 = .ok (.getfield 107, 3) := by decide +kernel
theorem dX10_drop_45 : decode cX10_drop 45 = .ok (.iload_n 1, 1) := by decide +kernel
theorem dX10_drop_46 : decode cX10_drop 46 = .ok (.dup2, 1) := by decide +kernel
theorem dX10_drop_47 : decode cX10_drop 47 = .ok (.iaload, 1) := by decide +kernel
theorem dX10_drop_48 : decode cX10_drop 48 = .ok (.iconst 1, 1) := by decide +kernel
theorem dX10_drop_49 : decode cX10_drop 49 = .ok (.iload_n 2, 1) := by decide +kernel
theorem dX10_drop_50 : decode cX10_drop 50 = .ok (.ishl, 1) := by decide +kernel
theorem dX10_drop_51 : decode cX10_drop 51 = .ok (.iconst (-1), 1) := by decide +kernel
theorem dX10_drop_52 : decode cX10_drop 52 = .ok (.ixor, 1) := by decide +kernel
theorem dX10_drop_53 : decode cX10_drop 53 = .ok (.iand, 1) := by decide +kernel
theorem dX10_drop_54 : decode cX10_drop 54 = .ok (.iastore, 1) := by decide +kernel
theorem dX10_drop_55 : decode cX10_drop 55 = .ok (.aload_n 0, 1) := by decide +kernel
theorem dX10_drop_56 : decode cX10_drop 56 = .ok (.getfield 19, 3) := by decide +kernel
theorem dX10_drop_59 : decode cX10_drop 59 = .ok (.getfield 107, 3) := by decide +kernel
theorem dX10_drop_62 : decode cX10_drop 62 = .ok (.iload_n 1, 1) := by decide +kernel
theorem dX10_drop_63 : decode cX10_drop 63 = .ok (.iaload, 1) := by decide +kernel
theorem dX10_drop_64 : decode cX10_drop 64 = .ok (.invokestatic 160, 3) := by decide +kernel
theorem dX10_drop_67 : decode cX10_drop 67 = .ok (.ireturn, 1) := by decide +kernel
theorem dX10_clear_0 : decode cX10_clear 0 = .ok (.iconst 0, 1) := by decide +kernel
theorem dX10_clear_1 : decode cX10_clear 1 = .ok (.istore_n 1, 1) := by decide +kernel
theorem dX10_clear_2 : decode cX10_clear 2 = .ok (.iconst 0, 1) := by decide +kernel
theorem dX10_clear_3 : decode cX10_clear 3 = .ok (.istore_n 2, 1) := by decide +kernel
theorem dX10_clear_4 : decode cX10_clear 4 = .ok (.iload_n 2, 1) := by decide +kernel
theorem dX10_clear_5 : decode cX10_clear 5 = .ok (.iconst 5, 1) := by decide +kernel
theorem dX10_clear_6 : decode cX10_clear 6 = .ok (.if_icmp .ge 34, 3) := by decide +kernel
theorem dX10_clear_9 : decode cX10_clear 9 = .ok (.iload_n 1, 1) := by decide +kernel
theorem dX10_clear_10 : decode cX10_clear 10 = .ok (.aload_n 0, 1) := by decide +kernel
theorem dX10_clear_11 : decode cX10_clear 11 = .ok (.getfield 19, 3) := by decide +kernel
theorem dX10_clear_14 : decode cX10_clear 14 = .ok (.getfield 107, 3) := by decide +kernel
theorem dX10_clear_17 : decode cX10_clear 17 = .ok (.iload_n 2, 1) := by decide +kernel
theorem dX10_clear_18 : decode cX10_clear 18 = .ok (.iaload, 1) := by decide +kernel
theorem dX10_clear_19 : decode cX10_clear 19 = .ok (.invokestatic 160, 3) := by decide +kernel
theorem dX10_clear_22 : decode cX10_clear 22 = .ok (.iadd, 1) := by decide +kernel
theorem dX10_clear_23 : decode cX10_clear 23 = .ok (.istore_n 1, 1) := by decide +kernel
theorem dX10_clear_24 : decode cX10_clear 24 = .ok (.aload_n 0, 1) := by decide +kernel
theorem dX10_clear_25 : decode cX10_clear 25 = .ok (.getfield 19, 3) := by decide +kernel
theorem dX10_clear_28 : decode cX10_clear 28 = .ok (.getfield 107, 3) := by decide +kernel
theorem dX10_clear_31 : decode cX10_clear 31 = .ok (.iload_n 2, 1) := by decide +kernel
theorem dX10_clear_32 : decode cX10_clear 32 = .ok (.iconst 0, 1) := by decide +kernel
theorem dX10_clear_33 : decode cX10_clear 33 = .ok (.iastore, 1) := by decide +kernel
theorem dX10_clear_34 : decode cX10_clear 34 = .ok (.iinc 2 1, 3) := by decide +kernel
theorem dX10_clear_37 : decode cX10_clear 37 = .ok (.goto (-33), 3) := by decide +kernel
theorem dX10_clear_40 : decode cX10_clear 40 = .ok (.iload_n 1, 1) := by decide +kernel
theorem dX10_clear_41 : decode cX10_clear 41 = .ok (.ireturn, 1) := by decide +kernel
theorem dX10_fill_0 : decode cX10_fill 0 = .ok (.aload_n 0, 1) := by decide +kernel
theorem dX10_fill_1 : decode cX10_fill 1 = .ok (.invokevirtual 165, 3) := by decide +kernel
theorem dX10_fill_4 : decode cX10_fill 4 = .ok (.ifCond .eq 12, 3) := by decide +kernel
theorem dX10_fill_7 : decode cX10_fill 7 = .ok (.aload_n 0, 1) := by decide +kernel
theorem dX10_fill_8 : decode cX10_fill 8 = .ok (.getfield 168, 3) := by decide +kernel
theorem dX10_fill_11 : decode cX10_fill 11 = .ok (.bipush 16, 2) := by decide +kernel
theorem dX10_fill_13 : decode cX10_fill 13 = .ok (.if_icmp .lt 6, 3) := by decide +kernel
theorem dX10_fill_16 : decode cX10_fill 16 = .ok (.bipush (-103), 2) := by decide +kernel
theorem dX10_fill_18 : decode cX10_fill 18 = .ok (.ireturn, 1) := by decide +kernel
theorem dX10_fill_19 : decode cX10_fill 19 = .ok (.aload_n 0, 1) := by decide +kernel
theorem dX10_fill_20 : decode cX10_fill 20 = .ok (.invokevirtual 171, 3) := by decide +kernel
theorem dX10_fill_23 : decode cX10_fill 23 = .ok (.istore_n 1, 1) := by decide +kernel
theorem dX10_fill_24 : decode cX10_fill 24 = .ok (.iconst 0, 1) := by decide +kernel
theorem dX10_fill_25 : decode cX10_fill 25 = .ok (.istore_n 2, 1) := by decide +kernel
theorem dX10_fill_26 : decode cX10_fill 26 = .ok (.iload_n 2, 1) := by decide +kernel
theorem dX10_fill_27 : decode cX10_fill 27 = .ok (.iconst 5, 1) := by decide +kernel
theorem dX10_fill_28 : decode cX10_fill 28 = .ok (.if_icmp .ge 27, 3) := by decide +kernel
theorem dX10_fill_31 : decode cX10_fill 31 = .ok (.aload_n 0, 1) := by decide +kernel
theorem dX10_fill_32 : decode cX10_fill 32 = .ok (.getfield 19, 3) := by decide +kernel
theorem dX10_fill_35 : decode cX10_fill 35 = .ok (.getfield 107, 3) := by decide +kernel
theorem dX10_fill_38 : decode cX10_fill 38 = .ok (.iload_n 2, 1) := by decide +kernel
theorem dX10_fill_39 : decode cX10_fill 39 = .ok (.aload_n 0, 1) := by decide +kernel
theorem dX10_fill_40 : decode cX10_fill 40 = .ok (.getfield 29, 3) := by decide +kernel
theorem dX10_fill_43 : decode cX10_fill 43 = .ok (.getfield 174, 3) := by decide +kernel
theorem dX10_fill_46 : decode cX10_fill 46 = .ok (.iload_n 2, 1) := by decide +kernel
theorem dX10_fill_47 : decode cX10_fill 47 = .ok (.iaload, 1) := by decide +kernel
theorem dX10_fill_48 : decode cX10_fill 48 = .ok (.iastore, 1) := by decide +kernel
theorem dX10_fill_49 : decode cX10_fill 49 = .ok (.iinc 2 1, 3) := by decide +kernel
theorem dX10_fill_52 : decode cX10_fill 52 = .ok (.goto (-26), 3) := by decide +kernel
theorem dX10_fill_55 : decode cX10_fill 55 = .ok (.iload_n 1, 1) := by decide +kernel
theorem dX10_fill_56 : decode cX10_fill 56 = .ok (.ireturn, 1) := by decide +kernel
theorem dX10_night_0 : decode cX10_night 0 = .ok (.aload_n 0, 1) := by decide +kernel
theorem dX10_night_1 : decode cX10_night 1 = .ok (.invokevirtual 165, 3) := by decide +kernel
theorem dX10_night_4 : decode cX10_night 4 = .ok (.ifCond .ne 6, 3) := by decide +kernel
theorem dX10_night_7 : decode cX10_night 7 = .ok (.bipush (-103), 2) := by decide +kernel
theorem dX10_night_9 : decode cX10_night 9 = .ok (.ireturn, 1) := by decide +kernel
theorem dX10_night_10 : decode cX10_night 10 = .ok (.aload_n 0, 1) := by decide +kernel
theorem dX10_night_11 : decode cX10_night 11 = .ok (.getfield 19, 3) := by decide +kernel
theorem dX10_night_14 : decode cX10_night 14 = .ok (.getfield 177, 3) := by decide +kernel
theorem dX10_night_17 : decode cX10_night 17 = .ok (.bipush 99, 2) := by decide +kernel
theorem dX10_night_19 : decode cX10_night 19 = .ok (.if_icmp .lt 6, 3) := by decide +kernel
theorem dX10_night_22 : decode cX10_night 22 = .ok (.bipush (-104), 2) := by decide +kernel
theorem dX10_night_24 : decode cX10_night 24 = .ok (.ireturn, 1) := by decide +kernel
theorem dX10_night_25 : decode cX10_night 25 = .ok (.iconst 0, 1) := by decide +kernel
theorem dX10_night_26 : decode cX10_night 26 = .ok (.istore_n 1, 1) := by decide +kernel
theorem dX10_night_27 : decode cX10_night 27 = .ok (.iconst 0, 1) := by decide +kernel
theorem dX10_night_28 : decode cX10_night 28 = .ok (.istore_n 2, 1) := by decide +kernel
theorem dX10_night_29 : decode cX10_night 29 = .ok (.iconst 0, 1) := by decide +kernel
theorem dX10_night_30 : decode cX10_night 30 = .ok (.istore_n 3, 1) := by decide +kernel
theorem dX10_night_31 : decode cX10_night 31 = .ok (.iload_n 3, 1) := by decide +kernel
theorem dX10_night_32 : decode cX10_night 32 = .ok (.aload_n 0, 1) := by decide +kernel
theorem dX10_night_33 : decode cX10_night 33 = .ok (.getfield 47, 3) := by decide +kernel
theorem dX10_night_36 : decode cX10_night 36 = .ok (.getfield 85, 3) := by decide +kernel
theorem dX10_night_39 : decode cX10_night 39 = .ok (.arraylength, 1) := by decide +kernel
theorem dX10_night_40 : decode cX10_night 40 = .ok (.if_icmp .ge 32, 3) := by decide +kernel
theorem dX10_night_43 : decode cX10_night 43 = .ok (.aload_n 0, 1) := by decide +kernel
theorem dX10_night_44 : decode cX10_night 44 = .ok (.iload_n 3, 1) := by decide +kernel
theorem dX10_night_45 : decode cX10_night 45 = .ok (.invokevirtual 111, 3) := by decide +kernel
theorem dX10_night_48 : decode cX10_night 48 = .ok (.ifCond .eq 18, 3) := by decide +kernel
theorem dX10_night_51 : decode cX10_night 51 = .ok (.iinc 2 1, 3) := by decide +kernel
theorem dX10_night_54 : decode cX10_night 54 = .ok (.iload_n 1, 1) := by decide +kernel
theorem dX10_night_55 : decode cX10_night 55 = .ok (.aload_n 0, 1) := by decide +kernel
theorem dX10_night_56 : decode cX10_night 56 = .ok (.getfield 19, 3) := by decide +kernel
theorem dX10_night_59 : decode cX10_night 59 = .ok (.getfield 107, 3) := by decide +kernel
theorem dX10_night_62 : decode cX10_night 62 = .ok (.iload_n 3, 1) := by decide +kernel
theorem dX10_night_63 : decode cX10_night 63 = .ok (.iaload, 1) := by decide +kernel
theorem dX10_night_64 : decode cX10_night 64 = .ok (.ior, 1) := by decide +kernel
theorem dX10_night_65 : decode cX10_night 65 = .ok (.istore_n 1, 1) := by decide +kernel
theorem dX10_night_66 : decode cX10_night 66 = .ok (.iinc 3 1, 3) := by decide +kernel
theorem dX10_night_69 : decode cX10_night 69 = .ok (.goto (-38), 3) := by decide +kernel
theorem dX10_night_72 : decode cX10_night 72 = .ok (.aload_n 0, 1) := by decide +kernel
theorem dX10_night_73 : decode cX10_night 73 = .ok (.getfield 19, 3) := by decide +kernel
theorem dX10_night_76 : decode cX10_night 76 = .ok (.iload_n 1, 1) := by decide +kernel
theorem dX10_night_77 : decode cX10_night 77 = .ok (.invokevirtual 180, 3) := by decide +kernel
theorem dX10_night_80 : decode cX10_night 80 = .ok (.aload_n 0, 1) := by decide +kernel
theorem dX10_night_81 : decode cX10_night 81 = .ok (.getfield 19, 3) := by decide +kernel
theorem dX10_night_84 : decode cX10_night 84 = .ok (.dup, 1) := by decide +kernel
theorem dX10_night_85 : decode cX10_night 85 = .ok (.getfield 177, 3) := by decide +kernel
theorem dX10_night_88 : decode cX10_night 88 = .ok (.iconst 1, 1) := by decide +kernel
theorem dX10_night_89 : decode cX10_night 89 = .ok (.iadd, 1) := by decide +kernel
theorem dX10_night_90 : decode cX10_night 90 = .ok (.putfield 177, 3) := by decide +kernel
theorem dX10_night_93 : decode cX10_night 93 = .ok (.aload_n 0, 1) := by decide +kernel
theorem dX10_night_94 : decode cX10_night 94 = .ok (.getfield 19, 3) := by decide +kernel
theorem dX10_night_97 : decode cX10_night 97 = .ok (.dup, 1) := by decide +kernel
theorem dX10_night_98 : decode cX10_night 98 = .ok (.getfield 184, 3) := by decide +kernel
theorem dX10_night_101 : decode cX10_night 101 = .ok (.iload_n 2, 1) := by decide +kernel
theorem dX10_night_102 : decode cX10_night 102 = .ok (.iadd, 1) := by decide +kernel
theorem dX10_night_103 : decode cX10_night 103 = .ok (.putfield 184, 3) := by decide +kernel
theorem dX10_night_106 : decode cX10_night 106 = .ok (.iload_n 2, 1) := by decide +kernel
theorem dX10_night_107 : decode cX10_night 107 = .ok (.ireturn, 1) := by decide +kernel
theorem dX10_move_0 : decode cX10_move 0 = .ok (.aload_n 0, 1) := by decide +kernel
theorem dX10_move_1 : decode cX10_move 1 = .ok (.invokevirtual 165, 3) := by decide +kernel
theorem dX10_move_4 : decode cX10_move 4 = .ok (.ifCond .ne 6, 3) := by decide +kernel
theorem dX10_move_7 : decode cX10_move 7 = .ok (.bipush (-103), 2) := by decide +kernel
theorem dX10_move_9 : decode cX10_move 9 = .ok (.ireturn, 1) := by decide +kernel
theorem dX10_move_10 : decode cX10_move 10 = .ok (.aload_n 0, 1) := by decide +kernel
theorem dX10_move_11 : decode cX10_move 11 = .ok (.getfield 19, 3) := by decide +kernel
theorem dX10_move_14 : decode cX10_move 14 = .ok (.iload_n 1, 1) := by decide +kernel
theorem dX10_move_15 : decode cX10_move 15 = .ok (.ifCond .eq 15, 3) := by decide +kernel
theorem dX10_move_18 : decode cX10_move 18 = .ok (.aload_n 0, 1) := by decide +kernel
theorem dX10_move_19 : decode cX10_move 19 = .ok (.getfield 19, 3) := by decide +kernel
theorem dX10_move_22 : decode cX10_move 22 = .ok (.getfield 187, 3) := by decide +kernel
theorem dX10_move_25 : decode cX10_move 25 = .ok (.iconst 1, 1) := by decide +kernel
theorem dX10_move_26 : decode cX10_move 26 = .ok (.iadd, 1) := by decide +kernel
theorem dX10_move_27 : decode cX10_move 27 = .ok (.goto 12, 3) := by decide +kernel
theorem dX10_move_30 : decode cX10_move 30 = .ok (.aload_n 0, 1) := by decide +kernel
theorem dX10_move_31 : decode cX10_move 31 = .ok (.getfield 19, 3) := by decide +kernel
theorem dX10_move_34 : decode cX10_move 34 = .ok (.getfield 187, 3) := by decide +kernel
theorem dX10_move_37 : decode cX10_move 37 = .ok (.iconst 1, 1) := by decide +kernel
theorem dX10_move_38 : decode cX10_move 38 = .ok (.isub, 1) := by decide +kernel
theorem dX10_move_39 : decode cX10_move 39 = .ok (.bipush 6, 2) := by decide +kernel
theorem dX10_move_41 : decode cX10_move 41 = .ok (.invokestatic 190, 3) := by decide +kernel
theorem dX10_move_44 : decode cX10_move 44 = .ok (.putfield 187, 3) := by decide +kernel
theorem dX10_move_47 : decode cX10_move 47 = .ok (.aload_n 0, 1) := by decide +kernel
theorem dX10_move_48 : decode cX10_move 48 = .ok (.getfield 19, 3) := by decide +kernel
theorem dX10_move_51 : decode cX10_move 51 = .ok (.dup, 1) := by decide +kernel
theorem dX10_move_52 : decode cX10_move 52 = .ok (.getfield 196, 3) := by decide +kernel
theorem dX10_move_55 : decode cX10_move 55 = .ok (.iconst 1, 1) := by decide +kernel
theorem dX10_move_56 : decode cX10_move 56 = .ok (.iadd, 1) := by decide +kernel
theorem dX10_move_57 : decode cX10_move 57 = .ok (.putfield 196, 3) := by decide +kernel
theorem dX10_move_60 : decode cX10_move 60 = .ok (.aload_n 0, 1) := by decide +kernel
theorem dX10_move_61 : decode cX10_move 61 = .ok (.getfield 19, 3) := by decide +kernel
theorem dX10_move_64 : decode cX10_move 64 = .ok (.getfield 187, 3) := by decide +kernel
theorem dX10_move_67 : decode cX10_move 67 = .ok (.ireturn, 1) := by decide +kernel
theorem dX10_letGo_0 : decode cX10_letGo 0 = .ok (.aload_n 0, 1) := by decide +kernel
theorem dX10_letGo_1 : decode cX10_letGo 1 = .ok (.iload_n 1, 1) := by decide +kernel
theorem dX10_letGo_2 : decode cX10_letGo 2 = .ok (.invokevirtual 126, 3) := by decide +kernel
theorem dX10_letGo_5 : decode cX10_letGo 5 = .ok (.ifCond .ne 6, 3) := by decide +kernel
theorem dX10_letGo_8 : decode cX10_letGo 8 = .ok (.bipush (-101), 2) := by decide +kernel
theorem dX10_letGo_10 : decode cX10_letGo 10 = .ok (.ireturn, 1) := by decide +kernel
theorem dX10_letGo_11 : decode cX10_letGo 11 = .ok (.aload_n 0, 1) := by decide +kernel
theorem dX10_letGo_12 : decode cX10_letGo 12 = .ok (.getfield 19, 3) := by decide +kernel
theorem dX10_letGo_15 : decode cX10_letGo 15 = .ok (.getfield 129, 3) := by decide +kernel
theorem dX10_letGo_18 : decode cX10_letGo 18 = .ok (.iload_n 1, 1) := by decide +kernel
theorem dX10_letGo_19 : decode cX10_letGo 19 = .ok (.invokestatic 132, 3) := by decide +kernel
theorem dX10_letGo_22 : decode cX10_letGo 22 = .ok (.ifCond .eq 22, 3) := by decide +kernel
theorem dX10_letGo_25 : decode cX10_letGo 25 = .ok (.aload_n 0, 1) := by decide +kernel
theorem dX10_letGo_26 : decode cX10_letGo 26 = .ok (.getfield 19, 3) := by decide +kernel
theorem dX10_letGo_29 : decode cX10_letGo 29 = .ok (.getfield 139, 3) := by decide +kernel
theorem dX10_letGo_32 : decode cX10_letGo 32 = .ok (.iload_n 1, 1) := by decide +kernel
theorem dX10_letGo_33 : decode cX10_letGo 33 = .ok (.iaload, 1) := by decide +kernel
theorem dX10_letGo_34 : decode cX10_letGo 34 = .ok (.aload_n 0, 1) := by decide +kernel
theorem dX10_letGo_35 : decode cX10_letGo 35 = .ok (.getfield 19, 3) := by decide +kernel
theorem dX10_letGo_38 : decode cX10_letGo 38 = .ok (.getfield 187, 3) := by decide +kernel
theorem dX10_letGo_41 : decode cX10_letGo 41 = .ok (.if_icmp .eq 6, 3) := by decide +kernel
theorem dX10_letGo_44 : decode cX10_letGo 44 = .ok (.bipush (-103), 2) := by decide +kernel
theorem dX10_letGo_46 : decode cX10_letGo 46 = .ok (.ireturn, 1) := by decide +kernel
theorem dX10_letGo_47 : decode cX10_letGo 47 = .ok (.aload_n 0, 1) := by decide +kernel
theorem dX10_letGo_48 : decode cX10_letGo 48 = .ok (.getfield 19, 3) := by decide +kernel
theorem dX10_letGo_51 : decode cX10_letGo 51 = .ok (.iload_n 1, 1) := by decide +kernel
theorem dX10_letGo_52 : decode cX10_letGo 52 = .ok (.invokevirtual 199, 3) := by decide +kernel
theorem dX10_letGo_55 : decode cX10_letGo 55 = .ok (.aload_n 0, 1) := by decide +kernel
theorem dX10_letGo_56 : decode cX10_letGo 56 = .ok (.getfield 19, 3) := by decide +kernel
theorem dX10_letGo_59 : decode cX10_letGo 59 = .ok (.getfield 129, 3) := by decide +kernel
theorem dX10_letGo_62 : decode cX10_letGo 62 = .ok (.invokestatic 160, 3) := by decide +kernel
theorem dX10_letGo_65 : decode cX10_letGo 65 = .ok (.ireturn, 1) := by decide +kernel
theorem dX10_call_0 : decode cX10_call 0 = .ok (.aload_n 0, 1) := by decide +kernel
theorem dX10_call_1 : decode cX10_call 1 = .ok (.iload_n 1, 1) := by decide +kernel
theorem dX10_call_2 : decode cX10_call 2 = .ok (.invokevirtual 126, 3) := by decide +kernel
theorem dX10_call_5 : decode cX10_call 5 = .ok (.ifCond .ne 6, 3) := by decide +kernel
theorem dX10_call_8 : decode cX10_call 8 = .ok (.bipush (-101), 2) := by decide +kernel
theorem dX10_call_10 : decode cX10_call 10 = .ok (.ireturn, 1) := by decide +kernel
theorem dX10_call_11 : decode cX10_call 11 = .ok (.iload_n 2, 1) := by decide +kernel
theorem dX10_call_12 : decode cX10_call 12 = .ok (.ifCond .lt 9, 3) := by decide +kernel
theorem dX10_call_15 : decode cX10_call 15 = .ok (.iload_n 2, 1) := by decide +kernel
theorem dX10_call_16 : decode cX10_call 16 = .ok (.bipush 9, 2) := by decide +kernel
theorem dX10_call_18 : decode cX10_call 18 = .ok (.if_icmp .le 6, 3) := by decide +kernel
theorem dX10_call_21 : decode cX10_call 21 = .ok (.bipush (-102), 2) := by decide +kernel
theorem dX10_call_23 : decode cX10_call 23 = .ok (.ireturn, 1) := by decide +kernel
theorem dX10_call_24 : decode cX10_call 24 = .ok (.aload_n 0, 1) := by decide +kernel
theorem dX10_call_25 : decode cX10_call 25 = .ok (.getfield 19, 3) := by decide +kernel
theorem dX10_call_28 : decode cX10_call 28 = .ok (.getfield 129, 3) := by decide +kernel
theorem dX10_call_31 : decode cX10_call 31 = .ok (.iload_n 1, 1) := by decide +kernel
theorem dX10_call_32 : decode cX10_call 32 = .ok (.invokestatic 132, 3) := by decide +kernel
theorem dX10_call_35 : decode cX10_call 35 = .ok (.ifCond .eq 6, 3) := by decide +kernel
theorem dX10_call_38 : decode cX10_call 38 = .ok (.bipush (-103), 2) := by decide +kernel
theorem dX10_call_40 : decode cX10_call 40 = .ok (.ireturn, 1) := by decide +kernel
theorem dX10_call_41 : decode cX10_call 41 = .ok (.aload_n 0, 1) := by decide +kernel
theorem dX10_call_42 : decode cX10_call 42 = .ok (.getfield 19, 3) := by decide +kernel
theorem dX10_call_45 : decode cX10_call 45 = .ok (.iload_n 1, 1) := by decide +kernel
theorem dX10_call_46 : decode cX10_call 46 = .ok (.iload_n 2, 1) := by decide +kernel
theorem dX10_call_47 : decode cX10_call 47 = .ok (.invokevirtual 202, 3) := by decide +kernel
theorem dX10_call_50 : decode cX10_call 50 = .ok (.aload_n 0, 1) := by decide +kernel
theorem dX10_call_51 : decode cX10_call 51 = .ok (.getfield 19, 3) := by decide +kernel
theorem dX10_call_54 : decode cX10_call 54 = .ok (.getfield 129, 3) := by decide +kernel
theorem dX10_call_57 : decode cX10_call 57 = .ok (.invokestatic 160, 3) := by decide +kernel
theorem dX10_call_60 : decode cX10_call 60 = .ok (.ireturn, 1) := by decide +kernel
theorem dX10_most_0 : decode cX10_most 0 = .ok (.iload_n 1, 1) := by decide +kernel
theorem dX10_most_1 : decode cX10_most 1 = .ok (.ifCond .eq 18, 3) := by decide +kernel
theorem dX10_most_4 : decode cX10_most 4 = .ok (.iload_n 1, 1) := by decide +kernel
theorem dX10_most_5 : decode cX10_most 5 = .ok (.bipush 10, 2) := by decide +kernel
theorem dX10_most_7 : decode cX10_most 7 = .ok (.if_icmp .lt 9, 3) := by decide +kernel
theorem dX10_most_10 : decode cX10_most 10 = .ok (.iload_n 1, 1) := by decide +kernel
theorem dX10_most_11 : decode cX10_most 11 = .ok (.bipush 14, 2) := by decide +kernel
theorem dX10_most_13 : decode cX10_most 13 = .ok (.if_icmp .le 6, 3) := by decide +kernel
theorem dX10_most_16 : decode cX10_most 16 = .ok (.bipush (-102), 2) := by decide +kernel
theorem dX10_most_18 : decode cX10_most 18 = .ok (.ireturn, 1) := by decide +kernel
theorem dX10_most_19 : decode cX10_most 19 = .ok (.aload_n 0, 1) := by decide +kernel
theorem dX10_most_20 : decode cX10_most 20 = .ok (.invokevirtual 165, 3) := by decide +kernel
theorem dX10_most_23 : decode cX10_most 23 = .ok (.ifCond .eq 12, 3) := by decide +kernel
theorem dX10_most_26 : decode cX10_most 26 = .ok (.aload_n 0, 1) := by decide +kernel
theorem dX10_most_27 : decode cX10_most 27 = .ok (.getfield 168, 3) := by decide +kernel
theorem dX10_most_30 : decode cX10_most 30 = .ok (.bipush 16, 2) := by decide +kernel
theorem dX10_most_32 : decode cX10_most 32 = .ok (.if_icmp .lt 6, 3) := by decide +kernel
theorem dX10_most_35 : decode cX10_most 35 = .ok (.bipush (-103), 2) := by decide +kernel
theorem dX10_most_37 : decode cX10_most 37 = .ok (.ireturn, 1) := by decide +kernel
theorem dX10_most_38 : decode cX10_most 38 = .ok (.aload_n 0, 1) := by decide +kernel
theorem dX10_most_39 : decode cX10_most 39 = .ok (.invokevirtual 171, 3) := by decide +kernel
theorem dX10_most_42 : decode cX10_most 42 = .ok (.istore_n 2, 1) := by decide +kernel
theorem dX10_most_43 : decode cX10_most 43 = .ok (.iload_n 1, 1) := by decide +kernel
theorem dX10_most_44 : decode cX10_most 44 = .ok (.ifCond .ne 7, 3) := by decide +kernel
theorem dX10_most_47 : decode cX10_most 47 = .ok (.iload_n 2, 1) := by decide +kernel
theorem dX10_most_48 : decode cX10_most 48 = .ok (.goto 15, 3) := by decide +kernel
theorem dX10_most_51 : decode cX10_most 51 = .ok (.aload_n 0, 1) := by decide +kernel
theorem dX10_most_52 : decode cX10_most 52 = .ok (.getfield 29, 3) := by decide +kernel
theorem dX10_most_55 : decode cX10_most 55 = .ok (.getfield 174, 3) := by decide +kernel
theorem dX10_most_58 : decode cX10_most 58 = .ok (.iload_n 1, 1) := by decide +kernel
theorem dX10_most_59 : decode cX10_most 59 = .ok (.bipush 10, 2) := by decide +kernel
theorem dX10_most_61 : decode cX10_most 61 = .ok (.isub, 1) := by decide +kernel
theorem dX10_most_62 : decode cX10_most 62 = .ok (.iaload, 1) := by decide +kernel
theorem dX10_most_63 : decode cX10_most 63 = .ok (.ireturn, 1) := by decide +kernel
theorem dX10_fewest_0 : decode cX10_fewest 0 = .ok (.iload_n 1, 1) := by decide +kernel
theorem dX10_fewest_1 : decode cX10_fewest 1 = .ok (.ifCond .eq 11, 3) := by decide +kernel
theorem dX10_fewest_4 : decode cX10_fewest 4 = .ok (.iload_n 1, 1) := by decide +kernel
theorem dX10_fewest_5 : decode cX10_fewest 5 = .ok (.iconst 1, 1) := by decide +kernel
theorem dX10_fewest_6 : decode cX10_fewest 6 = .ok (.if_icmp .eq 6, 3) := by decide +kernel
theorem dX10_fewest_9 : decode cX10_fewest 9 = .ok (.bipush (-102), 2) := by decide +kernel
theorem dX10_fewest_11 : decode cX10_fewest 11 = .ok (.ireturn, 1) := by decide +kernel
theorem dX10_fewest_12 : decode cX10_fewest 12 = .ok (.aload_n 0, 1) := by decide +kernel
theorem dX10_fewest_13 : decode cX10_fewest 13 = .ok (.invokevirtual 165, 3) := by decide +kernel
theorem dX10_fewest_16 : decode cX10_fewest 16 = .ok (.ifCond .eq 12, 3) := by decide +kernel
theorem dX10_fewest_19 : decode cX10_fewest 19 = .ok (.aload_n 0, 1) := by decide +kernel
theorem dX10_fewest_20 : decode cX10_fewest 20 = .ok (.getfield 206, 3) := by decide +kernel
theorem dX10_fewest_23 : decode cX10_fewest 23 = .ok (.bipush 6, 2) := by decide +kernel
theorem dX10_fewest_25 : decode cX10_fewest 25 = .ok (.if_icmp .lt 6, 3) := by decide +kernel
theorem dX10_fewest_28 : decode cX10_fewest 28 = .ok (.bipush (-103), 2) := by decide +kernel
theorem dX10_fewest_30 : decode cX10_fewest 30 = .ok (.ireturn, 1) := by decide +kernel
theorem dX10_fewest_31 : decode cX10_fewest 31 = .ok (.aload_n 0, 1) := by decide +kernel
theorem dX10_fewest_32 : decode cX10_fewest 32 = .ok (.dup, 1) := by decide +kernel
theorem dX10_fewest_33 : decode cX10_fewest 33 = .ok (.getfield 206, 3) := by decide +kernel
theorem dX10_fewest_36 : decode cX10_fewest 36 = .ok (.iconst 1, 1) := by decide +kernel
theorem dX10_fewest_37 : decode cX10_fewest 37 = .ok (.iadd, 1) := by decide +kernel
theorem dX10_fewest_38 : decode cX10_fewest 38 = .ok (.putfield 206, 3) := by decide +kernel
theorem dX10_fewest_41 : decode cX10_fewest 41 = .ok (.aload_n 0, 1) := by decide +kernel
theorem dX10_fewest_42 : decode cX10_fewest 42 = .ok (.getfield 29, 3) := by decide +kernel
theorem dX10_fewest_45 : decode cX10_fewest 45 = .ok (.aload_n 0, 1) := by decide +kernel
theorem dX10_fewest_46 : decode cX10_fewest 46 = .ok (.getfield 47, 3) := by decide +kernel
theorem dX10_fewest_49 : decode cX10_fewest 49 = .ok (.aload_n 0, 1) := by decide +kernel
theorem dX10_fewest_50 : decode cX10_fewest 50 = .ok (.getfield 19, 3) := by decide +kernel
theorem dX10_fewest_53 : decode cX10_fewest 53 = .ok (.getfield 136, 3) := by decide +kernel
theorem dX10_fewest_56 : decode cX10_fewest 56 = .ok (.invokevirtual 209, 3) := by decide +kernel
theorem dX10_fewest_59 : decode cX10_fewest 59 = .ok (.aload_n 0, 1) := by decide +kernel
theorem dX10_fewest_60 : decode cX10_fewest 60 = .ok (.getfield 29, 3) := by decide +kernel
theorem dX10_fewest_63 : decode cX10_fewest 63 = .ok (.aload_n 0, 1) := by decide +kernel
theorem dX10_fewest_64 : decode cX10_fewest 64 = .ok (.getfield 19, 3) := by decide +kernel
theorem dX10_fewest_67 : decode cX10_fewest 67 = .ok (.getfield 129, 3) := by decide +kernel
theorem dX10_fewest_70 : decode cX10_fewest 70 = .ok (.invokevirtual 213, 3) := by decide +kernel
theorem dX10_fewest_73 : decode cX10_fewest 73 = .ok (.istore_n 2, 1) := by decide +kernel
theorem dX10_fewest_74 : decode cX10_fewest 74 = .ok (.iload_n 1, 1) := by decide +kernel
theorem dX10_fewest_75 : decode cX10_fewest 75 = .ok (.iconst 1, 1) := by decide +kernel
theorem dX10_fewest_76 : decode cX10_fewest 76 = .ok (.if_icmp .eq 8, 3) := by decide +kernel
theorem dX10_fewest_79 : decode cX10_fewest 79 = .ok (.iload_n 2, 1) := by decide +kernel
theorem dX10_fewest_80 : decode cX10_fewest 80 = .ok (.iconst (-1), 1) := by decide +kernel
theorem dX10_fewest_81 : decode cX10_fewest 81 = .ok (.if_icmp .ne 7, 3) := by decide +kernel
theorem dX10_fewest_84 : decode cX10_fewest 84 = .ok (.iload_n 2, 1) := by decide +kernel
theorem dX10_fewest_85 : decode cX10_fewest 85 = .ok (.goto 7, 3) := by decide +kernel
theorem dX10_fewest_88 : decode cX10_fewest 88 = .ok (.iload_n 2, 1) := by decide +kernel
theorem dX10_fewest_89 : decode cX10_fewest 89 = .ok (.invokestatic 160, 3) := by decide +kernel
theorem dX10_fewest_92 : decode cX10_fewest 92 = .ok (.ireturn, 1) := by decide +kernel
theorem dX10_spare_0 : decode cX10_spare 0 = .ok (.aload_n 0, 1) := by decide +kernel
theorem dX10_spare_1 : decode cX10_spare 1 = .ok (.invokevirtual 165, 3) := by decide +kernel
theorem dX10_spare_4 : decode cX10_spare 4 = .ok (.ifCond .eq 12, 3) := by decide +kernel
theorem dX10_spare_7 : decode cX10_spare 7 = .ok (.aload_n 0, 1) := by decide +kernel
theorem dX10_spare_8 : decode cX10_spare 8 = .ok (.getfield 216, 3) := by decide +kernel
theorem dX10_spare_11 : decode cX10_spare 11 = .ok (.bipush 6, 2) := by decide +kernel
theorem dX10_spare_13 : decode cX10_spare 13 = .ok (.if_icmp .lt 6, 3) := by decide +kernel
theorem dX10_spare_16 : decode cX10_spare 16 = .ok (.bipush (-103), 2) := by decide +kernel
theorem dX10_spare_18 : decode cX10_spare 18 = .ok (.ireturn, 1) := by decide +kernel
theorem dX10_spare_19 : decode cX10_spare 19 = .ok (.aload_n 0, 1) := by decide +kernel
theorem dX10_spare_20 : decode cX10_spare 20 = .ok (.dup, 1) := by decide +kernel
theorem dX10_spare_21 : decode cX10_spare 21 = .ok (.getfield 216, 3) := by decide +kernel
theorem dX10_spare_24 : decode cX10_spare 24 = .ok (.iconst 1, 1) := by decide +kernel
theorem dX10_spare_25 : decode cX10_spare 25 = .ok (.iadd, 1) := by decide +kernel
theorem dX10_spare_26 : decode cX10_spare 26 = .ok (.putfield 216, 3) := by decide +kernel
theorem dX10_spare_29 : decode cX10_spare 29 = .ok (.aload_n 0, 1) := by decide +kernel
theorem dX10_spare_30 : decode cX10_spare 30 = .ok (.getfield 29, 3) := by decide +kernel
theorem dX10_spare_33 : decode cX10_spare 33 = .ok (.aload_n 0, 1) := by decide +kernel
theorem dX10_spare_34 : decode cX10_spare 34 = .ok (.getfield 47, 3) := by decide +kernel
theorem dX10_spare_37 : decode cX10_spare 37 = .ok (.aload_n 0, 1) := by decide +kernel
theorem dX10_spare_38 : decode cX10_spare 38 = .ok (.getfield 19, 3) := by decide +kernel
theorem dX10_spare_41 : decode cX10_spare 41 = .ok (.getfield 136, 3) := by decide +kernel
theorem dX10_spare_44 : decode cX10_spare 44 = .ok (.invokevirtual 209, 3) := by decide +kernel
theorem dX10_spare_47 : decode cX10_spare 47 = .ok (.aload_n 0, 1) := by decide +kernel
theorem dX10_spare_48 : decode cX10_spare 48 = .ok (.getfield 29, 3) := by decide +kernel
theorem dX10_spare_51 : decode cX10_spare 51 = .ok (.aload_n 0, 1) := by decide +kernel
theorem dX10_spare_52 : decode cX10_spare 52 = .ok (.getfield 19, 3) := by decide +kernel
theorem dX10_spare_55 : decode cX10_spare 55 = .ok (.getfield 129, 3) := by decide +kernel
theorem dX10_spare_58 : decode cX10_spare 58 = .ok (.invokevirtual 219, 3) := by decide +kernel
theorem dX10_spare_61 : decode cX10_spare 61 = .ok (.ireturn, 1) := by decide +kernel
theorem dX10_wants_0 : decode cX10_wants 0 = .ok (.iload_n 1, 1) := by decide +kernel
theorem dX10_wants_1 : decode cX10_wants 1 = .ok (.ifCond .lt 9, 3) := by decide +kernel
theorem dX10_wants_4 : decode cX10_wants 4 = .ok (.iload_n 1, 1) := by decide +kernel
theorem dX10_wants_5 : decode cX10_wants 5 = .ok (.bipush 11, 2) := by decide +kernel
theorem dX10_wants_7 : decode cX10_wants 7 = .ok (.if_icmp .le 6, 3) := by decide +kernel
theorem dX10_wants_10 : decode cX10_wants 10 = .ok (.bipush (-102), 2) := by decide +kernel
theorem dX10_wants_12 : decode cX10_wants 12 = .ok (.ireturn, 1) := by decide +kernel
theorem dX10_wants_13 : decode cX10_wants 13 = .ok (.aload_n 0, 1) := by decide +kernel
theorem dX10_wants_14 : decode cX10_wants 14 = .ok (.invokevirtual 165, 3) := by decide +kernel
theorem dX10_wants_17 : decode cX10_wants 17 = .ok (.ifCond .eq 14, 3) := by decide +kernel
theorem dX10_wants_20 : decode cX10_wants 20 = .ok (.aload_n 0, 1) := by decide +kernel
theorem dX10_wants_21 : decode cX10_wants 21 = .ok (.getfield 47, 3) := by decide +kernel
theorem dX10_wants_24 : decode cX10_wants 24 = .ok (.iload_n 1, 1) := by decide +kernel
theorem dX10_wants_25 : decode cX10_wants 25 = .ok (.invokevirtual 222, 3) := by decide +kernel
theorem dX10_wants_28 : decode cX10_wants 28 = .ok (.goto 5, 3) := by decide +kernel
theorem dX10_wants_31 : decode cX10_wants 31 = .ok (.bipush (-103), 2) := by decide +kernel
theorem dX10_wants_33 : decode cX10_wants 33 = .ok (.ireturn, 1) := by decide +kernel
theorem dX10_route_0 : decode cX10_route 0 = .ok (.iload_n 1, 1) := by decide +kernel
theorem dX10_route_1 : decode cX10_route 1 = .ok (.ifCond .eq 26, 3) := by decide +kernel
theorem dX10_route_4 : decode cX10_route 4 = .ok (.iload_n 1, 1) := by decide +kernel
theorem dX10_route_5 : decode cX10_route 5 = .ok (.aload_n 0, 1) := by decide +kernel
theorem dX10_route_6 : decode cX10_route 6 = .ok (.getfield 19, 3) := by decide +kernel
theorem dX10_route_9 : decode cX10_route 9 = .ok (.getfield 129, 3) := by decide +kernel
theorem dX10_route_12 : decode cX10_route 12 = .ok (.iconst (-1), 1) := by decide +kernel
theorem dX10_route_13 : decode cX10_route 13 = .ok (.ixor, 1) := by decide +kernel
theorem dX10_route_14 : decode cX10_route 14 = .ok (.iand, 1) := by decide +kernel
theorem dX10_route_15 : decode cX10_route 15 = .ok (.ifCond .ne 12, 3) := by decide +kernel
theorem dX10_route_18 : decode cX10_route 18 = .ok (.iload_n 2, 1) := by decide +kernel
theorem dX10_route_19 : decode cX10_route 19 = .ok (.ifCond .eq 11, 3) := by decide +kernel
theorem dX10_route_22 : decode cX10_route 22 = .ok (.iload_n 2, 1) := by decide +kernel
theorem dX10_route_23 : decode cX10_route 23 = .ok (.iconst 1, 1) := by decide +kernel
theorem dX10_route_24 : decode cX10_route 24 = .ok (.if_icmp .eq 6, 3) := by decide +kernel
theorem dX10_route_27 : decode cX10_route 27 = .ok (.bipush (-102), 2) := by decide +kernel
theorem dX10_route_29 : decode cX10_route 29 = .ok (.ireturn, 1) := by decide +kernel
theorem dX10_route_30 : decode cX10_route 30 = .ok (.aload_n 0, 1) := by decide +kernel
theorem dX10_route_31 : decode cX10_route 31 = .ok (.getfield 19, 3) := by decide +kernel
theorem dX10_route_34 : decode cX10_route 34 = .ok (.iload_n 1, 1) := by decide +kernel
theorem dX10_route_35 : decode cX10_route 35 = .ok (.invokevirtual 225, 3) := by decide +kernel
theorem dX10_route_38 : decode cX10_route 38 = .ok (.istore_n 3, 1) := by decide +kernel
theorem dX10_route_39 : decode cX10_route 39 = .ok (.iload_n 2, 1) := by decide +kernel
theorem dX10_route_40 : decode cX10_route 40 = .ok (.ifCond .ne 10, 3) := by decide +kernel
theorem dX10_route_43 : decode cX10_route 43 = .ok (.iload_n 3, 1) := by decide +kernel
theorem dX10_route_44 : decode cX10_route 44 = .ok (.invokestatic 228, 3) := by decide +kernel
theorem dX10_route_47 : decode cX10_route 47 = .ok (.goto 7, 3) := by decide +kernel
theorem dX10_route_50 : decode cX10_route 50 = .ok (.iload_n 3, 1) := by decide +kernel
theorem dX10_route_51 : decode cX10_route 51 = .ok (.invokestatic 231, 3) := by decide +kernel
theorem dX10_route_54 : decode cX10_route 54 = .ok (.ireturn, 1) := by decide +kernel
theorem dX10_see_0 : decode cX10_see 0 = .ok (.aload_n 0, 1) := by decide +kernel
theorem dX10_see_1 : decode cX10_see 1 = .ok (.iload_n 1, 1) := by decide +kernel
theorem dX10_see_2 : decode cX10_see 2 = .ok (.invokevirtual 126, 3) := by decide +kernel
theorem dX10_see_5 : decode cX10_see 5 = .ok (.ifCond .eq 11, 3) := by decide +kernel
theorem dX10_see_8 : decode cX10_see 8 = .ok (.aload_n 0, 1) := by decide +kernel
theorem dX10_see_9 : decode cX10_see 9 = .ok (.iload_n 2, 1) := by decide +kernel
theorem dX10_see_10 : decode cX10_see 10 = .ok (.invokevirtual 89, 3) := by decide +kernel
theorem dX10_see_13 : decode cX10_see 13 = .ok (.ifCond .ne 6, 3) := by decide +kernel
theorem dX10_see_16 : decode cX10_see 16 = .ok (.bipush (-101), 2) := by decide +kernel
theorem dX10_see_18 : decode cX10_see 18 = .ok (.ireturn, 1) := by decide +kernel
theorem dX10_see_19 : decode cX10_see 19 = .ok (.aload_n 0, 1) := by decide +kernel
theorem dX10_see_20 : decode cX10_see 20 = .ok (.getfield 47, 3) := by decide +kernel
theorem dX10_see_23 : decode cX10_see 23 = .ok (.getfield 85, 3) := by decide +kernel
theorem dX10_see_26 : decode cX10_see 26 = .ok (.iload_n 2, 1) := by decide +kernel
theorem dX10_see_27 : decode cX10_see 27 = .ok (.aaload, 1) := by decide +kernel
theorem dX10_see_28 : decode cX10_see 28 = .ok (.invokevirtual 234, 3) := by decide +kernel
theorem dX10_see_31 : decode cX10_see 31 = .ok (.istore 4, 2) := by decide +kernel
theorem dX10_see_33 : decode cX10_see 33 = .ok (.aload_n 0, 1) := by decide +kernel
theorem dX10_see_34 : decode cX10_see 34 = .ok (.getfield 19, 3) := by decide +kernel
theorem dX10_see_37 : decode cX10_see 37 = .ok (.iload_n 1, 1) := by decide +kernel
theorem dX10_see_38 : decode cX10_see 38 = .ok (.iload_n 3, 1) := by decide +kernel
theorem dX10_see_39 : decode cX10_see 39 = .ok (.ifCond .eq 8, 3) := by decide +kernel
theorem dX10_see_42 : decode cX10_see 42 = .ok (.iload 4, 2) := by decide +kernel
theorem dX10_see_44 : decode cX10_see 44 = .ok (.goto 11, 3) := by decide +kernel
theorem dX10_see_47 : decode cX10_see 47 = .ok (.sipush 1023, 3) := by decide +kernel
theorem dX10_see_50 : decode cX10_see 50 = .ok (.iload 4, 2) := by decide +kernel
theorem dX10_see_52 : decode cX10_see 52 = .ok (.iconst (-1), 1) := by decide +kernel
theorem dX10_see_53 : decode cX10_see 53 = .ok (.ixor, 1) := by decide +kernel
theorem dX10_see_54 : decode cX10_see 54 = .ok (.iand, 1) := by decide +kernel
theorem dX10_see_55 : decode cX10_see 55 = .ok (.invokevirtual 237, 3) := by decide +kernel
theorem dX10_see_58 : decode cX10_see 58 = .ok (.ifCond .eq 13, 3) := by decide +kernel
theorem dX10_see_61 : decode cX10_see 61 = .ok (.aload_n 0, 1) := by decide +kernel
theorem dX10_see_62 : decode cX10_see 62 = .ok (.getfield 19, 3) := by decide +kernel
theorem dX10_see_65 : decode cX10_see 65 = .ok (.getfield 240, 3) := by decide +kernel
theorem dX10_see_68 : decode cX10_see 68 = .ok (.goto 5, 3) := by decide +kernel
theorem dX10_see_71 : decode cX10_see 71 = .ok (.bipush (-104), 2) := by decide +kernel
theorem dX10_see_73 : decode cX10_see 73 = .ok (.ireturn, 1) := by decide +kernel
theorem dX10_forget_0 : decode cX10_forget 0 = .ok (.aload_n 0, 1) := by decide +kernel
theorem dX10_forget_1 : decode cX10_forget 1 = .ok (.getfield 19, 3) := by decide +kernel
theorem dX10_forget_4 : decode cX10_forget 4 = .ok (.getfield 240, 3) := by decide +kernel
theorem dX10_forget_7 : decode cX10_forget 7 = .ok (.istore_n 1, 1) := by decide +kernel
theorem dX10_forget_8 : decode cX10_forget 8 = .ok (.aload_n 0, 1) := by decide +kernel
theorem dX10_forget_9 : decode cX10_forget 9 = .ok (.getfield 19, 3) := by decide +kernel
theorem dX10_forget_12 : decode cX10_forget 12 = .ok (.iconst 0, 1) := by decide +kernel
theorem dX10_forget_13 : decode cX10_forget 13 = .ok (.putfield 240, 3) := by decide +kernel
theorem dX10_forget_16 : decode cX10_forget 16 = .ok (.iload_n 1, 1) := by decide +kernel
theorem dX10_forget_17 : decode cX10_forget 17 = .ok (.ireturn, 1) := by decide +kernel
theorem dX10_tours_0 : decode cX10_tours 0 = .ok (.iload_n 1, 1) := by decide +kernel
theorem dX10_tours_1 : decode cX10_tours 1 = .ok (.iconst 1, 1) := by decide +kernel
theorem dX10_tours_2 : decode cX10_tours 2 = .ok (.if_icmp .lt 22, 3) := by decide +kernel
theorem dX10_tours_5 : decode cX10_tours 5 = .ok (.iload_n 1, 1) := by decide +kernel
theorem dX10_tours_6 : decode cX10_tours 6 = .ok (.bipush 40, 2) := by decide +kernel
theorem dX10_tours_8 : decode cX10_tours 8 = .ok (.if_icmp .gt 16, 3) := by decide +kernel
theorem dX10_tours_11 : decode cX10_tours 11 = .ok (.iload_n 2, 1) := by decide +kernel
theorem dX10_tours_12 : decode cX10_tours 12 = .ok (.ifCond .lt 12, 3) := by decide +kernel
theorem dX10_tours_15 : decode cX10_tours 15 = .ok (.iload_n 3, 1) := by decide +kernel
theorem dX10_tours_16 : decode cX10_tours 16 = .ok (.ifCond .lt 8, 3) := by decide +kernel
theorem dX10_tours_19 : decode cX10_tours 19 = .ok (.iload_n 3, 1) := by decide +kernel
theorem dX10_tours_20 : decode cX10_tours 20 = .ok (.iconst 2, 1) := by decide +kernel
theorem dX10_tours_21 : decode cX10_tours 21 = .ok (.if_icmp .le 6, 3) := by decide +kernel
theorem dX10_tours_24 : decode cX10_tours 24 = .ok (.bipush (-102), 2) := by decide +kernel
theorem dX10_tours_26 : decode cX10_tours 26 = .ok (.ireturn, 1) := by decide +kernel
theorem dX10_tours_27 : decode cX10_tours 27 = .ok (.aload_n 0, 1) := by decide +kernel
theorem dX10_tours_28 : decode cX10_tours 28 = .ok (.invokevirtual 165, 3) := by decide +kernel
theorem dX10_tours_31 : decode cX10_tours 31 = .ok (.ifCond .ne 6, 3) := by decide +kernel
theorem dX10_tours_34 : decode cX10_tours 34 = .ok (.bipush (-103), 2) := by decide +kernel
theorem dX10_tours_36 : decode cX10_tours 36 = .ok (.ireturn, 1) := by decide +kernel
theorem dX10_tours_37 : decode cX10_tours 37 = .ok (.aload_n 0, 1) := by decide +kernel
theorem dX10_tours_38 : decode cX10_tours 38 = .ok (.getfield 36, 3) := by decide +kernel
theorem dX10_tours_41 : decode cX10_tours 41 = .ok (.aload_n 0, 1) := by decide +kernel
theorem dX10_tours_42 : decode cX10_tours 42 = .ok (.getfield 47, 3) := by decide +kernel
theorem dX10_tours_45 : decode cX10_tours 45 = .ok (.iload_n 1, 1) := by decide +kernel
theorem dX10_tours_46 : decode cX10_tours 46 = .ok (.iload_n 2, 1) := by decide +kernel
theorem dX10_tours_47 : decode cX10_tours 47 = .ok (.invokevirtual 243, 3) := by decide +kernel
theorem dX10_tours_50 : decode cX10_tours 50 = .ok (.iload_n 3, 1) := by decide +kernel
theorem dX10_tours_51 : decode cX10_tours 51 = .ok (.lookupswitch 41 #[(0, 25), (1, 33)], 25) := by decide +kernel
theorem dX10_tours_76 : decode cX10_tours 76 = .ok (.aload_n 0, 1) := by decide +kernel
theorem dX10_tours_77 : decode cX10_tours 77 = .ok (.getfield 36, 3) := by decide +kernel
theorem dX10_tours_80 : decode cX10_tours 80 = .ok (.getfield 247, 3) := by decide +kernel
theorem dX10_tours_83 : decode cX10_tours 83 = .ok (.ireturn, 1) := by decide +kernel
theorem dX10_tours_84 : decode cX10_tours 84 = .ok (.aload_n 0, 1) := by decide +kernel
theorem dX10_tours_85 : decode cX10_tours 85 = .ok (.getfield 36, 3) := by decide +kernel
theorem dX10_tours_88 : decode cX10_tours 88 = .ok (.getfield 250, 3) := by decide +kernel
theorem dX10_tours_91 : decode cX10_tours 91 = .ok (.ireturn, 1) := by decide +kernel
theorem dX10_tours_92 : decode cX10_tours 92 = .ok (.aload_n 0, 1) := by decide +kernel
theorem dX10_tours_93 : decode cX10_tours 93 = .ok (.getfield 36, 3) := by decide +kernel
theorem dX10_tours_96 : decode cX10_tours 96 = .ok (.getfield 253, 3) := by decide +kernel
theorem dX10_tours_99 : decode cX10_tours 99 = .ok (.ireturn, 1) := by decide +kernel
theorem dX10_image_0 : decode cX10_image 0 = .ok (.aload_n 0, 1) := by decide +kernel
theorem dX10_image_1 : decode cX10_image 1 = .ok (.invokevirtual 165, 3) := by decide +kernel
theorem dX10_image_4 : decode cX10_image 4 = .ok (.ifCond .ne 6, 3) := by decide +kernel
theorem dX10_image_7 : decode cX10_image 7 = .ok (.bipush (-103), 2) := by decide +kernel
theorem dX10_image_9 : decode cX10_image 9 = .ok (.ireturn, 1) := by decide +kernel
theorem dX10_image_10 : decode cX10_image 10 = .ok (.aload_n 0, 1) := by decide +kernel
theorem dX10_image_11 : decode cX10_image 11 = .ok (.getfield 23, 3) := by decide +kernel
theorem dX10_image_14 : decode cX10_image 14 = .ok (.aload_n 0, 1) := by decide +kernel
theorem dX10_image_15 : decode cX10_image 15 = .ok (.getfield 19, 3) := by decide +kernel
theorem dX10_image_18 : decode cX10_image 18 = .ok (.invokevirtual 256, 3) := by decide +kernel
theorem dX10_image_21 : decode cX10_image 21 = .ok (.aload_n 0, 1) := by decide +kernel
theorem dX10_image_22 : decode cX10_image 22 = .ok (.iconst 1, 1) := by decide +kernel
theorem dX10_image_23 : decode cX10_image 23 = .ok (.putfield 78, 3) := by decide +kernel
theorem dX10_image_26 : decode cX10_image 26 = .ok (.aload_n 0, 1) := by decide +kernel
theorem dX10_image_27 : decode cX10_image 27 = .ok (.getfield 19, 3) := by decide +kernel
theorem dX10_image_30 : decode cX10_image 30 = .ok (.getfield 177, 3) := by decide +kernel
theorem dX10_image_33 : decode cX10_image 33 = .ok (.ireturn, 1) := by decide +kernel
theorem dX10_restore_0 : decode cX10_restore 0 = .ok (.aload_n 0, 1) := by decide +kernel
theorem dX10_restore_1 : decode cX10_restore 1 = .ok (.getfield 78, 3) := by decide +kernel
theorem dX10_restore_4 : decode cX10_restore 4 = .ok (.ifCond .ne 6, 3) := by decide +kernel
theorem dX10_restore_7 : decode cX10_restore 7 = .ok (.bipush (-103), 2) := by decide +kernel
theorem dX10_restore_9 : decode cX10_restore 9 = .ok (.ireturn, 1) := by decide +kernel
theorem dX10_restore_10 : decode cX10_restore 10 = .ok (.aload_n 0, 1) := by decide +kernel
theorem dX10_restore_11 : decode cX10_restore 11 = .ok (.getfield 19, 3) := by decide +kernel
theorem dX10_restore_14 : decode cX10_restore 14 = .ok (.aload_n 0, 1) := by decide +kernel
theorem dX10_restore_15 : decode cX10_restore 15 = .ok (.getfield 23, 3) := by decide +kernel
theorem dX10_restore_18 : decode cX10_restore 18 = .ok (.invokevirtual 256, 3) := by decide +kernel
theorem dX10_restore_21 : decode cX10_restore 21 = .ok (.aload_n 0, 1) := by decide +kernel
theorem dX10_restore_22 : decode cX10_restore 22 = .ok (.getfield 19, 3) := by decide +kernel
theorem dX10_restore_25 : decode cX10_restore 25 = .ok (.getfield 177, 3) := by decide +kernel
theorem dX10_restore_28 : decode cX10_restore 28 = .ok (.ireturn, 1) := by decide +kernel
theorem dX10_count_0 : decode cX10_count 0 = .ok (.iload_n 1, 1) := by decide +kernel
theorem dX10_count_1 : decode cX10_count 1 = .ok (.tableswitch 208 0 16 #[83, 92, 100, 111, 116, 124, 132, 140, 148, 156, 164, 172, 180, 188, 193, 198, 203], 83) := by decide +kernel
theorem dX10_count_84 : decode cX10_count 84 = .ok (.aload_n 0, 1) := by decide +kernel
theorem dX10_count_85 : decode cX10_count 85 = .ok (.getfield 47, 3) := by decide +kernel
theorem dX10_count_88 : decode cX10_count 88 = .ok (.getfield 85, 3) := by decide +kernel
theorem dX10_count_91 : decode cX10_count 91 = .ok (.arraylength, 1) := by decide +kernel
theorem dX10_count_92 : decode cX10_count 92 = .ok (.ireturn, 1) := by decide +kernel
theorem dX10_count_93 : decode cX10_count 93 = .ok (.aload_n 0, 1) := by decide +kernel
theorem dX10_count_94 : decode cX10_count 94 = .ok (.getfield 47, 3) := by decide +kernel
theorem dX10_count_97 : decode cX10_count 97 = .ok (.getfield 71, 3) := by decide +kernel
theorem dX10_count_100 : decode cX10_count 100 = .ok (.ireturn, 1) := by decide +kernel
theorem dX10_count_101 : decode cX10_count 101 = .ok (.aload_n 0, 1) := by decide +kernel
theorem dX10_count_102 : decode cX10_count 102 = .ok (.getfield 19, 3) := by decide +kernel
theorem dX10_count_105 : decode cX10_count 105 = .ok (.getfield 129, 3) := by decide +kernel
theorem dX10_count_108 : decode cX10_count 108 = .ok (.invokestatic 160, 3) := by decide +kernel
theorem dX10_count_111 : decode cX10_count 111 = .ok (.ireturn, 1) := by decide +kernel
theorem dX10_count_112 : decode cX10_count 112 = .ok (.aload_n 0, 1) := by decide +kernel
theorem dX10_count_113 : decode cX10_count 113 = .ok (.invokevirtual 260, 3) := by decide +kernel
theorem dX10_count_116 : decode cX10_count 116 = .ok (.ireturn, 1) := by decide +kernel
theorem dX10_count_117 : decode cX10_count 117 = .ok (.aload_n 0, 1) := by decide +kernel
theorem dX10_count_118 : decode cX10_count 118 = .ok (.getfield 47, 3) := by decide +kernel
theorem dX10_count_121 : decode cX10_count 121 = .ok (.invokevirtual 263, 3) := by decide +kernel
theorem dX10_count_124 : decode cX10_count 124 = .ok (.ireturn, 1) := by decide +kernel
theorem dX10_count_125 : decode cX10_count 125 = .ok (.aload_n 0, 1) := by decide +kernel
theorem dX10_count_126 : decode cX10_count 126 = .ok (.getfield 19, 3) := by decide +kernel
theorem dX10_count_129 : decode cX10_count 129 = .ok (.getfield 177, 3) := by decide +kernel
theorem dX10_count_132 : decode cX10_count 132 = .ok (.ireturn, 1) := by decide +kernel
theorem dX10_count_133 : decode cX10_count 133 = .ok (.aload_n 0, 1) := by decide +kernel
theorem dX10_count_134 : decode cX10_count 134 = .ok (.getfield 19, 3) := by decide +kernel
theorem dX10_count_137 : decode cX10_count 137 = .ok (.getfield 184, 3) := by decide +kernel
theorem dX10_count_140 : decode cX10_count 140 = .ok (.ireturn, 1) := by decide +kernel
theorem dX10_count_141 : decode cX10_count 141 = .ok (.aload_n 0, 1) := by decide +kernel
theorem dX10_count_142 : decode cX10_count 142 = .ok (.getfield 19, 3) := by decide +kernel
theorem dX10_count_145 : decode cX10_count 145 = .ok (.getfield 196, 3) := by decide +kernel
theorem dX10_count_148 : decode cX10_count 148 = .ok (.ireturn, 1) := by decide +kernel
theorem dX10_count_149 : decode cX10_count 149 = .ok (.aload_n 0, 1) := by decide +kernel
theorem dX10_count_150 : decode cX10_count 150 = .ok (.getfield 19, 3) := by decide +kernel
theorem dX10_count_153 : decode cX10_count 153 = .ok (.getfield 187, 3) := by decide +kernel
theorem dX10_count_156 : decode cX10_count 156 = .ok (.ireturn, 1) := by decide +kernel
theorem dX10_count_157 : decode cX10_count 157 = .ok (.aload_n 0, 1) := by decide +kernel
theorem dX10_count_158 : decode cX10_count 158 = .ok (.getfield 19, 3) := by decide +kernel
theorem dX10_count_161 : decode cX10_count 161 = .ok (.getfield 266, 3) := by decide +kernel
theorem dX10_count_164 : decode cX10_count 164 = .ok (.ireturn, 1) := by decide +kernel
theorem dX10_count_165 : decode cX10_count 165 = .ok (.aload_n 0, 1) := by decide +kernel
theorem dX10_count_166 : decode cX10_count 166 = .ok (.getfield 19, 3) := by decide +kernel
theorem dX10_count_169 : decode cX10_count 169 = .ok (.getfield 269, 3) := by decide +kernel
theorem dX10_count_172 : decode cX10_count 172 = .ok (.ireturn, 1) := by decide +kernel
theorem dX10_count_173 : decode cX10_count 173 = .ok (.aload_n 0, 1) := by decide +kernel
theorem dX10_count_174 : decode cX10_count 174 = .ok (.getfield 19, 3) := by decide +kernel
theorem dX10_count_177 : decode cX10_count 177 = .ok (.getfield 240, 3) := by decide +kernel
theorem dX10_count_180 : decode cX10_count 180 = .ok (.ireturn, 1) := by decide +kernel
theorem dX10_count_181 : decode cX10_count 181 = .ok (.aload_n 0, 1) := by decide +kernel
theorem dX10_count_182 : decode cX10_count 182 = .ok (.getfield 10, 3) := by decide +kernel
theorem dX10_count_185 : decode cX10_count 185 = .ok (.getfield 55, 3) := by decide +kernel
theorem dX10_count_188 : decode cX10_count 188 = .ok (.ireturn, 1) := by decide +kernel
theorem dX10_count_189 : decode cX10_count 189 = .ok (.aload_n 0, 1) := by decide +kernel
theorem dX10_count_190 : decode cX10_count 190 = .ok (.getfield 82, 3) := by decide +kernel
theorem dX10_count_193 : decode cX10_count 193 = .ok (.ireturn, 1) := by decide +kernel
theorem dX10_count_194 : decode cX10_count 194 = .ok (.aload_n 0, 1) := by decide +kernel
theorem dX10_count_195 : decode cX10_count 195 = .ok (.getfield 168, 3) := by decide +kernel
theorem dX10_count_198 : decode cX10_count 198 = .ok (.ireturn, 1) := by decide +kernel
theorem dX10_count_199 : decode cX10_count 199 = .ok (.aload_n 0, 1) := by decide +kernel
theorem dX10_count_200 : decode cX10_count 200 = .ok (.getfield 206, 3) := by decide +kernel
theorem dX10_count_203 : decode cX10_count 203 = .ok (.ireturn, 1) := by decide +kernel
theorem dX10_count_204 : decode cX10_count 204 = .ok (.aload_n 0, 1) := by decide +kernel
theorem dX10_count_205 : decode cX10_count 205 = .ok (.getfield 216, 3) := by decide +kernel
theorem dX10_count_208 : decode cX10_count 208 = .ok (.ireturn, 1) := by decide +kernel
theorem dX10_count_209 : decode cX10_count 209 = .ok (.bipush (-102), 2) := by decide +kernel
theorem dX10_count_211 : decode cX10_count 211 = .ok (.ireturn, 1) := by decide +kernel
theorem dX10_digest_0 : decode cX10_digest 0 = .ok (.aload_n 0, 1) := by decide +kernel
theorem dX10_digest_1 : decode cX10_digest 1 = .ok (.ldc2_w 270, 3) := by decide +kernel
theorem dX10_digest_4 : decode cX10_digest 4 = .ok (.invokevirtual 272, 3) := by decide +kernel
theorem dX10_digest_7 : decode cX10_digest 7 = .ok (.lstore_n 1, 1) := by decide +kernel
theorem dX10_digest_8 : decode cX10_digest 8 = .ok (.iconst 0, 1) := by decide +kernel
theorem dX10_digest_9 : decode cX10_digest 9 = .ok (.istore_n 3, 1) := by decide +kernel
theorem dX10_digest_10 : decode cX10_digest 10 = .ok (.iload_n 3, 1) := by decide +kernel
theorem dX10_digest_11 : decode cX10_digest 11 = .ok (.aload_n 0, 1) := by decide +kernel
theorem dX10_digest_12 : decode cX10_digest 12 = .ok (.getfield 10, 3) := by decide +kernel
theorem dX10_digest_15 : decode cX10_digest 15 = .ok (.getfield 55, 3) := by decide +kernel
theorem dX10_digest_18 : decode cX10_digest 18 = .ok (.if_icmp .ge 26, 3) := by decide +kernel
theorem dX10_digest_21 : decode cX10_digest 21 = .ok (.ldc2_w 276, 3) := by decide +kernel
theorem dX10_digest_24 : decode cX10_digest 24 = .ok (.lload_n 1, 1) := by decide +kernel
theorem dX10_digest_25 : decode cX10_digest 25 = .ok (.lmul, 1) := by decide +kernel
theorem dX10_digest_26 : decode cX10_digest 26 = .ok (.aload_n 0, 1) := by decide +kernel
theorem dX10_digest_27 : decode cX10_digest 27 = .ok (.getfield 10, 3) := by decide +kernel
theorem dX10_digest_30 : decode cX10_digest 30 = .ok (.getfield 278, 3) := by decide +kernel
theorem dX10_digest_33 : decode cX10_digest 33 = .ok (.iload_n 3, 1) := by decide +kernel
theorem dX10_digest_34 : decode cX10_digest 34 = .ok (.iaload, 1) := by decide +kernel
theorem dX10_digest_35 : decode cX10_digest 35 = .ok (.i2l, 1) := by decide +kernel
theorem dX10_digest_36 : decode cX10_digest 36 = .ok (.ladd, 1) := by decide +kernel
theorem dX10_digest_37 : decode cX10_digest 37 = .ok (.lstore_n 1, 1) := by decide +kernel
theorem dX10_digest_38 : decode cX10_digest 38 = .ok (.iinc 3 1, 3) := by decide +kernel
theorem dX10_digest_41 : decode cX10_digest 41 = .ok (.goto (-31), 3) := by decide +kernel
theorem dX10_digest_44 : decode cX10_digest 44 = .ok (.iconst 0, 1) := by decide +kernel
theorem dX10_digest_45 : decode cX10_digest 45 = .ok (.istore_n 3, 1) := by decide +kernel
theorem dX10_digest_46 : decode cX10_digest 46 = .ok (.iload_n 3, 1) := by decide +kernel
theorem dX10_digest_47 : decode cX10_digest 47 = .ok (.bipush 16, 2) := by decide +kernel
theorem dX10_digest_49 : decode cX10_digest 49 = .ok (.if_icmp .gt 22, 3) := by decide +kernel
theorem dX10_digest_52 : decode cX10_digest 52 = .ok (.ldc2_w 276, 3) := by decide +kernel
theorem dX10_digest_55 : decode cX10_digest 55 = .ok (.lload_n 1, 1) := by decide +kernel
theorem dX10_digest_56 : decode cX10_digest 56 = .ok (.lmul, 1) := by decide +kernel
theorem dX10_digest_57 : decode cX10_digest 57 = .ok (.aload_n 0, 1) := by decide +kernel
theorem dX10_digest_58 : decode cX10_digest 58 = .ok (.iload_n 3, 1) := by decide +kernel
theorem dX10_digest_59 : decode cX10_digest 59 = .ok (.invokevirtual 281, 3) := by decide +kernel
theorem dX10_digest_62 : decode cX10_digest 62 = .ok (.i2l, 1) := by decide +kernel
theorem dX10_digest_63 : decode cX10_digest 63 = .ok (.ladd, 1) := by decide +kernel
theorem dX10_digest_64 : decode cX10_digest 64 = .ok (.lstore_n 1, 1) := by decide +kernel
theorem dX10_digest_65 : decode cX10_digest 65 = .ok (.iinc 3 1, 3) := by decide +kernel
theorem dX10_digest_68 : decode cX10_digest 68 = .ok (.goto (-22), 3) := by decide +kernel
theorem dX10_digest_71 : decode cX10_digest 71 = .ok (.lload_n 1, 1) := by decide +kernel
theorem dX10_digest_72 : decode cX10_digest 72 = .ok (.lreturn, 1) := by decide +kernel
theorem dX10_digestOfShow_0 : decode cX10_digestOfShow 0 = .ok (.lload_n 1, 1) := by decide +kernel
theorem dX10_digestOfShow_1 : decode cX10_digestOfShow 1 = .ok (.lstore_n 3, 1) := by decide +kernel
theorem dX10_digestOfShow_2 : decode cX10_digestOfShow 2 = .ok (.iconst 0, 1) := by decide +kernel
theorem dX10_digestOfShow_3 : decode cX10_digestOfShow 3 = .ok (.istore 5, 2) := by decide +kernel
theorem dX10_digestOfShow_5 : decode cX10_digestOfShow 5 = .ok (.iload 5, 2) := by decide +kernel
theorem dX10_digestOfShow_7 : decode cX10_digestOfShow 7 = .ok (.aload_n 0, 1) := by decide +kernel
theorem dX10_digestOfShow_8 : decode cX10_digestOfShow 8 = .ok (.getfield 47, 3) := by decide +kernel
theorem dX10_digestOfShow_11 : decode cX10_digestOfShow 11 = .ok (.getfield 85, 3) := by decide +kernel
theorem dX10_digestOfShow_14 : decode cX10_digestOfShow 14 = .ok (.arraylength, 1) := by decide +kernel
theorem dX10_digestOfShow_15 : decode cX10_digestOfShow 15 = .ok (.if_icmp .ge 41, 3) := by decide +kernel
theorem dX10_digestOfShow_18 : decode cX10_digestOfShow 18 = .ok (.iconst 0, 1) := by decide +kernel
theorem dX10_digestOfShow_19 : decode cX10_digestOfShow 19 = .ok (.istore 6, 2) := by decide +kernel
theorem dX10_digestOfShow_21 : decode cX10_digestOfShow 21 = .ok (.iload 6, 2) := by decide +kernel
theorem dX10_digestOfShow_23 : decode cX10_digestOfShow 23 = .ok (.bipush 8, 2) := by decide +kernel
theorem dX10_digestOfShow_25 : decode cX10_digestOfShow 25 = .ok (.if_icmp .gt 25, 3) := by decide +kernel
theorem dX10_digestOfShow_28 : decode cX10_digestOfShow 28 = .ok (.ldc2_w 276, 3) := by decide +kernel
theorem dX10_digestOfShow_31 : decode cX10_digestOfShow 31 = .ok (.lload_n 3, 1) := by decide +kernel
theorem dX10_digestOfShow_32 : decode cX10_digestOfShow 32 = .ok (.lmul, 1) := by decide +kernel
theorem dX10_digestOfShow_33 : decode cX10_digestOfShow 33 = .ok (.aload_n 0, 1) := by decide +kernel
theorem dX10_digestOfShow_34 : decode cX10_digestOfShow 34 = .ok (.iload 5, 2) := by decide +kernel
theorem dX10_digestOfShow_36 : decode cX10_digestOfShow 36 = .ok (.iload 6, 2) := by decide +kernel
theorem dX10_digestOfShow_38 : decode cX10_digestOfShow 38 = .ok (.invokevirtual 284, 3) := by decide +kernel
theorem dX10_digestOfShow_41 : decode cX10_digestOfShow 41 = .ok (.i2l, 1) := by decide +kernel
theorem dX10_digestOfShow_42 : decode cX10_digestOfShow 42 = .ok (.ladd, 1) := by decide +kernel
theorem dX10_digestOfShow_43 : decode cX10_digestOfShow 43 = .ok (.lstore_n 3, 1) := by decide +kernel
theorem dX10_digestOfShow_44 : decode cX10_digestOfShow 44 = .ok (.iinc 6 1, 3) := by decide +kernel
theorem dX10_digestOfShow_47 : decode cX10_digestOfShow 47 = .ok (.goto (-26), 3) := by decide +kernel
theorem dX10_digestOfShow_50 : decode cX10_digestOfShow 50 = .ok (.iinc 5 1, 3) := by decide +kernel
theorem dX10_digestOfShow_53 : decode cX10_digestOfShow 53 = .ok (.goto (-48), 3) := by decide +kernel
theorem dX10_digestOfShow_56 : decode cX10_digestOfShow 56 = .ok (.iconst 0, 1) := by decide +kernel
theorem dX10_digestOfShow_57 : decode cX10_digestOfShow 57 = .ok (.istore 5, 2) := by decide +kernel
theorem dX10_digestOfShow_59 : decode cX10_digestOfShow 59 = .ok (.iload 5, 2) := by decide +kernel
theorem dX10_digestOfShow_61 : decode cX10_digestOfShow 61 = .ok (.aload_n 0, 1) := by decide +kernel
theorem dX10_digestOfShow_62 : decode cX10_digestOfShow 62 = .ok (.getfield 47, 3) := by decide +kernel
theorem dX10_digestOfShow_65 : decode cX10_digestOfShow 65 = .ok (.getfield 71, 3) := by decide +kernel
theorem dX10_digestOfShow_68 : decode cX10_digestOfShow 68 = .ok (.if_icmp .ge 41, 3) := by decide +kernel
theorem dX10_digestOfShow_71 : decode cX10_digestOfShow 71 = .ok (.iconst 0, 1) := by decide +kernel
theorem dX10_digestOfShow_72 : decode cX10_digestOfShow 72 = .ok (.istore 6, 2) := by decide +kernel
theorem dX10_digestOfShow_74 : decode cX10_digestOfShow 74 = .ok (.iload 6, 2) := by decide +kernel
theorem dX10_digestOfShow_76 : decode cX10_digestOfShow 76 = .ok (.bipush 7, 2) := by decide +kernel
theorem dX10_digestOfShow_78 : decode cX10_digestOfShow 78 = .ok (.if_icmp .gt 25, 3) := by decide +kernel
theorem dX10_digestOfShow_81 : decode cX10_digestOfShow 81 = .ok (.ldc2_w 276, 3) := by decide +kernel
theorem dX10_digestOfShow_84 : decode cX10_digestOfShow 84 = .ok (.lload_n 3, 1) := by decide +kernel
theorem dX10_digestOfShow_85 : decode cX10_digestOfShow 85 = .ok (.lmul, 1) := by decide +kernel
theorem dX10_digestOfShow_86 : decode cX10_digestOfShow 86 = .ok (.aload_n 0, 1) := by decide +kernel
theorem dX10_digestOfShow_87 : decode cX10_digestOfShow 87 = .ok (.iload 5, 2) := by decide +kernel
theorem dX10_digestOfShow_89 : decode cX10_digestOfShow 89 = .ok (.iload 6, 2) := by decide +kernel
theorem dX10_digestOfShow_91 : decode cX10_digestOfShow 91 = .ok (.invokevirtual 287, 3) := by decide +kernel
theorem dX10_digestOfShow_94 : decode cX10_digestOfShow 94 = .ok (.i2l, 1) := by decide +kernel
theorem dX10_digestOfShow_95 : decode cX10_digestOfShow 95 = .ok (.ladd, 1) := by decide +kernel
theorem dX10_digestOfShow_96 : decode cX10_digestOfShow 96 = .ok (.lstore_n 3, 1) := by decide +kernel
theorem dX10_digestOfShow_97 : decode cX10_digestOfShow 97 = .ok (.iinc 6 1, 3) := by decide +kernel
theorem dX10_digestOfShow_100 : decode cX10_digestOfShow 100 = .ok (.goto (-26), 3) := by decide +kernel
theorem dX10_digestOfShow_103 : decode cX10_digestOfShow 103 = .ok (.iinc 5 1, 3) := by decide +kernel
theorem dX10_digestOfShow_106 : decode cX10_digestOfShow 106 = .ok (.goto (-47), 3) := by decide +kernel
theorem dX10_digestOfShow_109 : decode cX10_digestOfShow 109 = .ok (.aload_n 0, 1) := by decide +kernel
theorem dX10_digestOfShow_110 : decode cX10_digestOfShow 110 = .ok (.invokevirtual 165, 3) := by decide +kernel
theorem dX10_digestOfShow_113 : decode cX10_digestOfShow 113 = .ok (.ifCond .eq 33, 3) := by decide +kernel
theorem dX10_digestOfShow_116 : decode cX10_digestOfShow 116 = .ok (.iconst 0, 1) := by decide +kernel
theorem dX10_digestOfShow_117 : decode cX10_digestOfShow 117 = .ok (.istore 5, 2) := by decide +kernel
theorem dX10_digestOfShow_119 : decode cX10_digestOfShow 119 = .ok (.iload 5, 2) := by decide +kernel
theorem dX10_digestOfShow_121 : decode cX10_digestOfShow 121 = .ok (.bipush 11, 2) := by decide +kernel
theorem dX10_digestOfShow_123 : decode cX10_digestOfShow 123 = .ok (.if_icmp .gt 23, 3) := by decide +kernel
theorem dX10_digestOfShow_126 : decode cX10_digestOfShow 126 = .ok (.ldc2_w 276, 3) := by decide +kernel
theorem dX10_digestOfShow_129 : decode cX10_digestOfShow 129 = .ok (.lload_n 3, 1) := by decide +kernel
theorem dX10_digestOfShow_130 : decode cX10_digestOfShow 130 = .ok (.lmul, 1) := by decide +kernel
theorem dX10_digestOfShow_131 : decode cX10_digestOfShow 131 = .ok (.aload_n 0, 1) := by decide +kernel
theorem dX10_digestOfShow_132 : decode cX10_digestOfShow 132 = .ok (.iload 5, 2) := by decide +kernel
theorem dX10_digestOfShow_134 : decode cX10_digestOfShow 134 = .ok (.invokevirtual 290, 3) := by decide +kernel
theorem dX10_digestOfShow_137 : decode cX10_digestOfShow 137 = .ok (.i2l, 1) := by decide +kernel
theorem dX10_digestOfShow_138 : decode cX10_digestOfShow 138 = .ok (.ladd, 1) := by decide +kernel
theorem dX10_digestOfShow_139 : decode cX10_digestOfShow 139 = .ok (.lstore_n 3, 1) := by decide +kernel
theorem dX10_digestOfShow_140 : decode cX10_digestOfShow 140 = .ok (.iinc 5 1, 3) := by decide +kernel
theorem dX10_digestOfShow_143 : decode cX10_digestOfShow 143 = .ok (.goto (-24), 3) := by decide +kernel
theorem dX10_digestOfShow_146 : decode cX10_digestOfShow 146 = .ok (.aload_n 0, 1) := by decide +kernel
theorem dX10_digestOfShow_147 : decode cX10_digestOfShow 147 = .ok (.getfield 19, 3) := by decide +kernel
theorem dX10_digestOfShow_150 : decode cX10_digestOfShow 150 = .ok (.getfield 129, 3) := by decide +kernel
theorem dX10_digestOfShow_153 : decode cX10_digestOfShow 153 = .ok (.ifCond .eq 43, 3) := by decide +kernel
theorem dX10_digestOfShow_156 : decode cX10_digestOfShow 156 = .ok (.ldc2_w 276, 3) := by decide +kernel
theorem dX10_digestOfShow_159 : decode cX10_digestOfShow 159 = .ok (.lload_n 3, 1) := by decide +kernel
theorem dX10_digestOfShow_160 : decode cX10_digestOfShow 160 = .ok (.lmul, 1) := by decide +kernel
theorem dX10_digestOfShow_161 : decode cX10_digestOfShow 161 = .ok (.aload_n 0, 1) := by decide +kernel
theorem dX10_digestOfShow_162 : decode cX10_digestOfShow 162 = .ok (.aload_n 0, 1) := by decide +kernel
theorem dX10_digestOfShow_163 : decode cX10_digestOfShow 163 = .ok (.getfield 19, 3) := by decide +kernel
theorem dX10_digestOfShow_166 : decode cX10_digestOfShow 166 = .ok (.getfield 129, 3) := by decide +kernel
theorem dX10_digestOfShow_169 : decode cX10_digestOfShow 169 = .ok (.iconst 0, 1) := by decide +kernel
theorem dX10_digestOfShow_170 : decode cX10_digestOfShow 170 = .ok (.invokevirtual 293, 3) := by decide +kernel
theorem dX10_digestOfShow_173 : decode cX10_digestOfShow 173 = .ok (.i2l, 1) := by decide +kernel
theorem dX10_digestOfShow_174 : decode cX10_digestOfShow 174 = .ok (.ladd, 1) := by decide +kernel
theorem dX10_digestOfShow_175 : decode cX10_digestOfShow 175 = .ok (.lstore_n 3, 1) := by decide +kernel
theorem dX10_digestOfShow_176 : decode cX10_digestOfShow 176 = .ok (.ldc2_w 276, 3) := by decide +kernel
theorem dX10_digestOfShow_179 : decode cX10_digestOfShow 179 = .ok (.lload_n 3, 1) := by decide +kernel
theorem dX10_digestOfShow_180 : decode cX10_digestOfShow 180 = .ok (.lmul, 1) := by decide +kernel
theorem dX10_digestOfShow_181 : decode cX10_digestOfShow 181 = .ok (.aload_n 0, 1) := by decide +kernel
theorem dX10_digestOfShow_182 : decode cX10_digestOfShow 182 = .ok (.aload_n 0, 1) := by decide +kernel
theorem dX10_digestOfShow_183 : decode cX10_digestOfShow 183 = .ok (.getfield 19, 3) := by decide +kernel
theorem dX10_digestOfShow_186 : decode cX10_digestOfShow 186 = .ok (.getfield 129, 3) := by decide +kernel
theorem dX10_digestOfShow_189 : decode cX10_digestOfShow 189 = .ok (.iconst 1, 1) := by decide +kernel
theorem dX10_digestOfShow_190 : decode cX10_digestOfShow 190 = .ok (.invokevirtual 293, 3) := by decide +kernel
theorem dX10_digestOfShow_193 : decode cX10_digestOfShow 193 = .ok (.i2l, 1) := by decide +kernel
theorem dX10_digestOfShow_194 : decode cX10_digestOfShow 194 = .ok (.ladd, 1) := by decide +kernel
theorem dX10_digestOfShow_195 : decode cX10_digestOfShow 195 = .ok (.lstore_n 3, 1) := by decide +kernel
theorem dX10_digestOfShow_196 : decode cX10_digestOfShow 196 = .ok (.lload_n 3, 1) := by decide +kernel
theorem dX10_digestOfShow_197 : decode cX10_digestOfShow 197 = .ok (.lreturn, 1) := by decide +kernel
theorem dX10_hasShow_0 : decode cX10_hasShow 0 = .ok (.aload_n 0, 1) := by decide +kernel
theorem dX10_hasShow_1 : decode cX10_hasShow 1 = .ok (.getfield 47, 3) := by decide +kernel
theorem dX10_hasShow_4 : decode cX10_hasShow 4 = .ok (.getfield 85, 3) := by decide +kernel
theorem dX10_hasShow_7 : decode cX10_hasShow 7 = .ok (.arraylength, 1) := by decide +kernel
theorem dX10_hasShow_8 : decode cX10_hasShow 8 = .ok (.ifCond .le 7, 3) := by decide +kernel
theorem dX10_hasShow_11 : decode cX10_hasShow 11 = .ok (.iconst 1, 1) := by decide +kernel
theorem dX10_hasShow_12 : decode cX10_hasShow 12 = .ok (.goto 4, 3) := by decide +kernel
theorem dX10_hasShow_15 : decode cX10_hasShow 15 = .ok (.iconst 0, 1) := by decide +kernel
theorem dX10_hasShow_16 : decode cX10_hasShow 16 = .ok (.ireturn, 1) := by decide +kernel
theorem dX10_isTrick_0 : decode cX10_isTrick 0 = .ok (.iload_n 1, 1) := by decide +kernel
theorem dX10_isTrick_1 : decode cX10_isTrick 1 = .ok (.ifCond .lt 19, 3) := by decide +kernel
theorem dX10_isTrick_4 : decode cX10_isTrick 4 = .ok (.iload_n 1, 1) := by decide +kernel
theorem dX10_isTrick_5 : decode cX10_isTrick 5 = .ok (.aload_n 0, 1) := by decide +kernel
theorem dX10_isTrick_6 : decode cX10_isTrick 6 = .ok (.getfield 47, 3) := by decide +kernel
theorem dX10_isTrick_9 : decode cX10_isTrick 9 = .ok (.getfield 85, 3) := by decide +kernel
theorem dX10_isTrick_12 : decode cX10_isTrick 12 = .ok (.arraylength, 1) := by decide +kernel
theorem dX10_isTrick_13 : decode cX10_isTrick 13 = .ok (.if_icmp .ge 7, 3) := by decide +kernel
theorem dX10_isTrick_16 : decode cX10_isTrick 16 = .ok (.iconst 1, 1) := by decide +kernel
theorem dX10_isTrick_17 : decode cX10_isTrick 17 = .ok (.goto 4, 3) := by decide +kernel
theorem dX10_isTrick_20 : decode cX10_isTrick 20 = .ok (.iconst 0, 1) := by decide +kernel
theorem dX10_isTrick_21 : decode cX10_isTrick 21 = .ok (.ireturn, 1) := by decide +kernel
theorem dX10_isNumber_0 : decode cX10_isNumber 0 = .ok (.iload_n 1, 1) := by decide +kernel
theorem dX10_isNumber_1 : decode cX10_isNumber 1 = .ok (.ifCond .lt 18, 3) := by decide +kernel
theorem dX10_isNumber_4 : decode cX10_isNumber 4 = .ok (.iload_n 1, 1) := by decide +kernel
theorem dX10_isNumber_5 : decode cX10_isNumber 5 = .ok (.aload_n 0, 1) := by decide +kernel
theorem dX10_isNumber_6 : decode cX10_isNumber 6 = .ok (.getfield 47, 3) := by decide +kernel
theorem dX10_isNumber_9 : decode cX10_isNumber 9 = .ok (.getfield 71, 3) := by decide +kernel
theorem dX10_isNumber_12 : decode cX10_isNumber 12 = .ok (.if_icmp .ge 7, 3) := by decide +kernel
theorem dX10_isNumber_15 : decode cX10_isNumber 15 = .ok (.iconst 1, 1) := by decide +kernel
theorem dX10_isNumber_16 : decode cX10_isNumber 16 = .ok (.goto 4, 3) := by decide +kernel
theorem dX10_isNumber_19 : decode cX10_isNumber 19 = .ok (.iconst 0, 1) := by decide +kernel
theorem dX10_isNumber_20 : decode cX10_isNumber 20 = .ok (.ireturn, 1) := by decide +kernel
theorem dX10_isDoneNow_0 : decode cX10_isDoneNow 0 = .ok (.aload_n 0, 1) := by decide +kernel
theorem dX10_isDoneNow_1 : decode cX10_isDoneNow 1 = .ok (.getfield 47, 3) := by decide +kernel
theorem dX10_isDoneNow_4 : decode cX10_isDoneNow 4 = .ok (.iload_n 1, 1) := by decide +kernel
theorem dX10_isDoneNow_5 : decode cX10_isDoneNow 5 = .ok (.aload_n 0, 1) := by decide +kernel
theorem dX10_isDoneNow_6 : decode cX10_isDoneNow 6 = .ok (.getfield 19, 3) := by decide +kernel
theorem dX10_isDoneNow_9 : decode cX10_isDoneNow 9 = .ok (.getfield 107, 3) := by decide +kernel
theorem dX10_isDoneNow_12 : decode cX10_isDoneNow 12 = .ok (.iload_n 1, 1) := by decide +kernel
theorem dX10_isDoneNow_13 : decode cX10_isDoneNow 13 = .ok (.iaload, 1) := by decide +kernel
theorem dX10_isDoneNow_14 : decode cX10_isDoneNow 14 = .ok (.aload_n 0, 1) := by decide +kernel
theorem dX10_isDoneNow_15 : decode cX10_isDoneNow 15 = .ok (.getfield 19, 3) := by decide +kernel
theorem dX10_isDoneNow_18 : decode cX10_isDoneNow 18 = .ok (.getfield 136, 3) := by decide +kernel
theorem dX10_isDoneNow_21 : decode cX10_isDoneNow 21 = .ok (.invokevirtual 296, 3) := by decide +kernel
theorem dX10_isDoneNow_24 : decode cX10_isDoneNow 24 = .ok (.ireturn, 1) := by decide +kernel
theorem dX10_doneNow_0 : decode cX10_doneNow 0 = .ok (.iconst 0, 1) := by decide +kernel
theorem dX10_doneNow_1 : decode cX10_doneNow 1 = .ok (.istore_n 1, 1) := by decide +kernel
theorem dX10_doneNow_2 : decode cX10_doneNow 2 = .ok (.iconst 0, 1) := by decide +kernel
theorem dX10_doneNow_3 : decode cX10_doneNow 3 = .ok (.istore_n 2, 1) := by decide +kernel
theorem dX10_doneNow_4 : decode cX10_doneNow 4 = .ok (.iload_n 2, 1) := by decide +kernel
theorem dX10_doneNow_5 : decode cX10_doneNow 5 = .ok (.aload_n 0, 1) := by decide +kernel
theorem dX10_doneNow_6 : decode cX10_doneNow 6 = .ok (.getfield 47, 3) := by decide +kernel
theorem dX10_doneNow_9 : decode cX10_doneNow 9 = .ok (.getfield 85, 3) := by decide +kernel
theorem dX10_doneNow_12 : decode cX10_doneNow 12 = .ok (.arraylength, 1) := by decide +kernel
theorem dX10_doneNow_13 : decode cX10_doneNow 13 = .ok (.if_icmp .ge 20, 3) := by decide +kernel
theorem dX10_doneNow_16 : decode cX10_doneNow 16 = .ok (.aload_n 0, 1) := by decide +kernel
theorem dX10_doneNow_17 : decode cX10_doneNow 17 = .ok (.iload_n 2, 1) := by decide +kernel
theorem dX10_doneNow_18 : decode cX10_doneNow 18 = .ok (.invokevirtual 111, 3) := by decide +kernel
theorem dX10_doneNow_21 : decode cX10_doneNow 21 = .ok (.ifCond .eq 6, 3) := by decide +kernel
theorem dX10_doneNow_24 : decode cX10_doneNow 24 = .ok (.iinc 1 1, 3) := by decide +kernel
theorem dX10_doneNow_27 : decode cX10_doneNow 27 = .ok (.iinc 2 1, 3) := by decide +kernel
theorem dX10_doneNow_30 : decode cX10_doneNow 30 = .ok (.goto (-26), 3) := by decide +kernel
theorem dX10_doneNow_33 : decode cX10_doneNow 33 = .ok (.iload_n 1, 1) := by decide +kernel
theorem dX10_doneNow_34 : decode cX10_doneNow 34 = .ok (.ireturn, 1) := by decide +kernel
theorem dX10_mayBeCast_0 : decode cX10_mayBeCast 0 = .ok (.aload_n 0, 1) := by decide +kernel
theorem dX10_mayBeCast_1 : decode cX10_mayBeCast 1 = .ok (.getfield 19, 3) := by decide +kernel
theorem dX10_mayBeCast_4 : decode cX10_mayBeCast 4 = .ok (.getfield 107, 3) := by decide +kernel
theorem dX10_mayBeCast_7 : decode cX10_mayBeCast 7 = .ok (.iload_n 1, 1) := by decide +kernel
theorem dX10_mayBeCast_8 : decode cX10_mayBeCast 8 = .ok (.iaload, 1) := by decide +kernel
theorem dX10_mayBeCast_9 : decode cX10_mayBeCast 9 = .ok (.istore_n 3, 1) := by decide +kernel
theorem dX10_mayBeCast_10 : decode cX10_mayBeCast 10 = .ok (.aload_n 0, 1) := by decide +kernel
theorem dX10_mayBeCast_11 : decode cX10_mayBeCast 11 = .ok (.getfield 19, 3) := by decide +kernel
theorem dX10_mayBeCast_14 : decode cX10_mayBeCast 14 = .ok (.getfield 129, 3) := by decide +kernel
theorem dX10_mayBeCast_17 : decode cX10_mayBeCast 17 = .ok (.iload_n 2, 1) := by decide +kernel
theorem dX10_mayBeCast_18 : decode cX10_mayBeCast 18 = .ok (.invokestatic 132, 3) := by decide +kernel
theorem dX10_mayBeCast_21 : decode cX10_mayBeCast 21 = .ok (.ifCond .eq 54, 3) := by decide +kernel
theorem dX10_mayBeCast_24 : decode cX10_mayBeCast 24 = .ok (.iload_n 3, 1) := by decide +kernel
theorem dX10_mayBeCast_25 : decode cX10_mayBeCast 25 = .ok (.iload_n 2, 1) := by decide +kernel
theorem dX10_mayBeCast_26 : decode cX10_mayBeCast 26 = .ok (.invokestatic 132, 3) := by decide +kernel
theorem dX10_mayBeCast_29 : decode cX10_mayBeCast 29 = .ok (.ifCond .ne 46, 3) := by decide +kernel
theorem dX10_mayBeCast_32 : decode cX10_mayBeCast 32 = .ok (.iload_n 3, 1) := by decide +kernel
theorem dX10_mayBeCast_33 : decode cX10_mayBeCast 33 = .ok (.invokestatic 160, 3) := by decide +kernel
theorem dX10_mayBeCast_36 : decode cX10_mayBeCast 36 = .ok (.aload_n 0, 1) := by decide +kernel
theorem dX10_mayBeCast_37 : decode cX10_mayBeCast 37 = .ok (.getfield 47, 3) := by decide +kernel
theorem dX10_mayBeCast_40 : decode cX10_mayBeCast 40 = .ok (.getfield 85, 3) := by decide +kernel
theorem dX10_mayBeCast_43 : decode cX10_mayBeCast 43 = .ok (.iload_n 1, 1) := by decide +kernel
theorem dX10_mayBeCast_44 : decode cX10_mayBeCast 44 = .ok (.aaload, 1) := by decide +kernel
theorem dX10_mayBeCast_45 : decode cX10_mayBeCast 45 = .ok (.invokevirtual 104, 3) := by decide +kernel
theorem dX10_mayBeCast_48 : decode cX10_mayBeCast 48 = .ok (.if_icmp .ge 27, 3) := by decide +kernel
theorem dX10_mayBeCast_51 : decode cX10_mayBeCast 51 = .ok (.aload_n 0, 1) := by decide +kernel
theorem dX10_mayBeCast_52 : decode cX10_mayBeCast 52 = .ok (.getfield 47, 3) := by decide +kernel
theorem dX10_mayBeCast_55 : decode cX10_mayBeCast 55 = .ok (.iload_n 1, 1) := by decide +kernel
theorem dX10_mayBeCast_56 : decode cX10_mayBeCast 56 = .ok (.invokevirtual 118, 3) := by decide +kernel
theorem dX10_mayBeCast_59 : decode cX10_mayBeCast 59 = .ok (.aload_n 0, 1) := by decide +kernel
theorem dX10_mayBeCast_60 : decode cX10_mayBeCast 60 = .ok (.getfield 19, 3) := by decide +kernel
theorem dX10_mayBeCast_63 : decode cX10_mayBeCast 63 = .ok (.iload_n 2, 1) := by decide +kernel
theorem dX10_mayBeCast_64 : decode cX10_mayBeCast 64 = .ok (.invokevirtual 142, 3) := by decide +kernel
theorem dX10_mayBeCast_67 : decode cX10_mayBeCast 67 = .ok (.iand, 1) := by decide +kernel
theorem dX10_mayBeCast_68 : decode cX10_mayBeCast 68 = .ok (.ifCond .ne 7, 3) := by decide +kernel
theorem dX10_mayBeCast_71 : decode cX10_mayBeCast 71 = .ok (.iconst 1, 1) := by decide +kernel
theorem dX10_mayBeCast_72 : decode cX10_mayBeCast 72 = .ok (.goto 4, 3) := by decide +kernel
theorem dX10_mayBeCast_75 : decode cX10_mayBeCast 75 = .ok (.iconst 0, 1) := by decide +kernel
theorem dX10_mayBeCast_76 : decode cX10_mayBeCast 76 = .ok (.ireturn, 1) := by decide +kernel
theorem dX10_planMost_0 : decode cX10_planMost 0 = .ok (.aload_n 0, 1) := by decide +kernel
theorem dX10_planMost_1 : decode cX10_planMost 1 = .ok (.dup, 1) := by decide +kernel
theorem dX10_planMost_2 : decode cX10_planMost 2 = .ok (.getfield 168, 3) := by decide +kernel
theorem dX10_planMost_5 : decode cX10_planMost 5 = .ok (.iconst 1, 1) := by decide +kernel
theorem dX10_planMost_6 : decode cX10_planMost 6 = .ok (.iadd, 1) := by decide +kernel
theorem dX10_planMost_7 : decode cX10_planMost 7 = .ok (.putfield 168, 3) := by decide +kernel
theorem dX10_planMost_10 : decode cX10_planMost 10 = .ok (.aload_n 0, 1) := by decide +kernel
theorem dX10_planMost_11 : decode cX10_planMost 11 = .ok (.getfield 29, 3) := by decide +kernel
theorem dX10_planMost_14 : decode cX10_planMost 14 = .ok (.aload_n 0, 1) := by decide +kernel
theorem dX10_planMost_15 : decode cX10_planMost 15 = .ok (.getfield 47, 3) := by decide +kernel
theorem dX10_planMost_18 : decode cX10_planMost 18 = .ok (.aload_n 0, 1) := by decide +kernel
theorem dX10_planMost_19 : decode cX10_planMost 19 = .ok (.getfield 19, 3) := by decide +kernel
theorem dX10_planMost_22 : decode cX10_planMost 22 = .ok (.getfield 136, 3) := by decide +kernel
theorem dX10_planMost_25 : decode cX10_planMost 25 = .ok (.invokevirtual 209, 3) := by decide +kernel
theorem dX10_planMost_28 : decode cX10_planMost 28 = .ok (.aload_n 0, 1) := by decide +kernel
theorem dX10_planMost_29 : decode cX10_planMost 29 = .ok (.getfield 29, 3) := by decide +kernel
theorem dX10_planMost_32 : decode cX10_planMost 32 = .ok (.aload_n 0, 1) := by decide +kernel
theorem dX10_planMost_33 : decode cX10_planMost 33 = .ok (.getfield 19, 3) := by decide +kernel
theorem dX10_planMost_36 : decode cX10_planMost 36 = .ok (.getfield 129, 3) := by decide +kernel
theorem dX10_planMost_39 : decode cX10_planMost 39 = .ok (.iconst (-1), 1) := by decide +kernel
theorem dX10_planMost_40 : decode cX10_planMost 40 = .ok (.invokevirtual 300, 3) := by decide +kernel
theorem dX10_planMost_43 : decode cX10_planMost 43 = .ok (.ireturn, 1) := by decide +kernel
theorem dX10_has_0 : decode cX10_has 0 = .ok (.iload_n 0, 1) := by decide +kernel
theorem dX10_has_1 : decode cX10_has 1 = .ok (.iload_n 1, 1) := by decide +kernel
theorem dX10_has_2 : decode cX10_has 2 = .ok (.iushr, 1) := by decide +kernel
theorem dX10_has_3 : decode cX10_has 3 = .ok (.iconst 1, 1) := by decide +kernel
theorem dX10_has_4 : decode cX10_has 4 = .ok (.iand, 1) := by decide +kernel
theorem dX10_has_5 : decode cX10_has 5 = .ok (.ifCond .eq 7, 3) := by decide +kernel
theorem dX10_has_8 : decode cX10_has 8 = .ok (.iconst 1, 1) := by decide +kernel
theorem dX10_has_9 : decode cX10_has 9 = .ok (.goto 4, 3) := by decide +kernel
theorem dX10_has_12 : decode cX10_has 12 = .ok (.iconst 0, 1) := by decide +kernel
theorem dX10_has_13 : decode cX10_has 13 = .ok (.ireturn, 1) := by decide +kernel
theorem dX10_isOfKind_0 : decode cX10_isOfKind 0 = .ok (.iload_n 1, 1) := by decide +kernel
theorem dX10_isOfKind_1 : decode cX10_isOfKind 1 = .ok (.tableswitch 51 1 4 #[31, 36, 41, 46], 31) := by decide +kernel
theorem dX10_isOfKind_32 : decode cX10_isOfKind 32 = .ok (.aload_n 0, 1) := by decide +kernel
theorem dX10_isOfKind_33 : decode cX10_isOfKind 33 = .ok (.instanceof 303, 3) := by decide +kernel
theorem dX10_isOfKind_36 : decode cX10_isOfKind 36 = .ok (.ireturn, 1) := by decide +kernel
theorem dX10_isOfKind_37 : decode cX10_isOfKind 37 = .ok (.aload_n 0, 1) := by decide +kernel
theorem dX10_isOfKind_38 : decode cX10_isOfKind 38 = .ok (.instanceof 305, 3) := by decide +kernel
theorem dX10_isOfKind_41 : decode cX10_isOfKind 41 = .ok (.ireturn, 1) := by decide +kernel
theorem dX10_isOfKind_42 : decode cX10_isOfKind 42 = .ok (.aload_n 0, 1) := by decide +kernel
theorem dX10_isOfKind_43 : decode cX10_isOfKind 43 = .ok (.instanceof 307, 3) := by decide +kernel
theorem dX10_isOfKind_46 : decode cX10_isOfKind 46 = .ok (.ireturn, 1) := by decide +kernel
theorem dX10_isOfKind_47 : decode cX10_isOfKind 47 = .ok (.aload_n 0, 1) := by decide +kernel
theorem dX10_isOfKind_48 : decode cX10_isOfKind 48 = .ok (.instanceof 309, 3) := by decide +kernel
theorem dX10_isOfKind_51 : decode cX10_isOfKind 51 = .ok (.ireturn, 1) := by decide +kernel
theorem dX10_isOfKind_52 : decode cX10_isOfKind 52 = .ok (.iconst 1, 1) := by decide +kernel
theorem dX10_isOfKind_53 : decode cX10_isOfKind 53 = .ok (.ireturn, 1) := by decide +kernel
theorem dX10_fewestMoves_0 : decode cX10_fewestMoves 0 = .ok (.iload_n 0, 1) := by decide +kernel
theorem dX10_fewestMoves_1 : decode cX10_fewestMoves 1 = .ok (.iconst 1, 1) := by decide +kernel
theorem dX10_fewestMoves_2 : decode cX10_fewestMoves 2 = .ok (.if_icmp .ne 7, 3) := by decide +kernel
theorem dX10_fewestMoves_5 : decode cX10_fewestMoves 5 = .ok (.iconst 0, 1) := by decide +kernel
theorem dX10_fewestMoves_6 : decode cX10_fewestMoves 6 = .ok (.goto 14, 3) := by decide +kernel
theorem dX10_fewestMoves_9 : decode cX10_fewestMoves 9 = .ok (.iload_n 0, 1) := by decide +kernel
theorem dX10_fewestMoves_10 : decode cX10_fewestMoves 10 = .ok (.invokestatic 311, 3) := by decide +kernel
theorem dX10_fewestMoves_13 : decode cX10_fewestMoves 13 = .ok (.iload_n 0, 1) := by decide +kernel
theorem dX10_fewestMoves_14 : decode cX10_fewestMoves 14 = .ok (.invokestatic 314, 3) := by decide +kernel
theorem dX10_fewestMoves_17 : decode cX10_fewestMoves 17 = .ok (.invokestatic 317, 3) := by decide +kernel
theorem dX10_fewestMoves_20 : decode cX10_fewestMoves 20 = .ok (.ireturn, 1) := by decide +kernel
theorem dX10_firstMove_0 : decode cX10_firstMove 0 = .ok (.iload_n 0, 1) := by decide +kernel
theorem dX10_firstMove_1 : decode cX10_firstMove 1 = .ok (.iconst 1, 1) := by decide +kernel
theorem dX10_firstMove_2 : decode cX10_firstMove 2 = .ok (.if_icmp .ne 5, 3) := by decide +kernel
theorem dX10_firstMove_5 : decode cX10_firstMove 5 = .ok (.iconst (-1), 1) := by decide +kernel
theorem dX10_firstMove_6 : decode cX10_firstMove 6 = .ok (.ireturn, 1) := by decide +kernel
theorem dX10_firstMove_7 : decode cX10_firstMove 7 = .ok (.iload_n 0, 1) := by decide +kernel
theorem dX10_firstMove_8 : decode cX10_firstMove 8 = .ok (.invokestatic 311, 3) := by decide +kernel
theorem dX10_firstMove_11 : decode cX10_firstMove 11 = .ok (.iload_n 0, 1) := by decide +kernel
theorem dX10_firstMove_12 : decode cX10_firstMove 12 = .ok (.invokestatic 314, 3) := by decide +kernel
theorem dX10_firstMove_15 : decode cX10_firstMove 15 = .ok (.if_icmp .gt 7, 3) := by decide +kernel
theorem dX10_firstMove_18 : decode cX10_firstMove 18 = .ok (.iconst 1, 1) := by decide +kernel
theorem dX10_firstMove_19 : decode cX10_firstMove 19 = .ok (.goto 4, 3) := by decide +kernel
theorem dX10_firstMove_22 : decode cX10_firstMove 22 = .ok (.iconst 0, 1) := by decide +kernel
theorem dX10_firstMove_23 : decode cX10_firstMove 23 = .ok (.ireturn, 1) := by decide +kernel
theorem dX10_movesOnFirst_0 : decode cX10_movesOnFirst 0 = .ok (.bipush 6, 2) := by decide +kernel
theorem dX10_movesOnFirst_2 : decode cX10_movesOnFirst 2 = .ok (.istore_n 1, 1) := by decide +kernel
theorem dX10_movesOnFirst_3 : decode cX10_movesOnFirst 3 = .ok (.iconst 1, 1) := by decide +kernel
theorem dX10_movesOnFirst_4 : decode cX10_movesOnFirst 4 = .ok (.istore_n 2, 1) := by decide +kernel
theorem dX10_movesOnFirst_5 : decode cX10_movesOnFirst 5 = .ok (.iload_n 2, 1) := by decide +kernel
theorem dX10_movesOnFirst_6 : decode cX10_movesOnFirst 6 = .ok (.bipush 6, 2) := by decide +kernel
theorem dX10_movesOnFirst_8 : decode cX10_movesOnFirst 8 = .ok (.if_icmp .ge 33, 3) := by decide +kernel
theorem dX10_movesOnFirst_11 : decode cX10_movesOnFirst 11 = .ok (.iload_n 0, 1) := by decide +kernel
theorem dX10_movesOnFirst_12 : decode cX10_movesOnFirst 12 = .ok (.iload_n 2, 1) := by decide +kernel
theorem dX10_movesOnFirst_13 : decode cX10_movesOnFirst 13 = .ok (.invokestatic 320, 3) := by decide +kernel
theorem dX10_movesOnFirst_16 : decode cX10_movesOnFirst 16 = .ok (.istore_n 3, 1) := by decide +kernel
theorem dX10_movesOnFirst_17 : decode cX10_movesOnFirst 17 = .ok (.iload_n 1, 1) := by decide +kernel
theorem dX10_movesOnFirst_18 : decode cX10_movesOnFirst 18 = .ok (.iload_n 3, 1) := by decide +kernel
theorem dX10_movesOnFirst_19 : decode cX10_movesOnFirst 19 = .ok (.ifCond .ne 7, 3) := by decide +kernel
theorem dX10_movesOnFirst_22 : decode cX10_movesOnFirst 22 = .ok (.iload_n 2, 1) := by decide +kernel
theorem dX10_movesOnFirst_23 : decode cX10_movesOnFirst 23 = .ok (.goto 8, 3) := by decide +kernel
theorem dX10_movesOnFirst_26 : decode cX10_movesOnFirst 26 = .ok (.iconst 2, 1) := by decide +kernel
theorem dX10_movesOnFirst_27 : decode cX10_movesOnFirst 27 = .ok (.iload_n 2, 1) := by decide +kernel
theorem dX10_movesOnFirst_28 : decode cX10_movesOnFirst 28 = .ok (.imul, 1) := by decide +kernel
theorem dX10_movesOnFirst_29 : decode cX10_movesOnFirst 29 = .ok (.iload_n 3, 1) := by decide +kernel
theorem dX10_movesOnFirst_30 : decode cX10_movesOnFirst 30 = .ok (.iadd, 1) := by decide +kernel
theorem dX10_movesOnFirst_31 : decode cX10_movesOnFirst 31 = .ok (.invokestatic 317, 3) := by decide +kernel
theorem dX10_movesOnFirst_34 : decode cX10_movesOnFirst 34 = .ok (.istore_n 1, 1) := by decide +kernel
theorem dX10_movesOnFirst_35 : decode cX10_movesOnFirst 35 = .ok (.iinc 2 1, 3) := by decide +kernel
theorem dX10_movesOnFirst_38 : decode cX10_movesOnFirst 38 = .ok (.goto (-33), 3) := by decide +kernel
theorem dX10_movesOnFirst_41 : decode cX10_movesOnFirst 41 = .ok (.iload_n 1, 1) := by decide +kernel
theorem dX10_movesOnFirst_42 : decode cX10_movesOnFirst 42 = .ok (.ireturn, 1) := by decide +kernel
theorem dX10_movesBackFirst_0 : decode cX10_movesBackFirst 0 = .ok (.bipush 12, 2) := by decide +kernel
theorem dX10_movesBackFirst_2 : decode cX10_movesBackFirst 2 = .ok (.istore_n 1, 1) := by decide +kernel
theorem dX10_movesBackFirst_3 : decode cX10_movesBackFirst 3 = .ok (.iconst 0, 1) := by decide +kernel
theorem dX10_movesBackFirst_4 : decode cX10_movesBackFirst 4 = .ok (.istore_n 2, 1) := by decide +kernel
theorem dX10_movesBackFirst_5 : decode cX10_movesBackFirst 5 = .ok (.iload_n 2, 1) := by decide +kernel
theorem dX10_movesBackFirst_6 : decode cX10_movesBackFirst 6 = .ok (.bipush 6, 2) := by decide +kernel
theorem dX10_movesBackFirst_8 : decode cX10_movesBackFirst 8 = .ok (.if_icmp .ge 37, 3) := by decide +kernel
theorem dX10_movesBackFirst_11 : decode cX10_movesBackFirst 11 = .ok (.iload_n 0, 1) := by decide +kernel
theorem dX10_movesBackFirst_12 : decode cX10_movesBackFirst 12 = .ok (.iload_n 2, 1) := by decide +kernel
theorem dX10_movesBackFirst_13 : decode cX10_movesBackFirst 13 = .ok (.invokestatic 320, 3) := by decide +kernel
theorem dX10_movesBackFirst_16 : decode cX10_movesBackFirst 16 = .ok (.istore_n 3, 1) := by decide +kernel
theorem dX10_movesBackFirst_17 : decode cX10_movesBackFirst 17 = .ok (.iload_n 3, 1) := by decide +kernel
theorem dX10_movesBackFirst_18 : decode cX10_movesBackFirst 18 = .ok (.ifCond .le 21, 3) := by decide +kernel
theorem dX10_movesBackFirst_21 : decode cX10_movesBackFirst 21 = .ok (.iload_n 1, 1) := by decide +kernel
theorem dX10_movesBackFirst_22 : decode cX10_movesBackFirst 22 = .ok (.iload_n 2, 1) := by decide +kernel
theorem dX10_movesBackFirst_23 : decode cX10_movesBackFirst 23 = .ok (.ifCond .ne 7, 3) := by decide +kernel
theorem dX10_movesBackFirst_26 : decode cX10_movesBackFirst 26 = .ok (.iload_n 3, 1) := by decide +kernel
theorem dX10_movesBackFirst_27 : decode cX10_movesBackFirst 27 = .ok (.goto 8, 3) := by decide +kernel
theorem dX10_movesBackFirst_30 : decode cX10_movesBackFirst 30 = .ok (.iconst 2, 1) := by decide +kernel
theorem dX10_movesBackFirst_31 : decode cX10_movesBackFirst 31 = .ok (.iload_n 3, 1) := by decide +kernel
theorem dX10_movesBackFirst_32 : decode cX10_movesBackFirst 32 = .ok (.imul, 1) := by decide +kernel
theorem dX10_movesBackFirst_33 : decode cX10_movesBackFirst 33 = .ok (.iload_n 2, 1) := by decide +kernel
theorem dX10_movesBackFirst_34 : decode cX10_movesBackFirst 34 = .ok (.iadd, 1) := by decide +kernel
theorem dX10_movesBackFirst_35 : decode cX10_movesBackFirst 35 = .ok (.invokestatic 317, 3) := by decide +kernel
theorem dX10_movesBackFirst_38 : decode cX10_movesBackFirst 38 = .ok (.istore_n 1, 1) := by decide +kernel
theorem dX10_movesBackFirst_39 : decode cX10_movesBackFirst 39 = .ok (.iinc 2 1, 3) := by decide +kernel
theorem dX10_movesBackFirst_42 : decode cX10_movesBackFirst 42 = .ok (.goto (-37), 3) := by decide +kernel
theorem dX10_movesBackFirst_45 : decode cX10_movesBackFirst 45 = .ok (.iload_n 1, 1) := by decide +kernel
theorem dX10_movesBackFirst_46 : decode cX10_movesBackFirst 46 = .ok (.ireturn, 1) := by decide +kernel
theorem dX10_movesBackFor_0 : decode cX10_movesBackFor 0 = .ok (.iload_n 1, 1) := by decide +kernel
theorem dX10_movesBackFor_1 : decode cX10_movesBackFor 1 = .ok (.iconst 1, 1) := by decide +kernel
theorem dX10_movesBackFor_2 : decode cX10_movesBackFor 2 = .ok (.iadd, 1) := by decide +kernel
theorem dX10_movesBackFor_3 : decode cX10_movesBackFor 3 = .ok (.istore_n 2, 1) := by decide +kernel
theorem dX10_movesBackFor_4 : decode cX10_movesBackFor 4 = .ok (.iload_n 2, 1) := by decide +kernel
theorem dX10_movesBackFor_5 : decode cX10_movesBackFor 5 = .ok (.bipush 6, 2) := by decide +kernel
theorem dX10_movesBackFor_7 : decode cX10_movesBackFor 7 = .ok (.if_icmp .ge 22, 3) := by decide +kernel
theorem dX10_movesBackFor_10 : decode cX10_movesBackFor 10 = .ok (.iload_n 0, 1) := by decide +kernel
theorem dX10_movesBackFor_11 : decode cX10_movesBackFor 11 = .ok (.iload_n 2, 1) := by decide +kernel
theorem dX10_movesBackFor_12 : decode cX10_movesBackFor 12 = .ok (.invokestatic 132, 3) := by decide +kernel
theorem dX10_movesBackFor_15 : decode cX10_movesBackFor 15 = .ok (.ifCond .eq 8, 3) := by decide +kernel
theorem dX10_movesBackFor_18 : decode cX10_movesBackFor 18 = .ok (.bipush 6, 2) := by decide +kernel
theorem dX10_movesBackFor_20 : decode cX10_movesBackFor 20 = .ok (.iload_n 2, 1) := by decide +kernel
theorem dX10_movesBackFor_21 : decode cX10_movesBackFor 21 = .ok (.isub, 1) := by decide +kernel
theorem dX10_movesBackFor_22 : decode cX10_movesBackFor 22 = .ok (.ireturn, 1) := by decide +kernel
theorem dX10_movesBackFor_23 : decode cX10_movesBackFor 23 = .ok (.iinc 2 1, 3) := by decide +kernel
theorem dX10_movesBackFor_26 : decode cX10_movesBackFor 26 = .ok (.goto (-22), 3) := by decide +kernel
theorem dX10_movesBackFor_29 : decode cX10_movesBackFor 29 = .ok (.iconst 0, 1) := by decide +kernel
theorem dX10_movesBackFor_30 : decode cX10_movesBackFor 30 = .ok (.ireturn, 1) := by decide +kernel
