theorem dX0_init_0 : decode cX0_init 0 = .ok (.aload_n 0, 1) := by decide +kernel
theorem dX0_init_1 : decode cX0_init 1 = .ok (.invokespecial 3, 3) := by decide +kernel
theorem dX0_init_4 : decode cX0_init 4 = .ok (.aload_n 0, 1) := by decide +kernel
theorem dX0_init_5 : decode cX0_init 5 = .ok (.aload_n 1, 1) := by decide +kernel
theorem dX0_init_6 : decode cX0_init 6 = .ok (.putfield 9, 3) := by decide +kernel
theorem dX0_init_9 : decode cX0_init 9 = .ok (.aload_n 0, 1) := by decide +kernel
theorem dX0_init_10 : decode cX0_init 10 = .ok (.iload_n 2, 1) := by decide +kernel
theorem dX0_init_11 : decode cX0_init 11 = .ok (.putfield 15, 3) := by decide +kernel
theorem dX0_init_14 : decode cX0_init 14 = .ok (.return_, 1) := by decide +kernel
theorem dX0_clashesOf_0 : decode cX0_clashesOf 0 = .ok (.iconst 0, 1) := by decide +kernel
theorem dX0_clashesOf_1 : decode cX0_clashesOf 1 = .ok (.istore_n 2, 1) := by decide +kernel
theorem dX0_clashesOf_2 : decode cX0_clashesOf 2 = .ok (.iconst 0, 1) := by decide +kernel
theorem dX0_clashesOf_3 : decode cX0_clashesOf 3 = .ok (.istore_n 3, 1) := by decide +kernel
theorem dX0_clashesOf_4 : decode cX0_clashesOf 4 = .ok (.iload_n 3, 1) := by decide +kernel
theorem dX0_clashesOf_5 : decode cX0_clashesOf 5 = .ok (.aload_n 0, 1) := by decide +kernel
theorem dX0_clashesOf_6 : decode cX0_clashesOf 6 = .ok (.getfield 9, 3) := by decide +kernel
theorem dX0_clashesOf_9 : decode cX0_clashesOf 9 = .ok (.arraylength, 1) := by decide +kernel
theorem dX0_clashesOf_10 : decode cX0_clashesOf 10 = .ok (.if_icmp .ge 42, 3) := by decide +kernel
theorem dX0_clashesOf_13 : decode cX0_clashesOf 13 = .ok (.iload_n 3, 1) := by decide +kernel
theorem dX0_clashesOf_14 : decode cX0_clashesOf 14 = .ok (.iload_n 1, 1) := by decide +kernel
theorem dX0_clashesOf_15 : decode cX0_clashesOf 15 = .ok (.if_icmp .eq 31, 3) := by decide +kernel
theorem dX0_clashesOf_18 : decode cX0_clashesOf 18 = .ok (.aload_n 0, 1) := by decide +kernel
theorem dX0_clashesOf_19 : decode cX0_clashesOf 19 = .ok (.getfield 9, 3) := by decide +kernel
theorem dX0_clashesOf_22 : decode cX0_clashesOf 22 = .ok (.iload_n 3, 1) := by decide +kernel
theorem dX0_clashesOf_23 : decode cX0_clashesOf 23 = .ok (.aaload, 1) := by decide +kernel
theorem dX0_clashesOf_24 : decode cX0_clashesOf 24 = .ok (.invokevirtual 19, 3) := by decide +kernel
theorem dX0_clashesOf_27 : decode cX0_clashesOf 27 = .ok (.aload_n 0, 1) := by decide +kernel
theorem dX0_clashesOf_28 : decode cX0_clashesOf 28 = .ok (.getfield 9, 3) := by decide +kernel
theorem dX0_clashesOf_31 : decode cX0_clashesOf 31 = .ok (.iload_n 1, 1) := by decide +kernel
theorem dX0_clashesOf_32 : decode cX0_clashesOf 32 = .ok (.aaload, 1) := by decide +kernel
theorem dX0_clashesOf_33 : decode cX0_clashesOf 33 = .ok (.invokevirtual 19, 3) := by decide +kernel
theorem dX0_clashesOf_36 : decode cX0_clashesOf 36 = .ok (.iand, 1) := by decide +kernel
theorem dX0_clashesOf_37 : decode cX0_clashesOf 37 = .ok (.ifCond .eq 9, 3) := by decide +kernel
theorem dX0_clashesOf_40 : decode cX0_clashesOf 40 = .ok (.iload_n 2, 1) := by decide +kernel
theorem dX0_clashesOf_41 : decode cX0_clashesOf 41 = .ok (.iconst 1, 1) := by decide +kernel
theorem dX0_clashesOf_42 : decode cX0_clashesOf 42 = .ok (.iload_n 3, 1) := by decide +kernel
theorem dX0_clashesOf_43 : decode cX0_clashesOf 43 = .ok (.ishl, 1) := by decide +kernel
theorem dX0_clashesOf_44 : decode cX0_clashesOf 44 = .ok (.ior, 1) := by decide +kernel
theorem dX0_clashesOf_45 : decode cX0_clashesOf 45 = .ok (.istore_n 2, 1) := by decide +kernel
theorem dX0_clashesOf_46 : decode cX0_clashesOf 46 = .ok (.iinc 3 1, 3) := by decide +kernel
theorem dX0_clashesOf_49 : decode cX0_clashesOf 49 = .ok (.goto (-45), 3) := by decide +kernel
theorem dX0_clashesOf_52 : decode cX0_clashesOf 52 = .ok (.iload_n 2, 1) := by decide +kernel
theorem dX0_clashesOf_53 : decode cX0_clashesOf 53 = .ok (.ireturn, 1) := by decide +kernel
theorem dX0_isDoneBy_0 : decode cX0_isDoneBy 0 = .ok (.aload_n 0, 1) := by decide +kernel
theorem dX0_isDoneBy_1 : decode cX0_isDoneBy 1 = .ok (.getfield 9, 3) := by decide +kernel
theorem dX0_isDoneBy_4 : decode cX0_isDoneBy 4 = .ok (.iload_n 1, 1) := by decide +kernel
theorem dX0_isDoneBy_5 : decode cX0_isDoneBy 5 = .ok (.aaload, 1) := by decide +kernel
theorem dX0_isDoneBy_6 : decode cX0_isDoneBy 6 = .ok (.astore 4, 2) := by decide +kernel
theorem dX0_isDoneBy_8 : decode cX0_isDoneBy 8 = .ok (.iload_n 2, 1) := by decide +kernel
theorem dX0_isDoneBy_9 : decode cX0_isDoneBy 9 = .ok (.invokestatic 25, 3) := by decide +kernel
theorem dX0_isDoneBy_12 : decode cX0_isDoneBy 12 = .ok (.aload 4, 2) := by decide +kernel
theorem dX0_isDoneBy_14 : decode cX0_isDoneBy 14 = .ok (.invokevirtual 31, 3) := by decide +kernel
theorem dX0_isDoneBy_17 : decode cX0_isDoneBy 17 = .ok (.if_icmp .eq 5, 3) := by decide +kernel
theorem dX0_isDoneBy_20 : decode cX0_isDoneBy 20 = .ok (.iconst 0, 1) := by decide +kernel
theorem dX0_isDoneBy_21 : decode cX0_isDoneBy 21 = .ok (.ireturn, 1) := by decide +kernel
theorem dX0_isDoneBy_22 : decode cX0_isDoneBy 22 = .ok (.iconst 0, 1) := by decide +kernel
theorem dX0_isDoneBy_23 : decode cX0_isDoneBy 23 = .ok (.istore 5, 2) := by decide +kernel
theorem dX0_isDoneBy_25 : decode cX0_isDoneBy 25 = .ok (.iconst 0, 1) := by decide +kernel
theorem dX0_isDoneBy_26 : decode cX0_isDoneBy 26 = .ok (.istore 6, 2) := by decide +kernel
theorem dX0_isDoneBy_28 : decode cX0_isDoneBy 28 = .ok (.iload 6, 2) := by decide +kernel
theorem dX0_isDoneBy_30 : decode cX0_isDoneBy 30 = .ok (.aload_n 3, 1) := by decide +kernel
theorem dX0_isDoneBy_31 : decode cX0_isDoneBy 31 = .ok (.arraylength, 1) := by decide +kernel
theorem dX0_isDoneBy_32 : decode cX0_isDoneBy 32 = .ok (.if_icmp .ge 41, 3) := by decide +kernel
theorem dX0_isDoneBy_35 : decode cX0_isDoneBy 35 = .ok (.iload_n 2, 1) := by decide +kernel
theorem dX0_isDoneBy_36 : decode cX0_isDoneBy 36 = .ok (.iload 6, 2) := by decide +kernel
theorem dX0_isDoneBy_38 : decode cX0_isDoneBy 38 = .ok (.invokestatic 34, 3) := by decide +kernel
theorem dX0_isDoneBy_41 : decode cX0_isDoneBy 41 = .ok (.ifCond .eq 26, 3) := by decide +kernel
theorem dX0_isDoneBy_44 : decode cX0_isDoneBy 44 = .ok (.aload 4, 2) := by decide +kernel
theorem dX0_isDoneBy_46 : decode cX0_isDoneBy 46 = .ok (.aload_n 3, 1) := by decide +kernel
theorem dX0_isDoneBy_47 : decode cX0_isDoneBy 47 = .ok (.iload 6, 2) := by decide +kernel
theorem dX0_isDoneBy_49 : decode cX0_isDoneBy 49 = .ok (.iaload, 1) := by decide +kernel
theorem dX0_isDoneBy_50 : decode cX0_isDoneBy 50 = .ok (.invokevirtual 38, 3) := by decide +kernel
theorem dX0_isDoneBy_53 : decode cX0_isDoneBy 53 = .ok (.ifCond .ne 5, 3) := by decide +kernel
theorem dX0_isDoneBy_56 : decode cX0_isDoneBy 56 = .ok (.iconst 0, 1) := by decide +kernel
theorem dX0_isDoneBy_57 : decode cX0_isDoneBy 57 = .ok (.ireturn, 1) := by decide +kernel
theorem dX0_isDoneBy_58 : decode cX0_isDoneBy 58 = .ok (.iload 5, 2) := by decide +kernel
theorem dX0_isDoneBy_60 : decode cX0_isDoneBy 60 = .ok (.aload_n 3, 1) := by decide +kernel
theorem dX0_isDoneBy_61 : decode cX0_isDoneBy 61 = .ok (.iload 6, 2) := by decide +kernel
theorem dX0_isDoneBy_63 : decode cX0_isDoneBy 63 = .ok (.iaload, 1) := by decide +kernel
theorem dX0_isDoneBy_64 : decode cX0_isDoneBy 64 = .ok (.iadd, 1) := by decide +kernel
theorem dX0_isDoneBy_65 : decode cX0_isDoneBy 65 = .ok (.istore 5, 2) := by decide +kernel
theorem dX0_isDoneBy_67 : decode cX0_isDoneBy 67 = .ok (.iinc 6 1, 3) := by decide +kernel
theorem dX0_isDoneBy_70 : decode cX0_isDoneBy 70 = .ok (.goto (-42), 3) := by decide +kernel
theorem dX0_isDoneBy_73 : decode cX0_isDoneBy 73 = .ok (.aload 4, 2) := by decide +kernel
theorem dX0_isDoneBy_75 : decode cX0_isDoneBy 75 = .ok (.iload 5, 2) := by decide +kernel
theorem dX0_isDoneBy_77 : decode cX0_isDoneBy 77 = .ok (.invokevirtual 42, 3) := by decide +kernel
theorem dX0_isDoneBy_80 : decode cX0_isDoneBy 80 = .ok (.ireturn, 1) := by decide +kernel
theorem dX0_busyHoursOf_0 : decode cX0_busyHoursOf 0 = .ok (.iconst 0, 1) := by decide +kernel
theorem dX0_busyHoursOf_1 : decode cX0_busyHoursOf 1 = .ok (.istore_n 2, 1) := by decide +kernel
theorem dX0_busyHoursOf_2 : decode cX0_busyHoursOf 2 = .ok (.iconst 0, 1) := by decide +kernel
theorem dX0_busyHoursOf_3 : decode cX0_busyHoursOf 3 = .ok (.istore_n 3, 1) := by decide +kernel
theorem dX0_busyHoursOf_4 : decode cX0_busyHoursOf 4 = .ok (.iload_n 3, 1) := by decide +kernel
theorem dX0_busyHoursOf_5 : decode cX0_busyHoursOf 5 = .ok (.aload_n 0, 1) := by decide +kernel
theorem dX0_busyHoursOf_6 : decode cX0_busyHoursOf 6 = .ok (.getfield 9, 3) := by decide +kernel
theorem dX0_busyHoursOf_9 : decode cX0_busyHoursOf 9 = .ok (.arraylength, 1) := by decide +kernel
theorem dX0_busyHoursOf_10 : decode cX0_busyHoursOf 10 = .ok (.if_icmp .ge 29, 3) := by decide +kernel
theorem dX0_busyHoursOf_13 : decode cX0_busyHoursOf 13 = .ok (.iload_n 1, 1) := by decide +kernel
theorem dX0_busyHoursOf_14 : decode cX0_busyHoursOf 14 = .ok (.iload_n 3, 1) := by decide +kernel
theorem dX0_busyHoursOf_15 : decode cX0_busyHoursOf 15 = .ok (.invokestatic 34, 3) := by decide +kernel
theorem dX0_busyHoursOf_18 : decode cX0_busyHoursOf 18 = .ok (.ifCond .eq 15, 3) := by decide +kernel
theorem dX0_busyHoursOf_21 : decode cX0_busyHoursOf 21 = .ok (.iload_n 2, 1) := by decide +kernel
theorem dX0_busyHoursOf_22 : decode cX0_busyHoursOf 22 = .ok (.aload_n 0, 1) := by decide +kernel
theorem dX0_busyHoursOf_23 : decode cX0_busyHoursOf 23 = .ok (.getfield 9, 3) := by decide +kernel
theorem dX0_busyHoursOf_26 : decode cX0_busyHoursOf 26 = .ok (.iload_n 3, 1) := by decide +kernel
theorem dX0_busyHoursOf_27 : decode cX0_busyHoursOf 27 = .ok (.aaload, 1) := by decide +kernel
theorem dX0_busyHoursOf_28 : decode cX0_busyHoursOf 28 = .ok (.invokevirtual 19, 3) := by decide +kernel
theorem dX0_busyHoursOf_31 : decode cX0_busyHoursOf 31 = .ok (.ior, 1) := by decide +kernel
theorem dX0_busyHoursOf_32 : decode cX0_busyHoursOf 32 = .ok (.istore_n 2, 1) := by decide +kernel
theorem dX0_busyHoursOf_33 : decode cX0_busyHoursOf 33 = .ok (.iinc 3 1, 3) := by decide +kernel
theorem dX0_busyHoursOf_36 : decode cX0_busyHoursOf 36 = .ok (.goto (-32), 3) := by decide +kernel
theorem dX0_busyHoursOf_39 : decode cX0_busyHoursOf 39 = .ok (.iload_n 2, 1) := by decide +kernel
theorem dX0_busyHoursOf_40 : decode cX0_busyHoursOf 40 = .ok (.ireturn, 1) := by decide +kernel
theorem dX0_wantedIn_0 : decode cX0_wantedIn 0 = .ok (.iconst 0, 1) := by decide +kernel
theorem dX0_wantedIn_1 : decode cX0_wantedIn 1 = .ok (.istore_n 2, 1) := by decide +kernel
theorem dX0_wantedIn_2 : decode cX0_wantedIn 2 = .ok (.iconst 0, 1) := by decide +kernel
theorem dX0_wantedIn_3 : decode cX0_wantedIn 3 = .ok (.istore_n 3, 1) := by decide +kernel
theorem dX0_wantedIn_4 : decode cX0_wantedIn 4 = .ok (.iload_n 3, 1) := by decide +kernel
theorem dX0_wantedIn_5 : decode cX0_wantedIn 5 = .ok (.aload_n 0, 1) := by decide +kernel
theorem dX0_wantedIn_6 : decode cX0_wantedIn 6 = .ok (.getfield 9, 3) := by decide +kernel
theorem dX0_wantedIn_9 : decode cX0_wantedIn 9 = .ok (.arraylength, 1) := by decide +kernel
theorem dX0_wantedIn_10 : decode cX0_wantedIn 10 = .ok (.if_icmp .ge 37, 3) := by decide +kernel
theorem dX0_wantedIn_13 : decode cX0_wantedIn 13 = .ok (.aload_n 0, 1) := by decide +kernel
theorem dX0_wantedIn_14 : decode cX0_wantedIn 14 = .ok (.getfield 9, 3) := by decide +kernel
theorem dX0_wantedIn_17 : decode cX0_wantedIn 17 = .ok (.iload_n 3, 1) := by decide +kernel
theorem dX0_wantedIn_18 : decode cX0_wantedIn 18 = .ok (.aaload, 1) := by decide +kernel
theorem dX0_wantedIn_19 : decode cX0_wantedIn 19 = .ok (.invokevirtual 45, 3) := by decide +kernel
theorem dX0_wantedIn_22 : decode cX0_wantedIn 22 = .ok (.iload_n 1, 1) := by decide +kernel
theorem dX0_wantedIn_23 : decode cX0_wantedIn 23 = .ok (.invokestatic 34, 3) := by decide +kernel
theorem dX0_wantedIn_26 : decode cX0_wantedIn 26 = .ok (.ifCond .eq 15, 3) := by decide +kernel
theorem dX0_wantedIn_29 : decode cX0_wantedIn 29 = .ok (.iload_n 2, 1) := by decide +kernel
theorem dX0_wantedIn_30 : decode cX0_wantedIn 30 = .ok (.aload_n 0, 1) := by decide +kernel
theorem dX0_wantedIn_31 : decode cX0_wantedIn 31 = .ok (.getfield 9, 3) := by decide +kernel
theorem dX0_wantedIn_34 : decode cX0_wantedIn 34 = .ok (.iload_n 3, 1) := by decide +kernel
theorem dX0_wantedIn_35 : decode cX0_wantedIn 35 = .ok (.aaload, 1) := by decide +kernel
theorem dX0_wantedIn_36 : decode cX0_wantedIn 36 = .ok (.invokevirtual 31, 3) := by decide +kernel
theorem dX0_wantedIn_39 : decode cX0_wantedIn 39 = .ok (.iadd, 1) := by decide +kernel
theorem dX0_wantedIn_40 : decode cX0_wantedIn 40 = .ok (.istore_n 2, 1) := by decide +kernel
theorem dX0_wantedIn_41 : decode cX0_wantedIn 41 = .ok (.iinc 3 1, 3) := by decide +kernel
theorem dX0_wantedIn_44 : decode cX0_wantedIn 44 = .ok (.goto (-40), 3) := by decide +kernel
theorem dX0_wantedIn_47 : decode cX0_wantedIn 47 = .ok (.iload_n 2, 1) := by decide +kernel
theorem dX0_wantedIn_48 : decode cX0_wantedIn 48 = .ok (.ireturn, 1) := by decide +kernel
theorem dX0_bound_0 : decode cX0_bound 0 = .ok (.iconst 0, 1) := by decide +kernel
theorem dX0_bound_1 : decode cX0_bound 1 = .ok (.istore_n 1, 1) := by decide +kernel
theorem dX0_bound_2 : decode cX0_bound 2 = .ok (.iconst 0, 1) := by decide +kernel
theorem dX0_bound_3 : decode cX0_bound 3 = .ok (.istore_n 2, 1) := by decide +kernel
theorem dX0_bound_4 : decode cX0_bound 4 = .ok (.iload_n 2, 1) := by decide +kernel
theorem dX0_bound_5 : decode cX0_bound 5 = .ok (.bipush 11, 2) := by decide +kernel
theorem dX0_bound_7 : decode cX0_bound 7 = .ok (.if_icmp .gt 19, 3) := by decide +kernel
theorem dX0_bound_10 : decode cX0_bound 10 = .ok (.iload_n 1, 1) := by decide +kernel
theorem dX0_bound_11 : decode cX0_bound 11 = .ok (.aload_n 0, 1) := by decide +kernel
theorem dX0_bound_12 : decode cX0_bound 12 = .ok (.iload_n 2, 1) := by decide +kernel
theorem dX0_bound_13 : decode cX0_bound 13 = .ok (.invokevirtual 48, 3) := by decide +kernel
theorem dX0_bound_16 : decode cX0_bound 16 = .ok (.invokestatic 51, 3) := by decide +kernel
theorem dX0_bound_19 : decode cX0_bound 19 = .ok (.istore_n 1, 1) := by decide +kernel
theorem dX0_bound_20 : decode cX0_bound 20 = .ok (.iinc 2 1, 3) := by decide +kernel
theorem dX0_bound_23 : decode cX0_bound 23 = .ok (.goto (-19), 3) := by decide +kernel
theorem dX0_bound_26 : decode cX0_bound 26 = .ok (.iload_n 1, 1) := by decide +kernel
theorem dX0_bound_27 : decode cX0_bound 27 = .ok (.ireturn, 1) := by decide +kernel
theorem dX0_trickToTry_0 : decode cX0_trickToTry 0 = .ok (.iload_n 1, 1) := by decide +kernel
theorem dX0_trickToTry_1 : decode cX0_trickToTry 1 = .ok (.ifCond .ne 5, 3) := by decide +kernel
theorem dX0_trickToTry_4 : decode cX0_trickToTry 4 = .ok (.iconst (-1), 1) := by decide +kernel
theorem dX0_trickToTry_5 : decode cX0_trickToTry 5 = .ok (.ireturn, 1) := by decide +kernel
theorem dX0_trickToTry_6 : decode cX0_trickToTry 6 = .ok (.iconst (-1), 1) := by decide +kernel
theorem dX0_trickToTry_7 : decode cX0_trickToTry 7 = .ok (.istore_n 2, 1) := by decide +kernel
theorem dX0_trickToTry_8 : decode cX0_trickToTry 8 = .ok (.bipush 11, 2) := by decide +kernel
theorem dX0_trickToTry_10 : decode cX0_trickToTry 10 = .ok (.istore_n 3, 1) := by decide +kernel
theorem dX0_trickToTry_11 : decode cX0_trickToTry 11 = .ok (.iconst 0, 1) := by decide +kernel
theorem dX0_trickToTry_12 : decode cX0_trickToTry 12 = .ok (.istore 4, 2) := by decide +kernel
theorem dX0_trickToTry_14 : decode cX0_trickToTry 14 = .ok (.iload 4, 2) := by decide +kernel
theorem dX0_trickToTry_16 : decode cX0_trickToTry 16 = .ok (.aload_n 0, 1) := by decide +kernel
theorem dX0_trickToTry_17 : decode cX0_trickToTry 17 = .ok (.getfield 9, 3) := by decide +kernel
theorem dX0_trickToTry_20 : decode cX0_trickToTry 20 = .ok (.arraylength, 1) := by decide +kernel
theorem dX0_trickToTry_21 : decode cX0_trickToTry 21 = .ok (.if_icmp .ge 54, 3) := by decide +kernel
theorem dX0_trickToTry_24 : decode cX0_trickToTry 24 = .ok (.aload_n 0, 1) := by decide +kernel
theorem dX0_trickToTry_25 : decode cX0_trickToTry 25 = .ok (.getfield 9, 3) := by decide +kernel
theorem dX0_trickToTry_28 : decode cX0_trickToTry 28 = .ok (.iload 4, 2) := by decide +kernel
theorem dX0_trickToTry_30 : decode cX0_trickToTry 30 = .ok (.aaload, 1) := by decide +kernel
theorem dX0_trickToTry_31 : decode cX0_trickToTry 31 = .ok (.invokevirtual 57, 3) := by decide +kernel
theorem dX0_trickToTry_34 : decode cX0_trickToTry 34 = .ok (.istore 5, 2) := by decide +kernel
theorem dX0_trickToTry_36 : decode cX0_trickToTry 36 = .ok (.iload_n 1, 1) := by decide +kernel
theorem dX0_trickToTry_37 : decode cX0_trickToTry 37 = .ok (.iload 5, 2) := by decide +kernel
theorem dX0_trickToTry_39 : decode cX0_trickToTry 39 = .ok (.iand, 1) := by decide +kernel
theorem dX0_trickToTry_40 : decode cX0_trickToTry 40 = .ok (.invokestatic 25, 3) := by decide +kernel
theorem dX0_trickToTry_43 : decode cX0_trickToTry 43 = .ok (.iload_n 1, 1) := by decide +kernel
theorem dX0_trickToTry_44 : decode cX0_trickToTry 44 = .ok (.iload 5, 2) := by decide +kernel
theorem dX0_trickToTry_46 : decode cX0_trickToTry 46 = .ok (.iconst (-1), 1) := by decide +kernel
theorem dX0_trickToTry_47 : decode cX0_trickToTry 47 = .ok (.ixor, 1) := by decide +kernel
theorem dX0_trickToTry_48 : decode cX0_trickToTry 48 = .ok (.iand, 1) := by decide +kernel
theorem dX0_trickToTry_49 : decode cX0_trickToTry 49 = .ok (.invokestatic 25, 3) := by decide +kernel
theorem dX0_trickToTry_52 : decode cX0_trickToTry 52 = .ok (.invokestatic 51, 3) := by decide +kernel
theorem dX0_trickToTry_55 : decode cX0_trickToTry 55 = .ok (.istore 6, 2) := by decide +kernel
theorem dX0_trickToTry_57 : decode cX0_trickToTry 57 = .ok (.iload 6, 2) := by decide +kernel
theorem dX0_trickToTry_59 : decode cX0_trickToTry 59 = .ok (.iload_n 3, 1) := by decide +kernel
theorem dX0_trickToTry_60 : decode cX0_trickToTry 60 = .ok (.if_icmp .ge 9, 3) := by decide +kernel
theorem dX0_trickToTry_63 : decode cX0_trickToTry 63 = .ok (.iload 6, 2) := by decide +kernel
theorem dX0_trickToTry_65 : decode cX0_trickToTry 65 = .ok (.istore_n 3, 1) := by decide +kernel
theorem dX0_trickToTry_66 : decode cX0_trickToTry 66 = .ok (.iload 4, 2) := by decide +kernel
theorem dX0_trickToTry_68 : decode cX0_trickToTry 68 = .ok (.istore_n 2, 1) := by decide +kernel
theorem dX0_trickToTry_69 : decode cX0_trickToTry 69 = .ok (.iinc 4 1, 3) := by decide +kernel
theorem dX0_trickToTry_72 : decode cX0_trickToTry 72 = .ok (.goto (-58), 3) := by decide +kernel
theorem dX0_trickToTry_75 : decode cX0_trickToTry 75 = .ok (.iload_n 2, 1) := by decide +kernel
theorem dX0_trickToTry_76 : decode cX0_trickToTry 76 = .ok (.ireturn, 1) := by decide +kernel
theorem dX1_init_0 : decode cX1_init 0 = .ok (.aload_n 0, 1) := by decide +kernel
theorem dX1_init_1 : decode cX1_init 1 = .ok (.iload_n 1, 1) := by decide +kernel
theorem dX1_init_2 : decode cX1_init 2 = .ok (.iload_n 2, 1) := by decide +kernel
theorem dX1_init_3 : decode cX1_init 3 = .ok (.iload_n 3, 1) := by decide +kernel
theorem dX1_init_4 : decode cX1_init 4 = .ok (.invokespecial 3, 3) := by decide +kernel
theorem dX1_init_7 : decode cX1_init 7 = .ok (.return_, 1) := by decide +kernel
theorem dX1_kind_0 : decode cX1_kind 0 = .ok (.iconst 3, 1) := by decide +kernel
theorem dX1_kind_1 : decode cX1_kind 1 = .ok (.ireturn, 1) := by decide +kernel
theorem dX1_restHours_0 : decode cX1_restHours 0 = .ok (.iconst 1, 1) := by decide +kernel
theorem dX1_restHours_1 : decode cX1_restHours 1 = .ok (.ireturn, 1) := by decide +kernel
theorem dX2_init_0 : decode cX2_init 0 = .ok (.aload_n 0, 1) := by decide +kernel
theorem dX2_init_1 : decode cX2_init 1 = .ok (.invokespecial 3, 3) := by decide +kernel
theorem dX2_init_4 : decode cX2_init 4 = .ok (.aload_n 0, 1) := by decide +kernel
theorem dX2_init_5 : decode cX2_init 5 = .ok (.bipush 36, 2) := by decide +kernel
theorem dX2_init_7 : decode cX2_init 7 = .ok (.newarray .int, 2) := by decide +kernel
theorem dX2_init_9 : decode cX2_init 9 = .ok (.putfield 9, 3) := by decide +kernel
theorem dX2_init_12 : decode cX2_init 12 = .ok (.return_, 1) := by decide +kernel
theorem dX2_put_0 : decode cX2_put 0 = .ok (.aload_n 0, 1) := by decide +kernel
theorem dX2_put_1 : decode cX2_put 1 = .ok (.getfield 15, 3) := by decide +kernel
theorem dX2_put_4 : decode cX2_put 4 = .ok (.bipush 36, 2) := by decide +kernel
theorem dX2_put_6 : decode cX2_put 6 = .ok (.if_icmp .lt 5, 3) := by decide +kernel
theorem dX2_put_9 : decode cX2_put 9 = .ok (.iconst 0, 1) := by decide +kernel
theorem dX2_put_10 : decode cX2_put 10 = .ok (.ireturn, 1) := by decide +kernel
theorem dX2_put_11 : decode cX2_put 11 = .ok (.aload_n 0, 1) := by decide +kernel
theorem dX2_put_12 : decode cX2_put 12 = .ok (.getfield 9, 3) := by decide +kernel
theorem dX2_put_15 : decode cX2_put 15 = .ok (.aload_n 0, 1) := by decide +kernel
theorem dX2_put_16 : decode cX2_put 16 = .ok (.getfield 15, 3) := by decide +kernel
theorem dX2_put_19 : decode cX2_put 19 = .ok (.iload_n 1, 1) := by decide +kernel
theorem dX2_put_20 : decode cX2_put 20 = .ok (.iastore, 1) := by decide +kernel
theorem dX2_put_21 : decode cX2_put 21 = .ok (.aload_n 0, 1) := by decide +kernel
theorem dX2_put_22 : decode cX2_put 22 = .ok (.dup, 1) := by decide +kernel
theorem dX2_put_23 : decode cX2_put 23 = .ok (.getfield 15, 3) := by decide +kernel
theorem dX2_put_26 : decode cX2_put 26 = .ok (.iconst 1, 1) := by decide +kernel
theorem dX2_put_27 : decode cX2_put 27 = .ok (.iadd, 1) := by decide +kernel
theorem dX2_put_28 : decode cX2_put 28 = .ok (.putfield 15, 3) := by decide +kernel
theorem dX2_put_31 : decode cX2_put 31 = .ok (.iconst 1, 1) := by decide +kernel
theorem dX2_put_32 : decode cX2_put 32 = .ok (.ireturn, 1) := by decide +kernel
theorem dX2_firstFault_0 : decode cX2_firstFault 0 = .ok (.aload_n 0, 1) := by decide +kernel
theorem dX2_firstFault_1 : decode cX2_firstFault 1 = .ok (.invokevirtual 19, 3) := by decide +kernel
theorem dX2_firstFault_4 : decode cX2_firstFault 4 = .ok (.istore_n 1, 1) := by decide +kernel
theorem dX2_firstFault_5 : decode cX2_firstFault 5 = .ok (.iconst 0, 1) := by decide +kernel
theorem dX2_firstFault_6 : decode cX2_firstFault 6 = .ok (.istore_n 2, 1) := by decide +kernel
theorem dX2_firstFault_7 : decode cX2_firstFault 7 = .ok (.iload_n 2, 1) := by decide +kernel
theorem dX2_firstFault_8 : decode cX2_firstFault 8 = .ok (.aload_n 0, 1) := by decide +kernel
theorem dX2_firstFault_9 : decode cX2_firstFault 9 = .ok (.getfield 15, 3) := by decide +kernel
theorem dX2_firstFault_12 : decode cX2_firstFault 12 = .ok (.if_icmp .ge 35, 3) := by decide +kernel
theorem dX2_firstFault_15 : decode cX2_firstFault 15 = .ok (.iload_n 2, 1) := by decide +kernel
theorem dX2_firstFault_16 : decode cX2_firstFault 16 = .ok (.iload_n 1, 1) := by decide +kernel
theorem dX2_firstFault_17 : decode cX2_firstFault 17 = .ok (.if_icmp .le 12, 3) := by decide +kernel
theorem dX2_firstFault_20 : decode cX2_firstFault 20 = .ok (.aload_n 0, 1) := by decide +kernel
theorem dX2_firstFault_21 : decode cX2_firstFault 21 = .ok (.iload_n 2, 1) := by decide +kernel
theorem dX2_firstFault_22 : decode cX2_firstFault 22 = .ok (.iload_n 1, 1) := by decide +kernel
theorem dX2_firstFault_23 : decode cX2_firstFault 23 = .ok (.invokevirtual 23, 3) := by decide +kernel
theorem dX2_firstFault_26 : decode cX2_firstFault 26 = .ok (.goto 8, 3) := by decide +kernel
theorem dX2_firstFault_29 : decode cX2_firstFault 29 = .ok (.aload_n 0, 1) := by decide +kernel
theorem dX2_firstFault_30 : decode cX2_firstFault 30 = .ok (.iload_n 2, 1) := by decide +kernel
theorem dX2_firstFault_31 : decode cX2_firstFault 31 = .ok (.invokevirtual 27, 3) := by decide +kernel
theorem dX2_firstFault_34 : decode cX2_firstFault 34 = .ok (.istore_n 3, 1) := by decide +kernel
theorem dX2_firstFault_35 : decode cX2_firstFault 35 = .ok (.iload_n 3, 1) := by decide +kernel
theorem dX2_firstFault_36 : decode cX2_firstFault 36 = .ok (.ifCond .ne 5, 3) := by decide +kernel
theorem dX2_firstFault_39 : decode cX2_firstFault 39 = .ok (.iload_n 2, 1) := by decide +kernel
theorem dX2_firstFault_40 : decode cX2_firstFault 40 = .ok (.ireturn, 1) := by decide +kernel
theorem dX2_firstFault_41 : decode cX2_firstFault 41 = .ok (.iinc 2 1, 3) := by decide +kernel
theorem dX2_firstFault_44 : decode cX2_firstFault 44 = .ok (.goto (-37), 3) := by decide +kernel
theorem dX2_firstFault_47 : decode cX2_firstFault 47 = .ok (.aload_n 0, 1) := by decide +kernel
theorem dX2_firstFault_48 : decode cX2_firstFault 48 = .ok (.getfield 15, 3) := by decide +kernel
theorem dX2_firstFault_51 : decode cX2_firstFault 51 = .ok (.ireturn, 1) := by decide +kernel
theorem dX2_isShow_0 : decode cX2_isShow 0 = .ok (.aload_n 0, 1) := by decide +kernel
theorem dX2_isShow_1 : decode cX2_isShow 1 = .ok (.getfield 15, 3) := by decide +kernel
theorem dX2_isShow_4 : decode cX2_isShow 4 = .ok (.aload_n 0, 1) := by decide +kernel
theorem dX2_isShow_5 : decode cX2_isShow 5 = .ok (.invokevirtual 19, 3) := by decide +kernel
theorem dX2_isShow_8 : decode cX2_isShow 8 = .ok (.isub, 1) := by decide +kernel
theorem dX2_isShow_9 : decode cX2_isShow 9 = .ok (.iconst 1, 1) := by decide +kernel
theorem dX2_isShow_10 : decode cX2_isShow 10 = .ok (.isub, 1) := by decide +kernel
theorem dX2_isShow_11 : decode cX2_isShow 11 = .ok (.istore_n 1, 1) := by decide +kernel
theorem dX2_isShow_12 : decode cX2_isShow 12 = .ok (.iload_n 1, 1) := by decide +kernel
theorem dX2_isShow_13 : decode cX2_isShow 13 = .ok (.ifCond .le 24, 3) := by decide +kernel
theorem dX2_isShow_16 : decode cX2_isShow 16 = .ok (.iload_n 1, 1) := by decide +kernel
theorem dX2_isShow_17 : decode cX2_isShow 17 = .ok (.iconst 2, 1) := by decide +kernel
theorem dX2_isShow_18 : decode cX2_isShow 18 = .ok (.irem, 1) := by decide +kernel
theorem dX2_isShow_19 : decode cX2_isShow 19 = .ok (.ifCond .ne 18, 3) := by decide +kernel
theorem dX2_isShow_22 : decode cX2_isShow 22 = .ok (.aload_n 0, 1) := by decide +kernel
theorem dX2_isShow_23 : decode cX2_isShow 23 = .ok (.invokevirtual 31, 3) := by decide +kernel
theorem dX2_isShow_26 : decode cX2_isShow 26 = .ok (.aload_n 0, 1) := by decide +kernel
theorem dX2_isShow_27 : decode cX2_isShow 27 = .ok (.getfield 15, 3) := by decide +kernel
theorem dX2_isShow_30 : decode cX2_isShow 30 = .ok (.if_icmp .ne 7, 3) := by decide +kernel
theorem dX2_isShow_33 : decode cX2_isShow 33 = .ok (.iconst 1, 1) := by decide +kernel
theorem dX2_isShow_34 : decode cX2_isShow 34 = .ok (.goto 4, 3) := by decide +kernel
theorem dX2_isShow_37 : decode cX2_isShow 37 = .ok (.iconst 0, 1) := by decide +kernel
theorem dX2_isShow_38 : decode cX2_isShow 38 = .ok (.ireturn, 1) := by decide +kernel
theorem dX2_tricksEnd_0 : decode cX2_tricksEnd 0 = .ok (.iconst 0, 1) := by decide +kernel
theorem dX2_tricksEnd_1 : decode cX2_tricksEnd 1 = .ok (.istore_n 1, 1) := by decide +kernel
theorem dX2_tricksEnd_2 : decode cX2_tricksEnd 2 = .ok (.iload_n 1, 1) := by decide +kernel
theorem dX2_tricksEnd_3 : decode cX2_tricksEnd 3 = .ok (.aload_n 0, 1) := by decide +kernel
theorem dX2_tricksEnd_4 : decode cX2_tricksEnd 4 = .ok (.getfield 15, 3) := by decide +kernel
theorem dX2_tricksEnd_7 : decode cX2_tricksEnd 7 = .ok (.if_icmp .ge 22, 3) := by decide +kernel
theorem dX2_tricksEnd_10 : decode cX2_tricksEnd 10 = .ok (.aload_n 0, 1) := by decide +kernel
theorem dX2_tricksEnd_11 : decode cX2_tricksEnd 11 = .ok (.getfield 9, 3) := by decide +kernel
theorem dX2_tricksEnd_14 : decode cX2_tricksEnd 14 = .ok (.iload_n 1, 1) := by decide +kernel
theorem dX2_tricksEnd_15 : decode cX2_tricksEnd 15 = .ok (.iaload, 1) := by decide +kernel
theorem dX2_tricksEnd_16 : decode cX2_tricksEnd 16 = .ok (.bipush 59, 2) := by decide +kernel
theorem dX2_tricksEnd_18 : decode cX2_tricksEnd 18 = .ok (.if_icmp .ne 5, 3) := by decide +kernel
theorem dX2_tricksEnd_21 : decode cX2_tricksEnd 21 = .ok (.iload_n 1, 1) := by decide +kernel
theorem dX2_tricksEnd_22 : decode cX2_tricksEnd 22 = .ok (.ireturn, 1) := by decide +kernel
theorem dX2_tricksEnd_23 : decode cX2_tricksEnd 23 = .ok (.iinc 1 1, 3) := by decide +kernel
theorem dX2_tricksEnd_26 : decode cX2_tricksEnd 26 = .ok (.goto (-24), 3) := by decide +kernel
theorem dX2_tricksEnd_29 : decode cX2_tricksEnd 29 = .ok (.aload_n 0, 1) := by decide +kernel
theorem dX2_tricksEnd_30 : decode cX2_tricksEnd 30 = .ok (.getfield 15, 3) := by decide +kernel
theorem dX2_tricksEnd_33 : decode cX2_tricksEnd 33 = .ok (.ireturn, 1) := by decide +kernel
theorem dX2_isOfTricks_0 : decode cX2_isOfTricks 0 = .ok (.iload_n 1, 1) := by decide +kernel
theorem dX2_isOfTricks_1 : decode cX2_isOfTricks 1 = .ok (.iconst 5, 1) := by decide +kernel
theorem dX2_isOfTricks_2 : decode cX2_isOfTricks 2 = .ok (.idiv, 1) := by decide +kernel
theorem dX2_isOfTricks_3 : decode cX2_isOfTricks 3 = .ok (.iconst 1, 1) := by decide +kernel
theorem dX2_isOfTricks_4 : decode cX2_isOfTricks 4 = .ok (.iadd, 1) := by decide +kernel
theorem dX2_isOfTricks_5 : decode cX2_isOfTricks 5 = .ok (.istore_n 2, 1) := by decide +kernel
theorem dX2_isOfTricks_6 : decode cX2_isOfTricks 6 = .ok (.iload_n 1, 1) := by decide +kernel
theorem dX2_isOfTricks_7 : decode cX2_isOfTricks 7 = .ok (.iconst 5, 1) := by decide +kernel
theorem dX2_isOfTricks_8 : decode cX2_isOfTricks 8 = .ok (.irem, 1) := by decide +kernel
theorem dX2_isOfTricks_9 : decode cX2_isOfTricks 9 = .ok (.tableswitch 78 0 3 #[31, 52, 61, 69], 31) := by decide +kernel
theorem dX2_isOfTricks_40 : decode cX2_isOfTricks 40 = .ok (.ldc 34, 2) := by decide +kernel
theorem dX2_isOfTricks_42 : decode cX2_isOfTricks 42 = .ok (.aload_n 0, 1) := by decide +kernel
theorem dX2_isOfTricks_43 : decode cX2_isOfTricks 43 = .ok (.getfield 9, 3) := by decide +kernel
theorem dX2_isOfTricks_46 : decode cX2_isOfTricks 46 = .ok (.iload_n 1, 1) := by decide +kernel
theorem dX2_isOfTricks_47 : decode cX2_isOfTricks 47 = .ok (.iaload, 1) := by decide +kernel
theorem dX2_isOfTricks_48 : decode cX2_isOfTricks 48 = .ok (.i2c, 1) := by decide +kernel
theorem dX2_isOfTricks_49 : decode cX2_isOfTricks 49 = .ok (.invokevirtual 36, 3) := by decide +kernel
theorem dX2_isOfTricks_52 : decode cX2_isOfTricks 52 = .ok (.ifCond .lt 7, 3) := by decide +kernel
theorem dX2_isOfTricks_55 : decode cX2_isOfTricks 55 = .ok (.iconst 1, 1) := by decide +kernel
theorem dX2_isOfTricks_56 : decode cX2_isOfTricks 56 = .ok (.goto 4, 3) := by decide +kernel
theorem dX2_isOfTricks_59 : decode cX2_isOfTricks 59 = .ok (.iconst 0, 1) := by decide +kernel
theorem dX2_isOfTricks_60 : decode cX2_isOfTricks 60 = .ok (.ireturn, 1) := by decide +kernel
theorem dX2_isOfTricks_61 : decode cX2_isOfTricks 61 = .ok (.aload_n 0, 1) := by decide +kernel
theorem dX2_isOfTricks_62 : decode cX2_isOfTricks 62 = .ok (.iload_n 1, 1) := by decide +kernel
theorem dX2_isOfTricks_63 : decode cX2_isOfTricks 63 = .ok (.iconst 0, 1) := by decide +kernel
theorem dX2_isOfTricks_64 : decode cX2_isOfTricks 64 = .ok (.bipush 7, 2) := by decide +kernel
theorem dX2_isOfTricks_66 : decode cX2_isOfTricks 66 = .ok (.invokevirtual 42, 3) := by decide +kernel
theorem dX2_isOfTricks_69 : decode cX2_isOfTricks 69 = .ok (.ireturn, 1) := by decide +kernel
theorem dX2_isOfTricks_70 : decode cX2_isOfTricks 70 = .ok (.aload_n 0, 1) := by decide +kernel
theorem dX2_isOfTricks_71 : decode cX2_isOfTricks 71 = .ok (.iload_n 1, 1) := by decide +kernel
theorem dX2_isOfTricks_72 : decode cX2_isOfTricks 72 = .ok (.iconst 1, 1) := by decide +kernel
theorem dX2_isOfTricks_73 : decode cX2_isOfTricks 73 = .ok (.iconst 4, 1) := by decide +kernel
theorem dX2_isOfTricks_74 : decode cX2_isOfTricks 74 = .ok (.invokevirtual 42, 3) := by decide +kernel
theorem dX2_isOfTricks_77 : decode cX2_isOfTricks 77 = .ok (.ireturn, 1) := by decide +kernel
theorem dX2_isOfTricks_78 : decode cX2_isOfTricks 78 = .ok (.aload_n 0, 1) := by decide +kernel
theorem dX2_isOfTricks_79 : decode cX2_isOfTricks 79 = .ok (.iload_n 1, 1) := by decide +kernel
theorem dX2_isOfTricks_80 : decode cX2_isOfTricks 80 = .ok (.iconst 0, 1) := by decide +kernel
theorem dX2_isOfTricks_81 : decode cX2_isOfTricks 81 = .ok (.bipush 9, 2) := by decide +kernel
theorem dX2_isOfTricks_83 : decode cX2_isOfTricks 83 = .ok (.invokevirtual 42, 3) := by decide +kernel
theorem dX2_isOfTricks_86 : decode cX2_isOfTricks 86 = .ok (.ireturn, 1) := by decide +kernel
theorem dX2_isOfTricks_87 : decode cX2_isOfTricks 87 = .ok (.aload_n 0, 1) := by decide +kernel
theorem dX2_isOfTricks_88 : decode cX2_isOfTricks 88 = .ok (.getfield 9, 3) := by decide +kernel
theorem dX2_isOfTricks_91 : decode cX2_isOfTricks 91 = .ok (.iload_n 1, 1) := by decide +kernel
theorem dX2_isOfTricks_92 : decode cX2_isOfTricks 92 = .ok (.iaload, 1) := by decide +kernel
theorem dX2_isOfTricks_93 : decode cX2_isOfTricks 93 = .ok (.bipush 44, 2) := by decide +kernel
theorem dX2_isOfTricks_95 : decode cX2_isOfTricks 95 = .ok (.if_icmp .ne 16, 3) := by decide +kernel
theorem dX2_isOfTricks_98 : decode cX2_isOfTricks 98 = .ok (.iload_n 2, 1) := by decide +kernel
theorem dX2_isOfTricks_99 : decode cX2_isOfTricks 99 = .ok (.iconst 5, 1) := by decide +kernel
theorem dX2_isOfTricks_100 : decode cX2_isOfTricks 100 = .ok (.if_icmp .ge 7, 3) := by decide +kernel
theorem dX2_isOfTricks_103 : decode cX2_isOfTricks 103 = .ok (.iconst 1, 1) := by decide +kernel
theorem dX2_isOfTricks_104 : decode cX2_isOfTricks 104 = .ok (.goto 28, 3) := by decide +kernel
theorem dX2_isOfTricks_107 : decode cX2_isOfTricks 107 = .ok (.iconst 0, 1) := by decide +kernel
theorem dX2_isOfTricks_108 : decode cX2_isOfTricks 108 = .ok (.goto 24, 3) := by decide +kernel
theorem dX2_isOfTricks_111 : decode cX2_isOfTricks 111 = .ok (.aload_n 0, 1) := by decide +kernel
theorem dX2_isOfTricks_112 : decode cX2_isOfTricks 112 = .ok (.getfield 9, 3) := by decide +kernel
theorem dX2_isOfTricks_115 : decode cX2_isOfTricks 115 = .ok (.iload_n 1, 1) := by decide +kernel
theorem dX2_isOfTricks_116 : decode cX2_isOfTricks 116 = .ok (.iaload, 1) := by decide +kernel
theorem dX2_isOfTricks_117 : decode cX2_isOfTricks 117 = .ok (.bipush 59, 2) := by decide +kernel
theorem dX2_isOfTricks_119 : decode cX2_isOfTricks 119 = .ok (.if_icmp .ne 12, 3) := by decide +kernel
theorem dX2_isOfTricks_122 : decode cX2_isOfTricks 122 = .ok (.iload_n 2, 1) := by decide +kernel
theorem dX2_isOfTricks_123 : decode cX2_isOfTricks 123 = .ok (.iconst 2, 1) := by decide +kernel
theorem dX2_isOfTricks_124 : decode cX2_isOfTricks 124 = .ok (.if_icmp .lt 7, 3) := by decide +kernel
theorem dX2_isOfTricks_127 : decode cX2_isOfTricks 127 = .ok (.iconst 1, 1) := by decide +kernel
theorem dX2_isOfTricks_128 : decode cX2_isOfTricks 128 = .ok (.goto 4, 3) := by decide +kernel
theorem dX2_isOfTricks_131 : decode cX2_isOfTricks 131 = .ok (.iconst 0, 1) := by decide +kernel
theorem dX2_isOfTricks_132 : decode cX2_isOfTricks 132 = .ok (.ireturn, 1) := by decide +kernel
theorem dX2_isOfPeople_0 : decode cX2_isOfPeople 0 = .ok (.iload_n 1, 1) := by decide +kernel
theorem dX2_isOfPeople_1 : decode cX2_isOfPeople 1 = .ok (.iload_n 2, 1) := by decide +kernel
theorem dX2_isOfPeople_2 : decode cX2_isOfPeople 2 = .ok (.isub, 1) := by decide +kernel
theorem dX2_isOfPeople_3 : decode cX2_isOfPeople 3 = .ok (.iconst 1, 1) := by decide +kernel
theorem dX2_isOfPeople_4 : decode cX2_isOfPeople 4 = .ok (.isub, 1) := by decide +kernel
theorem dX2_isOfPeople_5 : decode cX2_isOfPeople 5 = .ok (.istore_n 3, 1) := by decide +kernel
theorem dX2_isOfPeople_6 : decode cX2_isOfPeople 6 = .ok (.iload_n 3, 1) := by decide +kernel
theorem dX2_isOfPeople_7 : decode cX2_isOfPeople 7 = .ok (.bipush 10, 2) := by decide +kernel
theorem dX2_isOfPeople_9 : decode cX2_isOfPeople 9 = .ok (.if_icmp .ge 28, 3) := by decide +kernel
theorem dX2_isOfPeople_12 : decode cX2_isOfPeople 12 = .ok (.aload_n 0, 1) := by decide +kernel
theorem dX2_isOfPeople_13 : decode cX2_isOfPeople 13 = .ok (.iload_n 1, 1) := by decide +kernel
theorem dX2_isOfPeople_14 : decode cX2_isOfPeople 14 = .ok (.iconst 0, 1) := by decide +kernel
theorem dX2_isOfPeople_15 : decode cX2_isOfPeople 15 = .ok (.iload_n 3, 1) := by decide +kernel
theorem dX2_isOfPeople_16 : decode cX2_isOfPeople 16 = .ok (.iconst 2, 1) := by decide +kernel
theorem dX2_isOfPeople_17 : decode cX2_isOfPeople 17 = .ok (.irem, 1) := by decide +kernel
theorem dX2_isOfPeople_18 : decode cX2_isOfPeople 18 = .ok (.ifCond .ne 8, 3) := by decide +kernel
theorem dX2_isOfPeople_21 : decode cX2_isOfPeople 21 = .ok (.bipush 9, 2) := by decide +kernel
theorem dX2_isOfPeople_23 : decode cX2_isOfPeople 23 = .ok (.goto 4, 3) := by decide +kernel
theorem dX2_isOfPeople_26 : decode cX2_isOfPeople 26 = .ok (.iconst 5, 1) := by decide +kernel
theorem dX2_isOfPeople_27 : decode cX2_isOfPeople 27 = .ok (.invokevirtual 42, 3) := by decide +kernel
theorem dX2_isOfPeople_30 : decode cX2_isOfPeople 30 = .ok (.ifCond .eq 7, 3) := by decide +kernel
theorem dX2_isOfPeople_33 : decode cX2_isOfPeople 33 = .ok (.iconst 1, 1) := by decide +kernel
theorem dX2_isOfPeople_34 : decode cX2_isOfPeople 34 = .ok (.goto 4, 3) := by decide +kernel
theorem dX2_isOfPeople_37 : decode cX2_isOfPeople 37 = .ok (.iconst 0, 1) := by decide +kernel
theorem dX2_isOfPeople_38 : decode cX2_isOfPeople 38 = .ok (.ireturn, 1) := by decide +kernel
theorem dX2_isDigit_0 : decode cX2_isDigit 0 = .ok (.aload_n 0, 1) := by decide +kernel
theorem dX2_isDigit_1 : decode cX2_isDigit 1 = .ok (.iload_n 1, 1) := by decide +kernel
theorem dX2_isDigit_2 : decode cX2_isDigit 2 = .ok (.invokevirtual 46, 3) := by decide +kernel
theorem dX2_isDigit_5 : decode cX2_isDigit 5 = .ok (.istore 4, 2) := by decide +kernel
theorem dX2_isDigit_7 : decode cX2_isDigit 7 = .ok (.iload 4, 2) := by decide +kernel
theorem dX2_isDigit_9 : decode cX2_isDigit 9 = .ok (.iload_n 2, 1) := by decide +kernel
theorem dX2_isDigit_10 : decode cX2_isDigit 10 = .ok (.if_icmp .lt 13, 3) := by decide +kernel
theorem dX2_isDigit_13 : decode cX2_isDigit 13 = .ok (.iload 4, 2) := by decide +kernel
theorem dX2_isDigit_15 : decode cX2_isDigit 15 = .ok (.iload_n 3, 1) := by decide +kernel
theorem dX2_isDigit_16 : decode cX2_isDigit 16 = .ok (.if_icmp .gt 7, 3) := by decide +kernel
theorem dX2_isDigit_19 : decode cX2_isDigit 19 = .ok (.iconst 1, 1) := by decide +kernel
theorem dX2_isDigit_20 : decode cX2_isDigit 20 = .ok (.goto 4, 3) := by decide +kernel
theorem dX2_isDigit_23 : decode cX2_isDigit 23 = .ok (.iconst 0, 1) := by decide +kernel
theorem dX2_isDigit_24 : decode cX2_isDigit 24 = .ok (.ireturn, 1) := by decide +kernel
theorem dX2_digitAt_0 : decode cX2_digitAt 0 = .ok (.iload_n 1, 1) := by decide +kernel
theorem dX2_digitAt_1 : decode cX2_digitAt 1 = .ok (.ifCond .lt 21, 3) := by decide +kernel
theorem dX2_digitAt_4 : decode cX2_digitAt 4 = .ok (.iload_n 1, 1) := by decide +kernel
theorem dX2_digitAt_5 : decode cX2_digitAt 5 = .ok (.bipush 36, 2) := by decide +kernel
theorem dX2_digitAt_7 : decode cX2_digitAt 7 = .ok (.if_icmp .ge 15, 3) := by decide +kernel
theorem dX2_digitAt_10 : decode cX2_digitAt 10 = .ok (.aload_n 0, 1) := by decide +kernel
theorem dX2_digitAt_11 : decode cX2_digitAt 11 = .ok (.getfield 9, 3) := by decide +kernel
theorem dX2_digitAt_14 : decode cX2_digitAt 14 = .ok (.iload_n 1, 1) := by decide +kernel
theorem dX2_digitAt_15 : decode cX2_digitAt 15 = .ok (.iaload, 1) := by decide +kernel
theorem dX2_digitAt_16 : decode cX2_digitAt 16 = .ok (.bipush 48, 2) := by decide +kernel
theorem dX2_digitAt_18 : decode cX2_digitAt 18 = .ok (.isub, 1) := by decide +kernel
theorem dX2_digitAt_19 : decode cX2_digitAt 19 = .ok (.goto 4, 3) := by decide +kernel
theorem dX2_digitAt_22 : decode cX2_digitAt 22 = .ok (.iconst (-1), 1) := by decide +kernel
theorem dX2_digitAt_23 : decode cX2_digitAt 23 = .ok (.ireturn, 1) := by decide +kernel
theorem dX2_readBill_0 : decode cX2_readBill 0 = .ok (.aload_n 0, 1) := by decide +kernel
theorem dX2_readBill_1 : decode cX2_readBill 1 = .ok (.invokevirtual 19, 3) := by decide +kernel
theorem dX2_readBill_4 : decode cX2_readBill 4 = .ok (.istore_n 1, 1) := by decide +kernel
theorem dX2_readBill_5 : decode cX2_readBill 5 = .ok (.iload_n 1, 1) := by decide +kernel
theorem dX2_readBill_6 : decode cX2_readBill 6 = .ok (.iconst 1, 1) := by decide +kernel
theorem dX2_readBill_7 : decode cX2_readBill 7 = .ok (.iadd, 1) := by decide +kernel
theorem dX2_readBill_8 : decode cX2_readBill 8 = .ok (.iconst 5, 1) := by decide +kernel
theorem dX2_readBill_9 : decode cX2_readBill 9 = .ok (.idiv, 1) := by decide +kernel
theorem dX2_readBill_10 : decode cX2_readBill 10 = .ok (.iconst 5, 1) := by decide +kernel
theorem dX2_readBill_11 : decode cX2_readBill 11 = .ok (.invokestatic 49, 3) := by decide +kernel
theorem dX2_readBill_14 : decode cX2_readBill 14 = .ok (.anewarray 55, 3) := by decide +kernel
theorem dX2_readBill_17 : decode cX2_readBill 17 = .ok (.astore_n 2, 1) := by decide +kernel
theorem dX2_readBill_18 : decode cX2_readBill 18 = .ok (.iconst 0, 1) := by decide +kernel
theorem dX2_readBill_19 : decode cX2_readBill 19 = .ok (.istore_n 3, 1) := by decide +kernel
theorem dX2_readBill_20 : decode cX2_readBill 20 = .ok (.iload_n 3, 1) := by decide +kernel
theorem dX2_readBill_21 : decode cX2_readBill 21 = .ok (.aload_n 2, 1) := by decide +kernel
theorem dX2_readBill_22 : decode cX2_readBill 22 = .ok (.arraylength, 1) := by decide +kernel
theorem dX2_readBill_23 : decode cX2_readBill 23 = .ok (.if_icmp .ge 19, 3) := by decide +kernel
theorem dX2_readBill_26 : decode cX2_readBill 26 = .ok (.aload_n 2, 1) := by decide +kernel
theorem dX2_readBill_27 : decode cX2_readBill 27 = .ok (.iload_n 3, 1) := by decide +kernel
theorem dX2_readBill_28 : decode cX2_readBill 28 = .ok (.aload_n 0, 1) := by decide +kernel
theorem dX2_readBill_29 : decode cX2_readBill 29 = .ok (.iload_n 3, 1) := by decide +kernel
theorem dX2_readBill_30 : decode cX2_readBill 30 = .ok (.iconst 5, 1) := by decide +kernel
theorem dX2_readBill_31 : decode cX2_readBill 31 = .ok (.imul, 1) := by decide +kernel
theorem dX2_readBill_32 : decode cX2_readBill 32 = .ok (.invokevirtual 57, 3) := by decide +kernel
theorem dX2_readBill_35 : decode cX2_readBill 35 = .ok (.aastore, 1) := by decide +kernel
theorem dX2_readBill_36 : decode cX2_readBill 36 = .ok (.iinc 3 1, 3) := by decide +kernel
theorem dX2_readBill_39 : decode cX2_readBill 39 = .ok (.goto (-19), 3) := by decide +kernel
theorem dX2_readBill_42 : decode cX2_readBill 42 = .ok (.new 61, 3) := by decide +kernel
theorem dX2_readBill_45 : decode cX2_readBill 45 = .ok (.dup, 1) := by decide +kernel
theorem dX2_readBill_46 : decode cX2_readBill 46 = .ok (.aload_n 2, 1) := by decide +kernel
theorem dX2_readBill_47 : decode cX2_readBill 47 = .ok (.aload_n 0, 1) := by decide +kernel
theorem dX2_readBill_48 : decode cX2_readBill 48 = .ok (.getfield 15, 3) := by decide +kernel
theorem dX2_readBill_51 : decode cX2_readBill 51 = .ok (.iload_n 1, 1) := by decide +kernel
theorem dX2_readBill_52 : decode cX2_readBill 52 = .ok (.isub, 1) := by decide +kernel
theorem dX2_readBill_53 : decode cX2_readBill 53 = .ok (.iconst 1, 1) := by decide +kernel
theorem dX2_readBill_54 : decode cX2_readBill 54 = .ok (.isub, 1) := by decide +kernel
theorem dX2_readBill_55 : decode cX2_readBill 55 = .ok (.iconst 2, 1) := by decide +kernel
theorem dX2_readBill_56 : decode cX2_readBill 56 = .ok (.idiv, 1) := by decide +kernel
theorem dX2_readBill_57 : decode cX2_readBill 57 = .ok (.iconst 5, 1) := by decide +kernel
theorem dX2_readBill_58 : decode cX2_readBill 58 = .ok (.invokestatic 49, 3) := by decide +kernel
theorem dX2_readBill_61 : decode cX2_readBill 61 = .ok (.invokespecial 63, 3) := by decide +kernel
theorem dX2_readBill_64 : decode cX2_readBill 64 = .ok (.areturn, 1) := by decide +kernel
theorem dX2_readTrick_0 : decode cX2_readTrick 0 = .ok (.aload_n 0, 1) := by decide +kernel
theorem dX2_readTrick_1 : decode cX2_readTrick 1 = .ok (.iload_n 1, 1) := by decide +kernel
theorem dX2_readTrick_2 : decode cX2_readTrick 2 = .ok (.iconst 1, 1) := by decide +kernel
theorem dX2_readTrick_3 : decode cX2_readTrick 3 = .ok (.iadd, 1) := by decide +kernel
theorem dX2_readTrick_4 : decode cX2_readTrick 4 = .ok (.invokevirtual 46, 3) := by decide +kernel
theorem dX2_readTrick_7 : decode cX2_readTrick 7 = .ok (.istore_n 2, 1) := by decide +kernel
theorem dX2_readTrick_8 : decode cX2_readTrick 8 = .ok (.aload_n 0, 1) := by decide +kernel
theorem dX2_readTrick_9 : decode cX2_readTrick 9 = .ok (.iload_n 1, 1) := by decide +kernel
theorem dX2_readTrick_10 : decode cX2_readTrick 10 = .ok (.iconst 2, 1) := by decide +kernel
theorem dX2_readTrick_11 : decode cX2_readTrick 11 = .ok (.iadd, 1) := by decide +kernel
theorem dX2_readTrick_12 : decode cX2_readTrick 12 = .ok (.invokevirtual 46, 3) := by decide +kernel
theorem dX2_readTrick_15 : decode cX2_readTrick 15 = .ok (.istore_n 3, 1) := by decide +kernel
theorem dX2_readTrick_16 : decode cX2_readTrick 16 = .ok (.aload_n 0, 1) := by decide +kernel
theorem dX2_readTrick_17 : decode cX2_readTrick 17 = .ok (.iload_n 1, 1) := by decide +kernel
theorem dX2_readTrick_18 : decode cX2_readTrick 18 = .ok (.iconst 3, 1) := by decide +kernel
theorem dX2_readTrick_19 : decode cX2_readTrick 19 = .ok (.iadd, 1) := by decide +kernel
theorem dX2_readTrick_20 : decode cX2_readTrick 20 = .ok (.invokevirtual 46, 3) := by decide +kernel
theorem dX2_readTrick_23 : decode cX2_readTrick 23 = .ok (.istore 4, 2) := by decide +kernel
theorem dX2_readTrick_25 : decode cX2_readTrick 25 = .ok (.ldc 34, 2) := by decide +kernel
theorem dX2_readTrick_27 : decode cX2_readTrick 27 = .ok (.aload_n 0, 1) := by decide +kernel
theorem dX2_readTrick_28 : decode cX2_readTrick 28 = .ok (.getfield 9, 3) := by decide +kernel
theorem dX2_readTrick_31 : decode cX2_readTrick 31 = .ok (.iload_n 1, 1) := by decide +kernel
theorem dX2_readTrick_32 : decode cX2_readTrick 32 = .ok (.iaload, 1) := by decide +kernel
theorem dX2_readTrick_33 : decode cX2_readTrick 33 = .ok (.i2c, 1) := by decide +kernel
theorem dX2_readTrick_34 : decode cX2_readTrick 34 = .ok (.invokevirtual 36, 3) := by decide +kernel
theorem dX2_readTrick_37 : decode cX2_readTrick 37 = .ok (.tableswitch 79 1 4 #[31, 43, 55, 67], 31) := by decide +kernel
theorem dX2_readTrick_68 : decode cX2_readTrick 68 = .ok (.new 66, 3) := by decide +kernel
theorem dX2_readTrick_71 : decode cX2_readTrick 71 = .ok (.dup, 1) := by decide +kernel
theorem dX2_readTrick_72 : decode cX2_readTrick 72 = .ok (.iload_n 2, 1) := by decide +kernel
theorem dX2_readTrick_73 : decode cX2_readTrick 73 = .ok (.iload_n 3, 1) := by decide +kernel
theorem dX2_readTrick_74 : decode cX2_readTrick 74 = .ok (.iload 4, 2) := by decide +kernel
theorem dX2_readTrick_76 : decode cX2_readTrick 76 = .ok (.invokespecial 68, 3) := by decide +kernel
theorem dX2_readTrick_79 : decode cX2_readTrick 79 = .ok (.areturn, 1) := by decide +kernel
theorem dX2_readTrick_80 : decode cX2_readTrick 80 = .ok (.new 71, 3) := by decide +kernel
theorem dX2_readTrick_83 : decode cX2_readTrick 83 = .ok (.dup, 1) := by decide +kernel
theorem dX2_readTrick_84 : decode cX2_readTrick 84 = .ok (.iload_n 2, 1) := by decide +kernel
theorem dX2_readTrick_85 : decode cX2_readTrick 85 = .ok (.iload_n 3, 1) := by decide +kernel
theorem dX2_readTrick_86 : decode cX2_readTrick 86 = .ok (.iload 4, 2) := by decide +kernel
theorem dX2_readTrick_88 : decode cX2_readTrick 88 = .ok (.invokespecial 73, 3) := by decide +kernel
theorem dX2_readTrick_91 : decode cX2_readTrick 91 = .ok (.areturn, 1) := by decide +kernel
theorem dX2_readTrick_92 : decode cX2_readTrick 92 = .ok (.new 74, 3) := by decide +kernel
theorem dX2_readTrick_95 : decode cX2_readTrick 95 = .ok (.dup, 1) := by decide +kernel
theorem dX2_readTrick_96 : decode cX2_readTrick 96 = .ok (.iload_n 2, 1) := by decide +kernel
theorem dX2_readTrick_97 : decode cX2_readTrick 97 = .ok (.iload_n 3, 1) := by decide +kernel
theorem dX2_readTrick_98 : decode cX2_readTrick 98 = .ok (.iload 4, 2) := by decide +kernel
theorem dX2_readTrick_100 : decode cX2_readTrick 100 = .ok (.invokespecial 76, 3) := by decide +kernel
theorem dX2_readTrick_103 : decode cX2_readTrick 103 = .ok (.areturn, 1) := by decide +kernel
theorem dX2_readTrick_104 : decode cX2_readTrick 104 = .ok (.new 77, 3) := by decide +kernel
theorem dX2_readTrick_107 : decode cX2_readTrick 107 = .ok (.dup, 1) := by decide +kernel
theorem dX2_readTrick_108 : decode cX2_readTrick 108 = .ok (.iload_n 2, 1) := by decide +kernel
theorem dX2_readTrick_109 : decode cX2_readTrick 109 = .ok (.iload_n 3, 1) := by decide +kernel
theorem dX2_readTrick_110 : decode cX2_readTrick 110 = .ok (.iload 4, 2) := by decide +kernel
theorem dX2_readTrick_112 : decode cX2_readTrick 112 = .ok (.invokespecial 79, 3) := by decide +kernel
theorem dX2_readTrick_115 : decode cX2_readTrick 115 = .ok (.areturn, 1) := by decide +kernel
theorem dX2_readTrick_116 : decode cX2_readTrick 116 = .ok (.new 55, 3) := by decide +kernel
theorem dX2_readTrick_119 : decode cX2_readTrick 119 = .ok (.dup, 1) := by decide +kernel
theorem dX2_readTrick_120 : decode cX2_readTrick 120 = .ok (.iload_n 2, 1) := by decide +kernel
theorem dX2_readTrick_121 : decode cX2_readTrick 121 = .ok (.iload_n 3, 1) := by decide +kernel
theorem dX2_readTrick_122 : decode cX2_readTrick 122 = .ok (.iload 4, 2) := by decide +kernel
theorem dX2_readTrick_124 : decode cX2_readTrick 124 = .ok (.invokespecial 80, 3) := by decide +kernel
theorem dX2_readTrick_127 : decode cX2_readTrick 127 = .ok (.areturn, 1) := by decide +kernel
theorem dX2_readPeople_0 : decode cX2_readPeople 0 = .ok (.aload_n 0, 1) := by decide +kernel
theorem dX2_readPeople_1 : decode cX2_readPeople 1 = .ok (.invokevirtual 19, 3) := by decide +kernel
theorem dX2_readPeople_4 : decode cX2_readPeople 4 = .ok (.iconst 1, 1) := by decide +kernel
theorem dX2_readPeople_5 : decode cX2_readPeople 5 = .ok (.iadd, 1) := by decide +kernel
theorem dX2_readPeople_6 : decode cX2_readPeople 6 = .ok (.istore_n 3, 1) := by decide +kernel
theorem dX2_readPeople_7 : decode cX2_readPeople 7 = .ok (.aload_n 1, 1) := by decide +kernel
theorem dX2_readPeople_8 : decode cX2_readPeople 8 = .ok (.iload_n 2, 1) := by decide +kernel
theorem dX2_readPeople_9 : decode cX2_readPeople 9 = .ok (.invokevirtual 81, 3) := by decide +kernel
theorem dX2_readPeople_12 : decode cX2_readPeople 12 = .ok (.iconst 0, 1) := by decide +kernel
theorem dX2_readPeople_13 : decode cX2_readPeople 13 = .ok (.istore 4, 2) := by decide +kernel
theorem dX2_readPeople_15 : decode cX2_readPeople 15 = .ok (.iload 4, 2) := by decide +kernel
theorem dX2_readPeople_17 : decode cX2_readPeople 17 = .ok (.iload_n 2, 1) := by decide +kernel
theorem dX2_readPeople_18 : decode cX2_readPeople 18 = .ok (.if_icmp .ge 45, 3) := by decide +kernel
theorem dX2_readPeople_21 : decode cX2_readPeople 21 = .ok (.aload_n 1, 1) := by decide +kernel
theorem dX2_readPeople_22 : decode cX2_readPeople 22 = .ok (.getfield 87, 3) := by decide +kernel
theorem dX2_readPeople_25 : decode cX2_readPeople 25 = .ok (.iload 4, 2) := by decide +kernel
theorem dX2_readPeople_27 : decode cX2_readPeople 27 = .ok (.aload_n 0, 1) := by decide +kernel
theorem dX2_readPeople_28 : decode cX2_readPeople 28 = .ok (.iload_n 3, 1) := by decide +kernel
theorem dX2_readPeople_29 : decode cX2_readPeople 29 = .ok (.iconst 2, 1) := by decide +kernel
theorem dX2_readPeople_30 : decode cX2_readPeople 30 = .ok (.iload 4, 2) := by decide +kernel
theorem dX2_readPeople_32 : decode cX2_readPeople 32 = .ok (.imul, 1) := by decide +kernel
theorem dX2_readPeople_33 : decode cX2_readPeople 33 = .ok (.iadd, 1) := by decide +kernel
theorem dX2_readPeople_34 : decode cX2_readPeople 34 = .ok (.invokevirtual 46, 3) := by decide +kernel
theorem dX2_readPeople_37 : decode cX2_readPeople 37 = .ok (.iastore, 1) := by decide +kernel
theorem dX2_readPeople_38 : decode cX2_readPeople 38 = .ok (.aload_n 1, 1) := by decide +kernel
theorem dX2_readPeople_39 : decode cX2_readPeople 39 = .ok (.getfield 90, 3) := by decide +kernel
theorem dX2_readPeople_42 : decode cX2_readPeople 42 = .ok (.iload 4, 2) := by decide +kernel
theorem dX2_readPeople_44 : decode cX2_readPeople 44 = .ok (.aload_n 0, 1) := by decide +kernel
theorem dX2_readPeople_45 : decode cX2_readPeople 45 = .ok (.iload_n 3, 1) := by decide +kernel
theorem dX2_readPeople_46 : decode cX2_readPeople 46 = .ok (.iconst 2, 1) := by decide +kernel
theorem dX2_readPeople_47 : decode cX2_readPeople 47 = .ok (.iload 4, 2) := by decide +kernel
theorem dX2_readPeople_49 : decode cX2_readPeople 49 = .ok (.imul, 1) := by decide +kernel
theorem dX2_readPeople_50 : decode cX2_readPeople 50 = .ok (.iadd, 1) := by decide +kernel
theorem dX2_readPeople_51 : decode cX2_readPeople 51 = .ok (.iconst 1, 1) := by decide +kernel
theorem dX2_readPeople_52 : decode cX2_readPeople 52 = .ok (.iadd, 1) := by decide +kernel
theorem dX2_readPeople_53 : decode cX2_readPeople 53 = .ok (.invokevirtual 46, 3) := by decide +kernel
theorem dX2_readPeople_56 : decode cX2_readPeople 56 = .ok (.iastore, 1) := by decide +kernel
theorem dX2_readPeople_57 : decode cX2_readPeople 57 = .ok (.iinc 4 1, 3) := by decide +kernel
theorem dX2_readPeople_60 : decode cX2_readPeople 60 = .ok (.goto (-45), 3) := by decide +kernel
theorem dX2_readPeople_63 : decode cX2_readPeople 63 = .ok (.return_, 1) := by decide +kernel
theorem dX3_init_0 : decode cX3_init 0 = .ok (.aload_n 0, 1) := by decide +kernel
theorem dX3_init_1 : decode cX3_init 1 = .ok (.iload_n 1, 1) := by decide +kernel
theorem dX3_init_2 : decode cX3_init 2 = .ok (.iload_n 2, 1) := by decide +kernel
theorem dX3_init_3 : decode cX3_init 3 = .ok (.iload_n 3, 1) := by decide +kernel
theorem dX3_init_4 : decode cX3_init 4 = .ok (.invokespecial 3, 3) := by decide +kernel
theorem dX3_init_7 : decode cX3_init 7 = .ok (.return_, 1) := by decide +kernel
theorem dX3_kind_0 : decode cX3_kind 0 = .ok (.iconst 1, 1) := by decide +kernel
theorem dX3_kind_1 : decode cX3_kind 1 = .ok (.ireturn, 1) := by decide +kernel
theorem dX3_crew_0 : decode cX3_crew 0 = .ok (.iconst 2, 1) := by decide +kernel
theorem dX3_crew_1 : decode cX3_crew 1 = .ok (.ireturn, 1) := by decide +kernel
theorem dX4_init_0 : decode cX4_init 0 = .ok (.aload_n 0, 1) := by decide +kernel
theorem dX4_init_1 : decode cX4_init 1 = .ok (.invokespecial 3, 3) := by decide +kernel
theorem dX4_init_4 : decode cX4_init 4 = .ok (.aload_n 0, 1) := by decide +kernel
theorem dX4_init_5 : decode cX4_init 5 = .ok (.iconst 5, 1) := by decide +kernel
theorem dX4_init_6 : decode cX4_init 6 = .ok (.newarray .int, 2) := by decide +kernel
theorem dX4_init_8 : decode cX4_init 8 = .ok (.putfield 9, 3) := by decide +kernel
theorem dX4_init_11 : decode cX4_init 11 = .ok (.aload_n 0, 1) := by decide +kernel
theorem dX4_init_12 : decode cX4_init 12 = .ok (.iconst 5, 1) := by decide +kernel
theorem dX4_init_13 : decode cX4_init 13 = .ok (.newarray .int, 2) := by decide +kernel
theorem dX4_init_15 : decode cX4_init 15 = .ok (.putfield 15, 3) := by decide +kernel
theorem dX4_init_18 : decode cX4_init 18 = .ok (.aload_n 0, 1) := by decide +kernel
theorem dX4_init_19 : decode cX4_init 19 = .ok (.iconst 5, 1) := by decide +kernel
theorem dX4_init_20 : decode cX4_init 20 = .ok (.newarray .int, 2) := by decide +kernel
theorem dX4_init_22 : decode cX4_init 22 = .ok (.putfield 18, 3) := by decide +kernel
theorem dX4_init_25 : decode cX4_init 25 = .ok (.aload_n 0, 1) := by decide +kernel
theorem dX4_init_26 : decode cX4_init 26 = .ok (.iconst 5, 1) := by decide +kernel
theorem dX4_init_27 : decode cX4_init 27 = .ok (.newarray .int, 2) := by decide +kernel
theorem dX4_init_29 : decode cX4_init 29 = .ok (.putfield 21, 3) := by decide +kernel
theorem dX4_init_32 : decode cX4_init 32 = .ok (.aload_n 0, 1) := by decide +kernel
theorem dX4_init_33 : decode cX4_init 33 = .ok (.bipush 32, 2) := by decide +kernel
theorem dX4_init_35 : decode cX4_init 35 = .ok (.newarray .int, 2) := by decide +kernel
theorem dX4_init_37 : decode cX4_init 37 = .ok (.putfield 24, 3) := by decide +kernel
theorem dX4_init_40 : decode cX4_init 40 = .ok (.iconst 0, 1) := by decide +kernel
theorem dX4_init_41 : decode cX4_init 41 = .ok (.istore_n 1, 1) := by decide +kernel
theorem dX4_init_42 : decode cX4_init 42 = .ok (.iload_n 1, 1) := by decide +kernel
theorem dX4_init_43 : decode cX4_init 43 = .ok (.bipush 32, 2) := by decide +kernel
theorem dX4_init_45 : decode cX4_init 45 = .ok (.if_icmp .ge 41, 3) := by decide +kernel
theorem dX4_init_48 : decode cX4_init 48 = .ok (.iconst 0, 1) := by decide +kernel
theorem dX4_init_49 : decode cX4_init 49 = .ok (.istore_n 2, 1) := by decide +kernel
theorem dX4_init_50 : decode cX4_init 50 = .ok (.iload_n 2, 1) := by decide +kernel
theorem dX4_init_51 : decode cX4_init 51 = .ok (.bipush 32, 2) := by decide +kernel
theorem dX4_init_53 : decode cX4_init 53 = .ok (.if_icmp .ge 27, 3) := by decide +kernel
theorem dX4_init_56 : decode cX4_init 56 = .ok (.iload_n 1, 1) := by decide +kernel
theorem dX4_init_57 : decode cX4_init 57 = .ok (.iload_n 2, 1) := by decide +kernel
theorem dX4_init_58 : decode cX4_init 58 = .ok (.iand, 1) := by decide +kernel
theorem dX4_init_59 : decode cX4_init 59 = .ok (.ifCond .ne 15, 3) := by decide +kernel
theorem dX4_init_62 : decode cX4_init 62 = .ok (.aload_n 0, 1) := by decide +kernel
theorem dX4_init_63 : decode cX4_init 63 = .ok (.getfield 24, 3) := by decide +kernel
theorem dX4_init_66 : decode cX4_init 66 = .ok (.iload_n 1, 1) := by decide +kernel
theorem dX4_init_67 : decode cX4_init 67 = .ok (.dup2, 1) := by decide +kernel
theorem dX4_init_68 : decode cX4_init 68 = .ok (.iaload, 1) := by decide +kernel
theorem dX4_init_69 : decode cX4_init 69 = .ok (.iconst 1, 1) := by decide +kernel
theorem dX4_init_70 : decode cX4_init 70 = .ok (.iload_n 2, 1) := by decide +kernel
theorem dX4_init_71 : decode cX4_init 71 = .ok (.ishl, 1) := by decide +kernel
theorem dX4_init_72 : decode cX4_init 72 = .ok (.ior, 1) := by decide +kernel
theorem dX4_init_73 : decode cX4_init 73 = .ok (.iastore, 1) := by decide +kernel
theorem dX4_init_74 : decode cX4_init 74 = .ok (.iinc 2 1, 3) := by decide +kernel
theorem dX4_init_77 : decode cX4_init 77 = .ok (.goto (-27), 3) := by decide +kernel
theorem dX4_init_80 : decode cX4_init 80 = .ok (.iinc 1 1, 3) := by decide +kernel
theorem dX4_init_83 : decode cX4_init 83 = .ok (.goto (-41), 3) := by decide +kernel
theorem dX4_init_86 : decode cX4_init 86 = .ok (.return_, 1) := by decide +kernel
theorem dX4_prepare_0 : decode cX4_prepare 0 = .ok (.aload_n 0, 1) := by decide +kernel
theorem dX4_prepare_1 : decode cX4_prepare 1 = .ok (.aload_n 1, 1) := by decide +kernel
theorem dX4_prepare_2 : decode cX4_prepare 2 = .ok (.getfield 27, 3) := by decide +kernel
theorem dX4_prepare_5 : decode cX4_prepare 5 = .ok (.arraylength, 1) := by decide +kernel
theorem dX4_prepare_6 : decode cX4_prepare 6 = .ok (.iconst 5, 1) := by decide +kernel
theorem dX4_prepare_7 : decode cX4_prepare 7 = .ok (.invokestatic 33, 3) := by decide +kernel
theorem dX4_prepare_10 : decode cX4_prepare 10 = .ok (.putfield 39, 3) := by decide +kernel
theorem dX4_prepare_13 : decode cX4_prepare 13 = .ok (.iconst 0, 1) := by decide +kernel
theorem dX4_prepare_14 : decode cX4_prepare 14 = .ok (.istore_n 3, 1) := by decide +kernel
theorem dX4_prepare_15 : decode cX4_prepare 15 = .ok (.iload_n 3, 1) := by decide +kernel
theorem dX4_prepare_16 : decode cX4_prepare 16 = .ok (.aload_n 0, 1) := by decide +kernel
theorem dX4_prepare_17 : decode cX4_prepare 17 = .ok (.getfield 39, 3) := by decide +kernel
theorem dX4_prepare_20 : decode cX4_prepare 20 = .ok (.if_icmp .ge 67, 3) := by decide +kernel
theorem dX4_prepare_23 : decode cX4_prepare 23 = .ok (.aload_n 0, 1) := by decide +kernel
theorem dX4_prepare_24 : decode cX4_prepare 24 = .ok (.getfield 21, 3) := by decide +kernel
theorem dX4_prepare_27 : decode cX4_prepare 27 = .ok (.iload_n 3, 1) := by decide +kernel
theorem dX4_prepare_28 : decode cX4_prepare 28 = .ok (.aload_n 1, 1) := by decide +kernel
theorem dX4_prepare_29 : decode cX4_prepare 29 = .ok (.iload_n 3, 1) := by decide +kernel
theorem dX4_prepare_30 : decode cX4_prepare 30 = .ok (.invokevirtual 42, 3) := by decide +kernel
theorem dX4_prepare_33 : decode cX4_prepare 33 = .ok (.iastore, 1) := by decide +kernel
theorem dX4_prepare_34 : decode cX4_prepare 34 = .ok (.aload_n 0, 1) := by decide +kernel
theorem dX4_prepare_35 : decode cX4_prepare 35 = .ok (.getfield 18, 3) := by decide +kernel
theorem dX4_prepare_38 : decode cX4_prepare 38 = .ok (.iload_n 3, 1) := by decide +kernel
theorem dX4_prepare_39 : decode cX4_prepare 39 = .ok (.iconst 0, 1) := by decide +kernel
theorem dX4_prepare_40 : decode cX4_prepare 40 = .ok (.iastore, 1) := by decide +kernel
theorem dX4_prepare_41 : decode cX4_prepare 41 = .ok (.iconst 1, 1) := by decide +kernel
theorem dX4_prepare_42 : decode cX4_prepare 42 = .ok (.istore 4, 2) := by decide +kernel
theorem dX4_prepare_44 : decode cX4_prepare 44 = .ok (.iload 4, 2) := by decide +kernel
theorem dX4_prepare_46 : decode cX4_prepare 46 = .ok (.bipush 32, 2) := by decide +kernel
theorem dX4_prepare_48 : decode cX4_prepare 48 = .ok (.if_icmp .ge 33, 3) := by decide +kernel
theorem dX4_prepare_51 : decode cX4_prepare 51 = .ok (.aload_n 1, 1) := by decide +kernel
theorem dX4_prepare_52 : decode cX4_prepare 52 = .ok (.iload_n 3, 1) := by decide +kernel
theorem dX4_prepare_53 : decode cX4_prepare 53 = .ok (.iload 4, 2) := by decide +kernel
theorem dX4_prepare_55 : decode cX4_prepare 55 = .ok (.aload_n 2, 1) := by decide +kernel
theorem dX4_prepare_56 : decode cX4_prepare 56 = .ok (.invokevirtual 46, 3) := by decide +kernel
theorem dX4_prepare_59 : decode cX4_prepare 59 = .ok (.ifCond .eq 16, 3) := by decide +kernel
theorem dX4_prepare_62 : decode cX4_prepare 62 = .ok (.aload_n 0, 1) := by decide +kernel
theorem dX4_prepare_63 : decode cX4_prepare 63 = .ok (.getfield 18, 3) := by decide +kernel
theorem dX4_prepare_66 : decode cX4_prepare 66 = .ok (.iload_n 3, 1) := by decide +kernel
theorem dX4_prepare_67 : decode cX4_prepare 67 = .ok (.dup2, 1) := by decide +kernel
theorem dX4_prepare_68 : decode cX4_prepare 68 = .ok (.iaload, 1) := by decide +kernel
theorem dX4_prepare_69 : decode cX4_prepare 69 = .ok (.iconst 1, 1) := by decide +kernel
theorem dX4_prepare_70 : decode cX4_prepare 70 = .ok (.iload 4, 2) := by decide +kernel
theorem dX4_prepare_72 : decode cX4_prepare 72 = .ok (.ishl, 1) := by decide +kernel
theorem dX4_prepare_73 : decode cX4_prepare 73 = .ok (.ior, 1) := by decide +kernel
theorem dX4_prepare_74 : decode cX4_prepare 74 = .ok (.iastore, 1) := by decide +kernel
theorem dX4_prepare_75 : decode cX4_prepare 75 = .ok (.iinc 4 1, 3) := by decide +kernel
theorem dX4_prepare_78 : decode cX4_prepare 78 = .ok (.goto (-34), 3) := by decide +kernel
theorem dX4_prepare_81 : decode cX4_prepare 81 = .ok (.iinc 3 1, 3) := by decide +kernel
theorem dX4_prepare_84 : decode cX4_prepare 84 = .ok (.goto (-69), 3) := by decide +kernel
theorem dX4_prepare_87 : decode cX4_prepare 87 = .ok (.return_, 1) := by decide +kernel
theorem dX4_search_0 : decode cX4_search 0 = .ok (.aload_n 0, 1) := by decide +kernel
theorem dX4_search_1 : decode cX4_search 1 = .ok (.bipush 31, 2) := by decide +kernel
theorem dX4_search_3 : decode cX4_search 3 = .ok (.iload_n 1, 1) := by decide +kernel
theorem dX4_search_4 : decode cX4_search 4 = .ok (.iconst (-1), 1) := by decide +kernel
theorem dX4_search_5 : decode cX4_search 5 = .ok (.ixor, 1) := by decide +kernel
theorem dX4_search_6 : decode cX4_search 6 = .ok (.iand, 1) := by decide +kernel
theorem dX4_search_7 : decode cX4_search 7 = .ok (.putfield 50, 3) := by decide +kernel
theorem dX4_search_10 : decode cX4_search 10 = .ok (.aload_n 0, 1) := by decide +kernel
theorem dX4_search_11 : decode cX4_search 11 = .ok (.iload_n 2, 1) := by decide +kernel
theorem dX4_search_12 : decode cX4_search 12 = .ok (.putfield 53, 3) := by decide +kernel
theorem dX4_search_15 : decode cX4_search 15 = .ok (.aload_n 0, 1) := by decide +kernel
theorem dX4_search_16 : decode cX4_search 16 = .ok (.getfield 9, 3) := by decide +kernel
theorem dX4_search_19 : decode cX4_search 19 = .ok (.iconst 0, 1) := by decide +kernel
theorem dX4_search_20 : decode cX4_search 20 = .ok (.invokestatic 56, 3) := by decide +kernel
theorem dX4_search_23 : decode cX4_search 23 = .ok (.aload_n 0, 1) := by decide +kernel
theorem dX4_search_24 : decode cX4_search 24 = .ok (.iconst 0, 1) := by decide +kernel
theorem dX4_search_25 : decode cX4_search 25 = .ok (.iconst 0, 1) := by decide +kernel
theorem dX4_search_26 : decode cX4_search 26 = .ok (.invokevirtual 62, 3) := by decide +kernel
theorem dX4_search_29 : decode cX4_search 29 = .ok (.aload_n 0, 1) := by decide +kernel
theorem dX4_search_30 : decode cX4_search 30 = .ok (.getfield 53, 3) := by decide +kernel
theorem dX4_search_33 : decode cX4_search 33 = .ok (.ireturn, 1) := by decide +kernel
theorem dX4_choose_0 : decode cX4_choose 0 = .ok (.iload_n 2, 1) := by decide +kernel
theorem dX4_choose_1 : decode cX4_choose 1 = .ok (.aload_n 0, 1) := by decide +kernel
theorem dX4_choose_2 : decode cX4_choose 2 = .ok (.iload_n 1, 1) := by decide +kernel
theorem dX4_choose_3 : decode cX4_choose 3 = .ok (.invokevirtual 66, 3) := by decide +kernel
theorem dX4_choose_6 : decode cX4_choose 6 = .ok (.iadd, 1) := by decide +kernel
theorem dX4_choose_7 : decode cX4_choose 7 = .ok (.aload_n 0, 1) := by decide +kernel
theorem dX4_choose_8 : decode cX4_choose 8 = .ok (.getfield 53, 3) := by decide +kernel
theorem dX4_choose_11 : decode cX4_choose 11 = .ok (.if_icmp .gt 4, 3) := by decide +kernel
theorem dX4_choose_14 : decode cX4_choose 14 = .ok (.return_, 1) := by decide +kernel
theorem dX4_choose_15 : decode cX4_choose 15 = .ok (.iload_n 1, 1) := by decide +kernel
theorem dX4_choose_16 : decode cX4_choose 16 = .ok (.aload_n 0, 1) := by decide +kernel
theorem dX4_choose_17 : decode cX4_choose 17 = .ok (.getfield 39, 3) := by decide +kernel
theorem dX4_choose_20 : decode cX4_choose 20 = .ok (.if_icmp .lt 26, 3) := by decide +kernel
theorem dX4_choose_23 : decode cX4_choose 23 = .ok (.aload_n 0, 1) := by decide +kernel
theorem dX4_choose_24 : decode cX4_choose 24 = .ok (.iload_n 2, 1) := by decide +kernel
theorem dX4_choose_25 : decode cX4_choose 25 = .ok (.putfield 53, 3) := by decide +kernel
theorem dX4_choose_28 : decode cX4_choose 28 = .ok (.aload_n 0, 1) := by decide +kernel
theorem dX4_choose_29 : decode cX4_choose 29 = .ok (.getfield 15, 3) := by decide +kernel
theorem dX4_choose_32 : decode cX4_choose 32 = .ok (.iconst 0, 1) := by decide +kernel
theorem dX4_choose_33 : decode cX4_choose 33 = .ok (.aload_n 0, 1) := by decide +kernel
theorem dX4_choose_34 : decode cX4_choose 34 = .ok (.getfield 9, 3) := by decide +kernel
theorem dX4_choose_37 : decode cX4_choose 37 = .ok (.iconst 0, 1) := by decide +kernel
theorem dX4_choose_38 : decode cX4_choose 38 = .ok (.aload_n 0, 1) := by decide +kernel
theorem dX4_choose_39 : decode cX4_choose 39 = .ok (.getfield 39, 3) := by decide +kernel
theorem dX4_choose_42 : decode cX4_choose 42 = .ok (.invokestatic 69, 3) := by decide +kernel
theorem dX4_choose_45 : decode cX4_choose 45 = .ok (.return_, 1) := by decide +kernel
theorem dX4_choose_46 : decode cX4_choose 46 = .ok (.aload_n 0, 1) := by decide +kernel
theorem dX4_choose_47 : decode cX4_choose 47 = .ok (.iload_n 1, 1) := by decide +kernel
theorem dX4_choose_48 : decode cX4_choose 48 = .ok (.iload_n 1, 1) := by decide +kernel
theorem dX4_choose_49 : decode cX4_choose 49 = .ok (.invokevirtual 75, 3) := by decide +kernel
theorem dX4_choose_52 : decode cX4_choose 52 = .ok (.istore_n 3, 1) := by decide +kernel
theorem dX4_choose_53 : decode cX4_choose 53 = .ok (.iload_n 3, 1) := by decide +kernel
theorem dX4_choose_54 : decode cX4_choose 54 = .ok (.ifCond .eq 11, 3) := by decide +kernel
theorem dX4_choose_57 : decode cX4_choose 57 = .ok (.aload_n 0, 1) := by decide +kernel
theorem dX4_choose_58 : decode cX4_choose 58 = .ok (.iload_n 1, 1) := by decide +kernel
theorem dX4_choose_59 : decode cX4_choose 59 = .ok (.invokevirtual 78, 3) := by decide +kernel
theorem dX4_choose_62 : decode cX4_choose 62 = .ok (.ifCond .eq 18, 3) := by decide +kernel
theorem dX4_choose_65 : decode cX4_choose 65 = .ok (.aload_n 0, 1) := by decide +kernel
theorem dX4_choose_66 : decode cX4_choose 66 = .ok (.getfield 15, 3) := by decide +kernel
theorem dX4_choose_69 : decode cX4_choose 69 = .ok (.iload_n 1, 1) := by decide +kernel
theorem dX4_choose_70 : decode cX4_choose 70 = .ok (.iconst 0, 1) := by decide +kernel
theorem dX4_choose_71 : decode cX4_choose 71 = .ok (.iastore, 1) := by decide +kernel
theorem dX4_choose_72 : decode cX4_choose 72 = .ok (.aload_n 0, 1) := by decide +kernel
theorem dX4_choose_73 : decode cX4_choose 73 = .ok (.iload_n 1, 1) := by decide +kernel
theorem dX4_choose_74 : decode cX4_choose 74 = .ok (.iconst 1, 1) := by decide +kernel
theorem dX4_choose_75 : decode cX4_choose 75 = .ok (.iadd, 1) := by decide +kernel
theorem dX4_choose_76 : decode cX4_choose 76 = .ok (.iload_n 2, 1) := by decide +kernel
theorem dX4_choose_77 : decode cX4_choose 77 = .ok (.invokevirtual 62, 3) := by decide +kernel
theorem dX4_choose_80 : decode cX4_choose 80 = .ok (.iconst 1, 1) := by decide +kernel
theorem dX4_choose_81 : decode cX4_choose 81 = .ok (.istore 4, 2) := by decide +kernel
theorem dX4_choose_83 : decode cX4_choose 83 = .ok (.iload 4, 2) := by decide +kernel
theorem dX4_choose_85 : decode cX4_choose 85 = .ok (.bipush 32, 2) := by decide +kernel
theorem dX4_choose_87 : decode cX4_choose 87 = .ok (.if_icmp .ge 45, 3) := by decide +kernel
theorem dX4_choose_90 : decode cX4_choose 90 = .ok (.iload_n 3, 1) := by decide +kernel
theorem dX4_choose_91 : decode cX4_choose 91 = .ok (.iload 4, 2) := by decide +kernel
theorem dX4_choose_93 : decode cX4_choose 93 = .ok (.invokestatic 82, 3) := by decide +kernel
theorem dX4_choose_96 : decode cX4_choose 96 = .ok (.ifCond .eq 30, 3) := by decide +kernel
theorem dX4_choose_99 : decode cX4_choose 99 = .ok (.aload_n 0, 1) := by decide +kernel
theorem dX4_choose_100 : decode cX4_choose 100 = .ok (.getfield 15, 3) := by decide +kernel
theorem dX4_choose_103 : decode cX4_choose 103 = .ok (.iload_n 1, 1) := by decide +kernel
theorem dX4_choose_104 : decode cX4_choose 104 = .ok (.iload 4, 2) := by decide +kernel
theorem dX4_choose_106 : decode cX4_choose 106 = .ok (.iastore, 1) := by decide +kernel
theorem dX4_choose_107 : decode cX4_choose 107 = .ok (.aload_n 0, 1) := by decide +kernel
theorem dX4_choose_108 : decode cX4_choose 108 = .ok (.iload_n 1, 1) := by decide +kernel
theorem dX4_choose_109 : decode cX4_choose 109 = .ok (.iconst 1, 1) := by decide +kernel
theorem dX4_choose_110 : decode cX4_choose 110 = .ok (.iadd, 1) := by decide +kernel
theorem dX4_choose_111 : decode cX4_choose 111 = .ok (.iload_n 2, 1) := by decide +kernel
theorem dX4_choose_112 : decode cX4_choose 112 = .ok (.iconst 1, 1) := by decide +kernel
theorem dX4_choose_113 : decode cX4_choose 113 = .ok (.iadd, 1) := by decide +kernel
theorem dX4_choose_114 : decode cX4_choose 114 = .ok (.invokevirtual 62, 3) := by decide +kernel
theorem dX4_choose_117 : decode cX4_choose 117 = .ok (.aload_n 0, 1) := by decide +kernel
theorem dX4_choose_118 : decode cX4_choose 118 = .ok (.iload_n 1, 1) := by decide +kernel
theorem dX4_choose_119 : decode cX4_choose 119 = .ok (.invokevirtual 78, 3) := by decide +kernel
theorem dX4_choose_122 : decode cX4_choose 122 = .ok (.ifCond .ne 4, 3) := by decide +kernel
theorem dX4_choose_125 : decode cX4_choose 125 = .ok (.return_, 1) := by decide +kernel
theorem dX4_choose_126 : decode cX4_choose 126 = .ok (.iinc 4 1, 3) := by decide +kernel
theorem dX4_choose_129 : decode cX4_choose 129 = .ok (.goto (-46), 3) := by decide +kernel
theorem dX4_choose_132 : decode cX4_choose 132 = .ok (.return_, 1) := by decide +kernel
theorem dX4_hindersLater_0 : decode cX4_hindersLater 0 = .ok (.aload_n 0, 1) := by decide +kernel
theorem dX4_hindersLater_1 : decode cX4_hindersLater 1 = .ok (.getfield 21, 3) := by decide +kernel
theorem dX4_hindersLater_4 : decode cX4_hindersLater 4 = .ok (.iload_n 1, 1) := by decide +kernel
theorem dX4_hindersLater_5 : decode cX4_hindersLater 5 = .ok (.iaload, 1) := by decide +kernel
theorem dX4_hindersLater_6 : decode cX4_hindersLater 6 = .ok (.iload_n 1, 1) := by decide +kernel
theorem dX4_hindersLater_7 : decode cX4_hindersLater 7 = .ok (.iconst 1, 1) := by decide +kernel
theorem dX4_hindersLater_8 : decode cX4_hindersLater 8 = .ok (.iadd, 1) := by decide +kernel
theorem dX4_hindersLater_9 : decode cX4_hindersLater 9 = .ok (.iushr, 1) := by decide +kernel
theorem dX4_hindersLater_10 : decode cX4_hindersLater 10 = .ok (.ifCond .eq 7, 3) := by decide +kernel
theorem dX4_hindersLater_13 : decode cX4_hindersLater 13 = .ok (.iconst 1, 1) := by decide +kernel
theorem dX4_hindersLater_14 : decode cX4_hindersLater 14 = .ok (.goto 4, 3) := by decide +kernel
theorem dX4_hindersLater_17 : decode cX4_hindersLater 17 = .ok (.iconst 0, 1) := by decide +kernel
theorem dX4_hindersLater_18 : decode cX4_hindersLater 18 = .ok (.ireturn, 1) := by decide +kernel
theorem dX4_stillOpen_0 : decode cX4_stillOpen 0 = .ok (.iconst 0, 1) := by decide +kernel
theorem dX4_stillOpen_1 : decode cX4_stillOpen 1 = .ok (.istore_n 2, 1) := by decide +kernel
theorem dX4_stillOpen_2 : decode cX4_stillOpen 2 = .ok (.iload_n 1, 1) := by decide +kernel
theorem dX4_stillOpen_3 : decode cX4_stillOpen 3 = .ok (.istore_n 3, 1) := by decide +kernel
theorem dX4_stillOpen_4 : decode cX4_stillOpen 4 = .ok (.iload_n 3, 1) := by decide +kernel
theorem dX4_stillOpen_5 : decode cX4_stillOpen 5 = .ok (.aload_n 0, 1) := by decide +kernel
theorem dX4_stillOpen_6 : decode cX4_stillOpen 6 = .ok (.getfield 39, 3) := by decide +kernel
theorem dX4_stillOpen_9 : decode cX4_stillOpen 9 = .ok (.if_icmp .ge 21, 3) := by decide +kernel
theorem dX4_stillOpen_12 : decode cX4_stillOpen 12 = .ok (.aload_n 0, 1) := by decide +kernel
theorem dX4_stillOpen_13 : decode cX4_stillOpen 13 = .ok (.iload_n 3, 1) := by decide +kernel
theorem dX4_stillOpen_14 : decode cX4_stillOpen 14 = .ok (.iload_n 1, 1) := by decide +kernel
theorem dX4_stillOpen_15 : decode cX4_stillOpen 15 = .ok (.invokevirtual 75, 3) := by decide +kernel
theorem dX4_stillOpen_18 : decode cX4_stillOpen 18 = .ok (.ifCond .eq 6, 3) := by decide +kernel
theorem dX4_stillOpen_21 : decode cX4_stillOpen 21 = .ok (.iinc 2 1, 3) := by decide +kernel
theorem dX4_stillOpen_24 : decode cX4_stillOpen 24 = .ok (.iinc 3 1, 3) := by decide +kernel
theorem dX4_stillOpen_27 : decode cX4_stillOpen 27 = .ok (.goto (-23), 3) := by decide +kernel
theorem dX4_stillOpen_30 : decode cX4_stillOpen 30 = .ok (.iload_n 2, 1) := by decide +kernel
theorem dX4_stillOpen_31 : decode cX4_stillOpen 31 = .ok (.ireturn, 1) := by decide +kernel
theorem dX4_openWays_0 : decode cX4_openWays 0 = .ok (.aload_n 0, 1) := by decide +kernel
theorem dX4_openWays_1 : decode cX4_openWays 1 = .ok (.getfield 50, 3) := by decide +kernel
theorem dX4_openWays_4 : decode cX4_openWays 4 = .ok (.istore_n 3, 1) := by decide +kernel
theorem dX4_openWays_5 : decode cX4_openWays 5 = .ok (.iconst 0, 1) := by decide +kernel
theorem dX4_openWays_6 : decode cX4_openWays 6 = .ok (.istore 4, 2) := by decide +kernel
theorem dX4_openWays_8 : decode cX4_openWays 8 = .ok (.iload 4, 2) := by decide +kernel
theorem dX4_openWays_10 : decode cX4_openWays 10 = .ok (.iload_n 2, 1) := by decide +kernel
theorem dX4_openWays_11 : decode cX4_openWays 11 = .ok (.if_icmp .ge 33, 3) := by decide +kernel
theorem dX4_openWays_14 : decode cX4_openWays 14 = .ok (.aload_n 0, 1) := by decide +kernel
theorem dX4_openWays_15 : decode cX4_openWays 15 = .ok (.getfield 21, 3) := by decide +kernel
theorem dX4_openWays_18 : decode cX4_openWays 18 = .ok (.iload_n 1, 1) := by decide +kernel
theorem dX4_openWays_19 : decode cX4_openWays 19 = .ok (.iaload, 1) := by decide +kernel
theorem dX4_openWays_20 : decode cX4_openWays 20 = .ok (.iload 4, 2) := by decide +kernel
theorem dX4_openWays_22 : decode cX4_openWays 22 = .ok (.invokestatic 82, 3) := by decide +kernel
theorem dX4_openWays_25 : decode cX4_openWays 25 = .ok (.ifCond .eq 13, 3) := by decide +kernel
theorem dX4_openWays_28 : decode cX4_openWays 28 = .ok (.iload_n 3, 1) := by decide +kernel
theorem dX4_openWays_29 : decode cX4_openWays 29 = .ok (.aload_n 0, 1) := by decide +kernel
theorem dX4_openWays_30 : decode cX4_openWays 30 = .ok (.getfield 15, 3) := by decide +kernel
theorem dX4_openWays_33 : decode cX4_openWays 33 = .ok (.iload 4, 2) := by decide +kernel
theorem dX4_openWays_35 : decode cX4_openWays 35 = .ok (.iaload, 1) := by decide +kernel
theorem dX4_openWays_36 : decode cX4_openWays 36 = .ok (.ior, 1) := by decide +kernel
theorem dX4_openWays_37 : decode cX4_openWays 37 = .ok (.istore_n 3, 1) := by decide +kernel
theorem dX4_openWays_38 : decode cX4_openWays 38 = .ok (.iinc 4 1, 3) := by decide +kernel
theorem dX4_openWays_41 : decode cX4_openWays 41 = .ok (.goto (-33), 3) := by decide +kernel
theorem dX4_openWays_44 : decode cX4_openWays 44 = .ok (.aload_n 0, 1) := by decide +kernel
theorem dX4_openWays_45 : decode cX4_openWays 45 = .ok (.getfield 18, 3) := by decide +kernel
theorem dX4_openWays_48 : decode cX4_openWays 48 = .ok (.iload_n 1, 1) := by decide +kernel
theorem dX4_openWays_49 : decode cX4_openWays 49 = .ok (.iaload, 1) := by decide +kernel
theorem dX4_openWays_50 : decode cX4_openWays 50 = .ok (.aload_n 0, 1) := by decide +kernel
theorem dX4_openWays_51 : decode cX4_openWays 51 = .ok (.getfield 24, 3) := by decide +kernel
theorem dX4_openWays_54 : decode cX4_openWays 54 = .ok (.iload_n 3, 1) := by decide +kernel
theorem dX4_openWays_55 : decode cX4_openWays 55 = .ok (.iaload, 1) := by decide +kernel
theorem dX4_openWays_56 : decode cX4_openWays 56 = .ok (.iand, 1) := by decide +kernel
theorem dX4_openWays_57 : decode cX4_openWays 57 = .ok (.ireturn, 1) := by decide +kernel
theorem dX4_fewestOf_0 : decode cX4_fewestOf 0 = .ok (.aload_n 0, 1) := by decide +kernel
theorem dX4_fewestOf_1 : decode cX4_fewestOf 1 = .ok (.iload_n 1, 1) := by decide +kernel
theorem dX4_fewestOf_2 : decode cX4_fewestOf 2 = .ok (.aload_n 0, 1) := by decide +kernel
theorem dX4_fewestOf_3 : decode cX4_fewestOf 3 = .ok (.getfield 39, 3) := by decide +kernel
theorem dX4_fewestOf_6 : decode cX4_fewestOf 6 = .ok (.iconst 1, 1) := by decide +kernel
theorem dX4_fewestOf_7 : decode cX4_fewestOf 7 = .ok (.isub, 1) := by decide +kernel
theorem dX4_fewestOf_8 : decode cX4_fewestOf 8 = .ok (.invokevirtual 86, 3) := by decide +kernel
theorem dX4_fewestOf_11 : decode cX4_fewestOf 11 = .ok (.aload_n 0, 1) := by decide +kernel
theorem dX4_fewestOf_12 : decode cX4_fewestOf 12 = .ok (.getfield 39, 3) := by decide +kernel
theorem dX4_fewestOf_15 : decode cX4_fewestOf 15 = .ok (.if_icmp .ge 5, 3) := by decide +kernel
theorem dX4_fewestOf_18 : decode cX4_fewestOf 18 = .ok (.iconst (-1), 1) := by decide +kernel
theorem dX4_fewestOf_19 : decode cX4_fewestOf 19 = .ok (.ireturn, 1) := by decide +kernel
theorem dX4_fewestOf_20 : decode cX4_fewestOf 20 = .ok (.iconst 1, 1) := by decide +kernel
theorem dX4_fewestOf_21 : decode cX4_fewestOf 21 = .ok (.istore_n 2, 1) := by decide +kernel
theorem dX4_fewestOf_22 : decode cX4_fewestOf 22 = .ok (.iload_n 2, 1) := by decide +kernel
theorem dX4_fewestOf_23 : decode cX4_fewestOf 23 = .ok (.iconst 5, 1) := by decide +kernel
theorem dX4_fewestOf_24 : decode cX4_fewestOf 24 = .ok (.if_icmp .gt 71, 3) := by decide +kernel
theorem dX4_fewestOf_27 : decode cX4_fewestOf 27 = .ok (.iconst 1, 1) := by decide +kernel
theorem dX4_fewestOf_28 : decode cX4_fewestOf 28 = .ok (.istore_n 3, 1) := by decide +kernel
theorem dX4_fewestOf_29 : decode cX4_fewestOf 29 = .ok (.iload_n 3, 1) := by decide +kernel
theorem dX4_fewestOf_30 : decode cX4_fewestOf 30 = .ok (.bipush 32, 2) := by decide +kernel
theorem dX4_fewestOf_32 : decode cX4_fewestOf 32 = .ok (.if_icmp .ge 57, 3) := by decide +kernel
theorem dX4_fewestOf_35 : decode cX4_fewestOf 35 = .ok (.iload_n 3, 1) := by decide +kernel
theorem dX4_fewestOf_36 : decode cX4_fewestOf 36 = .ok (.iload_n 1, 1) := by decide +kernel
theorem dX4_fewestOf_37 : decode cX4_fewestOf 37 = .ok (.iconst (-1), 1) := by decide +kernel
theorem dX4_fewestOf_38 : decode cX4_fewestOf 38 = .ok (.ixor, 1) := by decide +kernel
theorem dX4_fewestOf_39 : decode cX4_fewestOf 39 = .ok (.iand, 1) := by decide +kernel
theorem dX4_fewestOf_40 : decode cX4_fewestOf 40 = .ok (.ifCond .ne 15, 3) := by decide +kernel
theorem dX4_fewestOf_43 : decode cX4_fewestOf 43 = .ok (.iload_n 3, 1) := by decide +kernel
theorem dX4_fewestOf_44 : decode cX4_fewestOf 44 = .ok (.invokestatic 89, 3) := by decide +kernel
theorem dX4_fewestOf_47 : decode cX4_fewestOf 47 = .ok (.iload_n 2, 1) := by decide +kernel
theorem dX4_fewestOf_48 : decode cX4_fewestOf 48 = .ok (.if_icmp .ne 7, 3) := by decide +kernel
theorem dX4_fewestOf_51 : decode cX4_fewestOf 51 = .ok (.iconst 1, 1) := by decide +kernel
theorem dX4_fewestOf_52 : decode cX4_fewestOf 52 = .ok (.goto 4, 3) := by decide +kernel
theorem dX4_fewestOf_55 : decode cX4_fewestOf 55 = .ok (.iconst 0, 1) := by decide +kernel
theorem dX4_fewestOf_56 : decode cX4_fewestOf 56 = .ok (.istore 4, 2) := by decide +kernel
theorem dX4_fewestOf_58 : decode cX4_fewestOf 58 = .ok (.iload 4, 2) := by decide +kernel
theorem dX4_fewestOf_60 : decode cX4_fewestOf 60 = .ok (.ifCond .eq 23, 3) := by decide +kernel
theorem dX4_fewestOf_63 : decode cX4_fewestOf 63 = .ok (.aload_n 0, 1) := by decide +kernel
theorem dX4_fewestOf_64 : decode cX4_fewestOf 64 = .ok (.iload_n 3, 1) := by decide +kernel
theorem dX4_fewestOf_65 : decode cX4_fewestOf 65 = .ok (.aload_n 0, 1) := by decide +kernel
theorem dX4_fewestOf_66 : decode cX4_fewestOf 66 = .ok (.getfield 39, 3) := by decide +kernel
theorem dX4_fewestOf_69 : decode cX4_fewestOf 69 = .ok (.iconst 1, 1) := by decide +kernel
theorem dX4_fewestOf_70 : decode cX4_fewestOf 70 = .ok (.isub, 1) := by decide +kernel
theorem dX4_fewestOf_71 : decode cX4_fewestOf 71 = .ok (.invokevirtual 86, 3) := by decide +kernel
theorem dX4_fewestOf_74 : decode cX4_fewestOf 74 = .ok (.aload_n 0, 1) := by decide +kernel
theorem dX4_fewestOf_75 : decode cX4_fewestOf 75 = .ok (.getfield 39, 3) := by decide +kernel
theorem dX4_fewestOf_78 : decode cX4_fewestOf 78 = .ok (.if_icmp .lt 5, 3) := by decide +kernel
theorem dX4_fewestOf_81 : decode cX4_fewestOf 81 = .ok (.iload_n 3, 1) := by decide +kernel
theorem dX4_fewestOf_82 : decode cX4_fewestOf 82 = .ok (.ireturn, 1) := by decide +kernel
theorem dX4_fewestOf_83 : decode cX4_fewestOf 83 = .ok (.iinc 3 1, 3) := by decide +kernel
theorem dX4_fewestOf_86 : decode cX4_fewestOf 86 = .ok (.goto (-57), 3) := by decide +kernel
theorem dX4_fewestOf_89 : decode cX4_fewestOf 89 = .ok (.iinc 2 1, 3) := by decide +kernel
theorem dX4_fewestOf_92 : decode cX4_fewestOf 92 = .ok (.goto (-70), 3) := by decide +kernel
theorem dX4_fewestOf_95 : decode cX4_fewestOf 95 = .ok (.iconst (-1), 1) := by decide +kernel
theorem dX4_fewestOf_96 : decode cX4_fewestOf 96 = .ok (.ireturn, 1) := by decide +kernel
theorem dX4_sparedOf_0 : decode cX4_sparedOf 0 = .ok (.aload_n 0, 1) := by decide +kernel
theorem dX4_sparedOf_1 : decode cX4_sparedOf 1 = .ok (.iload_n 1, 1) := by decide +kernel
theorem dX4_sparedOf_2 : decode cX4_sparedOf 2 = .ok (.iconst (-1), 1) := by decide +kernel
theorem dX4_sparedOf_3 : decode cX4_sparedOf 3 = .ok (.invokevirtual 86, 3) := by decide +kernel
theorem dX4_sparedOf_6 : decode cX4_sparedOf 6 = .ok (.istore_n 2, 1) := by decide +kernel
theorem dX4_sparedOf_7 : decode cX4_sparedOf 7 = .ok (.iconst 0, 1) := by decide +kernel
theorem dX4_sparedOf_8 : decode cX4_sparedOf 8 = .ok (.istore_n 3, 1) := by decide +kernel
theorem dX4_sparedOf_9 : decode cX4_sparedOf 9 = .ok (.iconst 0, 1) := by decide +kernel
theorem dX4_sparedOf_10 : decode cX4_sparedOf 10 = .ok (.istore 4, 2) := by decide +kernel
theorem dX4_sparedOf_12 : decode cX4_sparedOf 12 = .ok (.iload 4, 2) := by decide +kernel
theorem dX4_sparedOf_14 : decode cX4_sparedOf 14 = .ok (.iconst 5, 1) := by decide +kernel
theorem dX4_sparedOf_15 : decode cX4_sparedOf 15 = .ok (.if_icmp .ge 44, 3) := by decide +kernel
theorem dX4_sparedOf_18 : decode cX4_sparedOf 18 = .ok (.iload_n 1, 1) := by decide +kernel
theorem dX4_sparedOf_19 : decode cX4_sparedOf 19 = .ok (.iload 4, 2) := by decide +kernel
theorem dX4_sparedOf_21 : decode cX4_sparedOf 21 = .ok (.invokestatic 82, 3) := by decide +kernel
theorem dX4_sparedOf_24 : decode cX4_sparedOf 24 = .ok (.ifCond .eq 29, 3) := by decide +kernel
theorem dX4_sparedOf_27 : decode cX4_sparedOf 27 = .ok (.aload_n 0, 1) := by decide +kernel
theorem dX4_sparedOf_28 : decode cX4_sparedOf 28 = .ok (.iload_n 1, 1) := by decide +kernel
theorem dX4_sparedOf_29 : decode cX4_sparedOf 29 = .ok (.iconst 1, 1) := by decide +kernel
theorem dX4_sparedOf_30 : decode cX4_sparedOf 30 = .ok (.iload 4, 2) := by decide +kernel
theorem dX4_sparedOf_32 : decode cX4_sparedOf 32 = .ok (.ishl, 1) := by decide +kernel
theorem dX4_sparedOf_33 : decode cX4_sparedOf 33 = .ok (.iconst (-1), 1) := by decide +kernel
theorem dX4_sparedOf_34 : decode cX4_sparedOf 34 = .ok (.ixor, 1) := by decide +kernel
theorem dX4_sparedOf_35 : decode cX4_sparedOf 35 = .ok (.iand, 1) := by decide +kernel
theorem dX4_sparedOf_36 : decode cX4_sparedOf 36 = .ok (.iload_n 2, 1) := by decide +kernel
theorem dX4_sparedOf_37 : decode cX4_sparedOf 37 = .ok (.iconst 1, 1) := by decide +kernel
theorem dX4_sparedOf_38 : decode cX4_sparedOf 38 = .ok (.isub, 1) := by decide +kernel
theorem dX4_sparedOf_39 : decode cX4_sparedOf 39 = .ok (.invokevirtual 86, 3) := by decide +kernel
theorem dX4_sparedOf_42 : decode cX4_sparedOf 42 = .ok (.iload_n 2, 1) := by decide +kernel
theorem dX4_sparedOf_43 : decode cX4_sparedOf 43 = .ok (.if_icmp .lt 10, 3) := by decide +kernel
theorem dX4_sparedOf_46 : decode cX4_sparedOf 46 = .ok (.iload_n 3, 1) := by decide +kernel
theorem dX4_sparedOf_47 : decode cX4_sparedOf 47 = .ok (.iconst 1, 1) := by decide +kernel
theorem dX4_sparedOf_48 : decode cX4_sparedOf 48 = .ok (.iload 4, 2) := by decide +kernel
theorem dX4_sparedOf_50 : decode cX4_sparedOf 50 = .ok (.ishl, 1) := by decide +kernel
theorem dX4_sparedOf_51 : decode cX4_sparedOf 51 = .ok (.ior, 1) := by decide +kernel
theorem dX4_sparedOf_52 : decode cX4_sparedOf 52 = .ok (.istore_n 3, 1) := by decide +kernel
theorem dX4_sparedOf_53 : decode cX4_sparedOf 53 = .ok (.iinc 4 1, 3) := by decide +kernel
theorem dX4_sparedOf_56 : decode cX4_sparedOf 56 = .ok (.goto (-44), 3) := by decide +kernel
theorem dX4_sparedOf_59 : decode cX4_sparedOf 59 = .ok (.iload_n 3, 1) := by decide +kernel
theorem dX4_sparedOf_60 : decode cX4_sparedOf 60 = .ok (.ireturn, 1) := by decide +kernel
theorem dX5_init_0 : decode cX5_init 0 = .ok (.aload_n 0, 1) := by decide +kernel
theorem dX5_init_1 : decode cX5_init 1 = .ok (.iload_n 1, 1) := by decide +kernel
theorem dX5_init_2 : decode cX5_init 2 = .ok (.iload_n 2, 1) := by decide +kernel
theorem dX5_init_3 : decode cX5_init 3 = .ok (.iload_n 3, 1) := by decide +kernel
theorem dX5_init_4 : decode cX5_init 4 = .ok (.invokespecial 3, 3) := by decide +kernel
theorem dX5_init_7 : decode cX5_init 7 = .ok (.return_, 1) := by decide +kernel
theorem dX5_kind_0 : decode cX5_kind 0 = .ok (.iconst 4, 1) := by decide +kernel
theorem dX5_kind_1 : decode cX5_kind 1 = .ok (.ireturn, 1) := by decide +kernel
theorem dX5_suits_0 : decode cX5_suits 0 = .ok (.iconst 1, 1) := by decide +kernel
theorem dX5_suits_1 : decode cX5_suits 1 = .ok (.ireturn, 1) := by decide +kernel
theorem dX5_holdsWith_0 : decode cX5_holdsWith 0 = .ok (.iload_n 1, 1) := by decide +kernel
theorem dX5_holdsWith_1 : decode cX5_holdsWith 1 = .ok (.aload_n 0, 1) := by decide +kernel
theorem dX5_holdsWith_2 : decode cX5_holdsWith 2 = .ok (.getfield 9, 3) := by decide +kernel
theorem dX5_holdsWith_5 : decode cX5_holdsWith 5 = .ok (.if_icmp .lt 7, 3) := by decide +kernel
theorem dX5_holdsWith_8 : decode cX5_holdsWith 8 = .ok (.iconst 1, 1) := by decide +kernel
theorem dX5_holdsWith_9 : decode cX5_holdsWith 9 = .ok (.goto 4, 3) := by decide +kernel
theorem dX5_holdsWith_12 : decode cX5_holdsWith 12 = .ok (.iconst 0, 1) := by decide +kernel
theorem dX5_holdsWith_13 : decode cX5_holdsWith 13 = .ok (.ireturn, 1) := by decide +kernel
theorem dX6_init_0 : decode cX6_init 0 = .ok (.aload_n 0, 1) := by decide +kernel
theorem dX6_init_1 : decode cX6_init 1 = .ok (.iload_n 1, 1) := by decide +kernel
theorem dX6_init_2 : decode cX6_init 2 = .ok (.iload_n 2, 1) := by decide +kernel
theorem dX6_init_3 : decode cX6_init 3 = .ok (.iload_n 3, 1) := by decide +kernel
theorem dX6_init_4 : decode cX6_init 4 = .ok (.invokespecial 3, 3) := by decide +kernel
theorem dX6_init_7 : decode cX6_init 7 = .ok (.return_, 1) := by decide +kernel
theorem dX6_kind_0 : decode cX6_kind 0 = .ok (.iconst 2, 1) := by decide +kernel
theorem dX6_kind_1 : decode cX6_kind 1 = .ok (.ireturn, 1) := by decide +kernel
theorem dX6_suits_0 : decode cX6_suits 0 = .ok (.iload_n 1, 1) := by decide +kernel
theorem dX6_suits_1 : decode cX6_suits 1 = .ok (.aload_n 0, 1) := by decide +kernel
theorem dX6_suits_2 : decode cX6_suits 2 = .ok (.getfield 9, 3) := by decide +kernel
theorem dX6_suits_5 : decode cX6_suits 5 = .ok (.if_icmp .gt 7, 3) := by decide +kernel
theorem dX6_suits_8 : decode cX6_suits 8 = .ok (.iconst 1, 1) := by decide +kernel
theorem dX6_suits_9 : decode cX6_suits 9 = .ok (.goto 4, 3) := by decide +kernel
theorem dX6_suits_12 : decode cX6_suits 12 = .ok (.iconst 0, 1) := by decide +kernel
theorem dX6_suits_13 : decode cX6_suits 13 = .ok (.ireturn, 1) := by decide +kernel
theorem dX7_init_0 : decode cX7_init 0 = .ok (.aload_n 0, 1) := by decide +kernel
theorem dX7_init_1 : decode cX7_init 1 = .ok (.invokespecial 3, 3) := by decide +kernel
theorem dX7_init_4 : decode cX7_init 4 = .ok (.aload_n 0, 1) := by decide +kernel
theorem dX7_init_5 : decode cX7_init 5 = .ok (.iconst 5, 1) := by decide +kernel
theorem dX7_init_6 : decode cX7_init 6 = .ok (.newarray .int, 2) := by decide +kernel
theorem dX7_init_8 : decode cX7_init 8 = .ok (.putfield 9, 3) := by decide +kernel
theorem dX7_init_11 : decode cX7_init 11 = .ok (.aload_n 0, 1) := by decide +kernel
theorem dX7_init_12 : decode cX7_init 12 = .ok (.iconst 5, 1) := by decide +kernel
theorem dX7_init_13 : decode cX7_init 13 = .ok (.newarray .int, 2) := by decide +kernel
theorem dX7_init_15 : decode cX7_init 15 = .ok (.putfield 15, 3) := by decide +kernel
theorem dX7_init_18 : decode cX7_init 18 = .ok (.return_, 1) := by decide +kernel
theorem dX7_go_0 : decode cX7_go 0 = .ok (.aload_n 0, 1) := by decide +kernel
theorem dX7_go_1 : decode cX7_go 1 = .ok (.iconst 0, 1) := by decide +kernel
theorem dX7_go_2 : decode cX7_go 2 = .ok (.putfield 18, 3) := by decide +kernel
theorem dX7_go_5 : decode cX7_go 5 = .ok (.aload_n 0, 1) := by decide +kernel
theorem dX7_go_6 : decode cX7_go 6 = .ok (.iconst 0, 1) := by decide +kernel
theorem dX7_go_7 : decode cX7_go 7 = .ok (.putfield 22, 3) := by decide +kernel
theorem dX7_go_10 : decode cX7_go 10 = .ok (.aload_n 0, 1) := by decide +kernel
theorem dX7_go_11 : decode cX7_go 11 = .ok (.iconst 0, 1) := by decide +kernel
theorem dX7_go_12 : decode cX7_go 12 = .ok (.putfield 25, 3) := by decide +kernel
theorem dX7_go_15 : decode cX7_go 15 = .ok (.aload_n 0, 1) := by decide +kernel
theorem dX7_go_16 : decode cX7_go 16 = .ok (.iload_n 3, 1) := by decide +kernel
theorem dX7_go_17 : decode cX7_go 17 = .ok (.putfield 28, 3) := by decide +kernel
theorem dX7_go_20 : decode cX7_go 20 = .ok (.iconst 0, 1) := by decide +kernel
theorem dX7_go_21 : decode cX7_go 21 = .ok (.istore 4, 2) := by decide +kernel
theorem dX7_go_23 : decode cX7_go 23 = .ok (.iload 4, 2) := by decide +kernel
theorem dX7_go_25 : decode cX7_go 25 = .ok (.iload_n 2, 1) := by decide +kernel
theorem dX7_go_26 : decode cX7_go 26 = .ok (.if_icmp .ge 26, 3) := by decide +kernel
theorem dX7_go_29 : decode cX7_go 29 = .ok (.aload_n 0, 1) := by decide +kernel
theorem dX7_go_30 : decode cX7_go 30 = .ok (.aload_n 0, 1) := by decide +kernel
theorem dX7_go_31 : decode cX7_go 31 = .ok (.invokevirtual 31, 3) := by decide +kernel
theorem dX7_go_34 : decode cX7_go 34 = .ok (.invokevirtual 35, 3) := by decide +kernel
theorem dX7_go_37 : decode cX7_go 37 = .ok (.aload_n 0, 1) := by decide +kernel
theorem dX7_go_38 : decode cX7_go 38 = .ok (.aload_n 0, 1) := by decide +kernel
theorem dX7_go_39 : decode cX7_go 39 = .ok (.aload_n 1, 1) := by decide +kernel
theorem dX7_go_40 : decode cX7_go 40 = .ok (.invokevirtual 39, 3) := by decide +kernel
theorem dX7_go_43 : decode cX7_go 43 = .ok (.invokevirtual 43, 3) := by decide +kernel
theorem dX7_go_46 : decode cX7_go 46 = .ok (.iinc 4 1, 3) := by decide +kernel
theorem dX7_go_49 : decode cX7_go 49 = .ok (.goto (-26), 3) := by decide +kernel
theorem dX7_go_52 : decode cX7_go 52 = .ok (.return_, 1) := by decide +kernel
theorem dX7_drawStrong_0 : decode cX7_drawStrong 0 = .ok (.aload_n 0, 1) := by decide +kernel
theorem dX7_drawStrong_1 : decode cX7_drawStrong 1 = .ok (.ldc2_w 46, 3) := by decide +kernel
theorem dX7_drawStrong_4 : decode cX7_drawStrong 4 = .ok (.aload_n 0, 1) := by decide +kernel
theorem dX7_drawStrong_5 : decode cX7_drawStrong 5 = .ok (.getfield 28, 3) := by decide +kernel
theorem dX7_drawStrong_8 : decode cX7_drawStrong 8 = .ok (.i2l, 1) := by decide +kernel
theorem dX7_drawStrong_9 : decode cX7_drawStrong 9 = .ok (.lmul, 1) := by decide +kernel
theorem dX7_drawStrong_10 : decode cX7_drawStrong 10 = .ok (.ldc2_w 48, 3) := by decide +kernel
theorem dX7_drawStrong_13 : decode cX7_drawStrong 13 = .ok (.ladd, 1) := by decide +kernel
theorem dX7_drawStrong_14 : decode cX7_drawStrong 14 = .ok (.ldc2_w 50, 3) := by decide +kernel
theorem dX7_drawStrong_17 : decode cX7_drawStrong 17 = .ok (.land, 1) := by decide +kernel
theorem dX7_drawStrong_18 : decode cX7_drawStrong 18 = .ok (.l2i, 1) := by decide +kernel
theorem dX7_drawStrong_19 : decode cX7_drawStrong 19 = .ok (.putfield 28, 3) := by decide +kernel
theorem dX7_drawStrong_22 : decode cX7_drawStrong 22 = .ok (.aload_n 0, 1) := by decide +kernel
theorem dX7_drawStrong_23 : decode cX7_drawStrong 23 = .ok (.getfield 28, 3) := by decide +kernel
theorem dX7_drawStrong_26 : decode cX7_drawStrong 26 = .ok (.ldc 52, 2) := by decide +kernel
theorem dX7_drawStrong_28 : decode cX7_drawStrong 28 = .ok (.idiv, 1) := by decide +kernel
theorem dX7_drawStrong_29 : decode cX7_drawStrong 29 = .ok (.bipush 10, 2) := by decide +kernel
theorem dX7_drawStrong_31 : decode cX7_drawStrong 31 = .ok (.irem, 1) := by decide +kernel
theorem dX7_drawStrong_32 : decode cX7_drawStrong 32 = .ok (.ireturn, 1) := by decide +kernel
theorem dX7_callUp_0 : decode cX7_callUp 0 = .ok (.aload_n 0, 1) := by decide +kernel
theorem dX7_callUp_1 : decode cX7_callUp 1 = .ok (.getfield 18, 3) := by decide +kernel
theorem dX7_callUp_4 : decode cX7_callUp 4 = .ok (.iconst 5, 1) := by decide +kernel
theorem dX7_callUp_5 : decode cX7_callUp 5 = .ok (.if_icmp .ge 23, 3) := by decide +kernel
theorem dX7_callUp_8 : decode cX7_callUp 8 = .ok (.aload_n 0, 1) := by decide +kernel
theorem dX7_callUp_9 : decode cX7_callUp 9 = .ok (.getfield 9, 3) := by decide +kernel
theorem dX7_callUp_12 : decode cX7_callUp 12 = .ok (.aload_n 0, 1) := by decide +kernel
theorem dX7_callUp_13 : decode cX7_callUp 13 = .ok (.getfield 18, 3) := by decide +kernel
theorem dX7_callUp_16 : decode cX7_callUp 16 = .ok (.iload_n 1, 1) := by decide +kernel
theorem dX7_callUp_17 : decode cX7_callUp 17 = .ok (.iastore, 1) := by decide +kernel
theorem dX7_callUp_18 : decode cX7_callUp 18 = .ok (.aload_n 0, 1) := by decide +kernel
theorem dX7_callUp_19 : decode cX7_callUp 19 = .ok (.dup, 1) := by decide +kernel
theorem dX7_callUp_20 : decode cX7_callUp 20 = .ok (.getfield 18, 3) := by decide +kernel
theorem dX7_callUp_23 : decode cX7_callUp 23 = .ok (.iconst 1, 1) := by decide +kernel
theorem dX7_callUp_24 : decode cX7_callUp 24 = .ok (.iadd, 1) := by decide +kernel
theorem dX7_callUp_25 : decode cX7_callUp 25 = .ok (.putfield 18, 3) := by decide +kernel
theorem dX7_callUp_28 : decode cX7_callUp 28 = .ok (.return_, 1) := by decide +kernel
theorem dX7_play_0 : decode cX7_play 0 = .ok (.iconst 0, 1) := by decide +kernel
theorem dX7_play_1 : decode cX7_play 1 = .ok (.istore_n 2, 1) := by decide +kernel
theorem dX7_play_2 : decode cX7_play 2 = .ok (.aload_n 1, 1) := by decide +kernel
theorem dX7_play_3 : decode cX7_play 3 = .ok (.getfield 53, 3) := by decide +kernel
theorem dX7_play_6 : decode cX7_play 6 = .ok (.arraylength, 1) := by decide +kernel
theorem dX7_play_7 : decode cX7_play 7 = .ok (.iconst 5, 1) := by decide +kernel
theorem dX7_play_8 : decode cX7_play 8 = .ok (.invokestatic 59, 3) := by decide +kernel
theorem dX7_play_11 : decode cX7_play 11 = .ok (.istore_n 3, 1) := by decide +kernel
theorem dX7_play_12 : decode cX7_play 12 = .ok (.iconst 0, 1) := by decide +kernel
theorem dX7_play_13 : decode cX7_play 13 = .ok (.istore 4, 2) := by decide +kernel
theorem dX7_play_15 : decode cX7_play 15 = .ok (.iload 4, 2) := by decide +kernel
theorem dX7_play_17 : decode cX7_play 17 = .ok (.iload_n 3, 1) := by decide +kernel
theorem dX7_play_18 : decode cX7_play 18 = .ok (.if_icmp .ge 79, 3) := by decide +kernel
theorem dX7_play_21 : decode cX7_play 21 = .ok (.aload_n 0, 1) := by decide +kernel
theorem dX7_play_22 : decode cX7_play 22 = .ok (.getfield 15, 3) := by decide +kernel
theorem dX7_play_25 : decode cX7_play 25 = .ok (.iload 4, 2) := by decide +kernel
theorem dX7_play_27 : decode cX7_play 27 = .ok (.aload_n 0, 1) := by decide +kernel
theorem dX7_play_28 : decode cX7_play 28 = .ok (.aload_n 1, 1) := by decide +kernel
theorem dX7_play_29 : decode cX7_play 29 = .ok (.getfield 53, 3) := by decide +kernel
theorem dX7_play_32 : decode cX7_play 32 = .ok (.iload 4, 2) := by decide +kernel
theorem dX7_play_34 : decode cX7_play 34 = .ok (.aaload, 1) := by decide +kernel
theorem dX7_play_35 : decode cX7_play 35 = .ok (.aload_n 0, 1) := by decide +kernel
theorem dX7_play_36 : decode cX7_play 36 = .ok (.aload_n 1, 1) := by decide +kernel
theorem dX7_play_37 : decode cX7_play 37 = .ok (.iload 4, 2) := by decide +kernel
theorem dX7_play_39 : decode cX7_play 39 = .ok (.invokevirtual 65, 3) := by decide +kernel
theorem dX7_play_42 : decode cX7_play 42 = .ok (.iload 4, 2) := by decide +kernel
theorem dX7_play_44 : decode cX7_play 44 = .ok (.invokevirtual 69, 3) := by decide +kernel
theorem dX7_play_47 : decode cX7_play 47 = .ok (.invokevirtual 72, 3) := by decide +kernel
theorem dX7_play_50 : decode cX7_play 50 = .ok (.iastore, 1) := by decide +kernel
theorem dX7_play_51 : decode cX7_play 51 = .ok (.aload_n 1, 1) := by decide +kernel
theorem dX7_play_52 : decode cX7_play 52 = .ok (.iload 4, 2) := by decide +kernel
theorem dX7_play_54 : decode cX7_play 54 = .ok (.aload_n 0, 1) := by decide +kernel
theorem dX7_play_55 : decode cX7_play 55 = .ok (.getfield 15, 3) := by decide +kernel
theorem dX7_play_58 : decode cX7_play 58 = .ok (.iload 4, 2) := by decide +kernel
theorem dX7_play_60 : decode cX7_play 60 = .ok (.iaload, 1) := by decide +kernel
theorem dX7_play_61 : decode cX7_play 61 = .ok (.aload_n 0, 1) := by decide +kernel
theorem dX7_play_62 : decode cX7_play 62 = .ok (.getfield 9, 3) := by decide +kernel
theorem dX7_play_65 : decode cX7_play 65 = .ok (.invokevirtual 76, 3) := by decide +kernel
theorem dX7_play_68 : decode cX7_play 68 = .ok (.ifCond .eq 23, 3) := by decide +kernel
theorem dX7_play_71 : decode cX7_play 71 = .ok (.aload_n 0, 1) := by decide +kernel
theorem dX7_play_72 : decode cX7_play 72 = .ok (.dup, 1) := by decide +kernel
theorem dX7_play_73 : decode cX7_play 73 = .ok (.getfield 22, 3) := by decide +kernel
theorem dX7_play_76 : decode cX7_play 76 = .ok (.iconst 1, 1) := by decide +kernel
theorem dX7_play_77 : decode cX7_play 77 = .ok (.iadd, 1) := by decide +kernel
theorem dX7_play_78 : decode cX7_play 78 = .ok (.putfield 22, 3) := by decide +kernel
theorem dX7_play_81 : decode cX7_play 81 = .ok (.iload_n 2, 1) := by decide +kernel
theorem dX7_play_82 : decode cX7_play 82 = .ok (.aload_n 0, 1) := by decide +kernel
theorem dX7_play_83 : decode cX7_play 83 = .ok (.getfield 15, 3) := by decide +kernel
theorem dX7_play_86 : decode cX7_play 86 = .ok (.iload 4, 2) := by decide +kernel
theorem dX7_play_88 : decode cX7_play 88 = .ok (.iaload, 1) := by decide +kernel
theorem dX7_play_89 : decode cX7_play 89 = .ok (.ior, 1) := by decide +kernel
theorem dX7_play_90 : decode cX7_play 90 = .ok (.istore_n 2, 1) := by decide +kernel
theorem dX7_play_91 : decode cX7_play 91 = .ok (.iinc 4 1, 3) := by decide +kernel
theorem dX7_play_94 : decode cX7_play 94 = .ok (.goto (-79), 3) := by decide +kernel
theorem dX7_play_97 : decode cX7_play 97 = .ok (.iload_n 2, 1) := by decide +kernel
theorem dX7_play_98 : decode cX7_play 98 = .ok (.ireturn, 1) := by decide +kernel
theorem dX7_busyFor_0 : decode cX7_busyFor 0 = .ok (.iconst 0, 1) := by decide +kernel
theorem dX7_busyFor_1 : decode cX7_busyFor 1 = .ok (.istore_n 3, 1) := by decide +kernel
theorem dX7_busyFor_2 : decode cX7_busyFor 2 = .ok (.iconst 0, 1) := by decide +kernel
theorem dX7_busyFor_3 : decode cX7_busyFor 3 = .ok (.istore 4, 2) := by decide +kernel
theorem dX7_busyFor_5 : decode cX7_busyFor 5 = .ok (.iload 4, 2) := by decide +kernel
theorem dX7_busyFor_7 : decode cX7_busyFor 7 = .ok (.iload_n 2, 1) := by decide +kernel
theorem dX7_busyFor_8 : decode cX7_busyFor 8 = .ok (.if_icmp .ge 28, 3) := by decide +kernel
theorem dX7_busyFor_11 : decode cX7_busyFor 11 = .ok (.iload_n 1, 1) := by decide +kernel
theorem dX7_busyFor_12 : decode cX7_busyFor 12 = .ok (.iload 4, 2) := by decide +kernel
theorem dX7_busyFor_14 : decode cX7_busyFor 14 = .ok (.invokestatic 80, 3) := by decide +kernel
theorem dX7_busyFor_17 : decode cX7_busyFor 17 = .ok (.ifCond .eq 13, 3) := by decide +kernel
theorem dX7_busyFor_20 : decode cX7_busyFor 20 = .ok (.iload_n 3, 1) := by decide +kernel
theorem dX7_busyFor_21 : decode cX7_busyFor 21 = .ok (.aload_n 0, 1) := by decide +kernel
theorem dX7_busyFor_22 : decode cX7_busyFor 22 = .ok (.getfield 15, 3) := by decide +kernel
theorem dX7_busyFor_25 : decode cX7_busyFor 25 = .ok (.iload 4, 2) := by decide +kernel
theorem dX7_busyFor_27 : decode cX7_busyFor 27 = .ok (.iaload, 1) := by decide +kernel
theorem dX7_busyFor_28 : decode cX7_busyFor 28 = .ok (.ior, 1) := by decide +kernel
theorem dX7_busyFor_29 : decode cX7_busyFor 29 = .ok (.istore_n 3, 1) := by decide +kernel
theorem dX7_busyFor_30 : decode cX7_busyFor 30 = .ok (.iinc 4 1, 3) := by decide +kernel
theorem dX7_busyFor_33 : decode cX7_busyFor 33 = .ok (.goto (-28), 3) := by decide +kernel
theorem dX7_busyFor_36 : decode cX7_busyFor 36 = .ok (.iload_n 3, 1) := by decide +kernel
theorem dX7_busyFor_37 : decode cX7_busyFor 37 = .ok (.ireturn, 1) := by decide +kernel
theorem dX7_take_0 : decode cX7_take 0 = .ok (.iconst 0, 1) := by decide +kernel
theorem dX7_take_1 : decode cX7_take 1 = .ok (.istore_n 3, 1) := by decide +kernel
theorem dX7_take_2 : decode cX7_take 2 = .ok (.aload_n 1, 1) := by decide +kernel
theorem dX7_take_3 : decode cX7_take 3 = .ok (.invokevirtual 84, 3) := by decide +kernel
theorem dX7_take_6 : decode cX7_take 6 = .ok (.istore 4, 2) := by decide +kernel
theorem dX7_take_8 : decode cX7_take 8 = .ok (.iconst 0, 1) := by decide +kernel
theorem dX7_take_9 : decode cX7_take 9 = .ok (.istore 5, 2) := by decide +kernel
theorem dX7_take_11 : decode cX7_take 11 = .ok (.iload 5, 2) := by decide +kernel
theorem dX7_take_13 : decode cX7_take 13 = .ok (.aload_n 0, 1) := by decide +kernel
theorem dX7_take_14 : decode cX7_take 14 = .ok (.getfield 18, 3) := by decide +kernel
theorem dX7_take_17 : decode cX7_take 17 = .ok (.if_icmp .ge 47, 3) := by decide +kernel
theorem dX7_take_20 : decode cX7_take 20 = .ok (.iload 4, 2) := by decide +kernel
theorem dX7_take_22 : decode cX7_take 22 = .ok (.ifCond .le 42, 3) := by decide +kernel
theorem dX7_take_25 : decode cX7_take 25 = .ok (.iload_n 2, 1) := by decide +kernel
theorem dX7_take_26 : decode cX7_take 26 = .ok (.iload 5, 2) := by decide +kernel
theorem dX7_take_28 : decode cX7_take 28 = .ok (.invokestatic 80, 3) := by decide +kernel
theorem dX7_take_31 : decode cX7_take 31 = .ok (.ifCond .ne 27, 3) := by decide +kernel
theorem dX7_take_34 : decode cX7_take 34 = .ok (.aload_n 1, 1) := by decide +kernel
theorem dX7_take_35 : decode cX7_take 35 = .ok (.aload_n 0, 1) := by decide +kernel
theorem dX7_take_36 : decode cX7_take 36 = .ok (.getfield 9, 3) := by decide +kernel
theorem dX7_take_39 : decode cX7_take 39 = .ok (.iload 5, 2) := by decide +kernel
theorem dX7_take_41 : decode cX7_take 41 = .ok (.iaload, 1) := by decide +kernel
theorem dX7_take_42 : decode cX7_take 42 = .ok (.invokevirtual 89, 3) := by decide +kernel
theorem dX7_take_45 : decode cX7_take 45 = .ok (.ifCond .eq 13, 3) := by decide +kernel
theorem dX7_take_48 : decode cX7_take 48 = .ok (.iload_n 3, 1) := by decide +kernel
theorem dX7_take_49 : decode cX7_take 49 = .ok (.iconst 1, 1) := by decide +kernel
theorem dX7_take_50 : decode cX7_take 50 = .ok (.iload 5, 2) := by decide +kernel
theorem dX7_take_52 : decode cX7_take 52 = .ok (.ishl, 1) := by decide +kernel
theorem dX7_take_53 : decode cX7_take 53 = .ok (.ior, 1) := by decide +kernel
theorem dX7_take_54 : decode cX7_take 54 = .ok (.istore_n 3, 1) := by decide +kernel
theorem dX7_take_55 : decode cX7_take 55 = .ok (.iinc 4 (-1), 3) := by decide +kernel
theorem dX7_take_58 : decode cX7_take 58 = .ok (.iinc 5 1, 3) := by decide +kernel
theorem dX7_take_61 : decode cX7_take 61 = .ok (.goto (-50), 3) := by decide +kernel
theorem dX7_take_64 : decode cX7_take 64 = .ok (.iload_n 3, 1) := by decide +kernel
theorem dX7_take_65 : decode cX7_take 65 = .ok (.ireturn, 1) := by decide +kernel
theorem dX7_sendHome_0 : decode cX7_sendHome 0 = .ok (.iconst 0, 1) := by decide +kernel
theorem dX7_sendHome_1 : decode cX7_sendHome 1 = .ok (.istore_n 2, 1) := by decide +kernel
theorem dX7_sendHome_2 : decode cX7_sendHome 2 = .ok (.iload_n 2, 1) := by decide +kernel
theorem dX7_sendHome_3 : decode cX7_sendHome 3 = .ok (.aload_n 0, 1) := by decide +kernel
theorem dX7_sendHome_4 : decode cX7_sendHome 4 = .ok (.getfield 18, 3) := by decide +kernel
theorem dX7_sendHome_7 : decode cX7_sendHome 7 = .ok (.if_icmp .ge 17, 3) := by decide +kernel
theorem dX7_sendHome_10 : decode cX7_sendHome 10 = .ok (.iload_n 1, 1) := by decide +kernel
theorem dX7_sendHome_11 : decode cX7_sendHome 11 = .ok (.iload_n 2, 1) := by decide +kernel
theorem dX7_sendHome_12 : decode cX7_sendHome 12 = .ok (.invokestatic 80, 3) := by decide +kernel
theorem dX7_sendHome_15 : decode cX7_sendHome 15 = .ok (.ifCond .eq 9, 3) := by decide +kernel
theorem dX7_sendHome_18 : decode cX7_sendHome 18 = .ok (.iinc 2 1, 3) := by decide +kernel
theorem dX7_sendHome_21 : decode cX7_sendHome 21 = .ok (.goto (-19), 3) := by decide +kernel
theorem dX7_sendHome_24 : decode cX7_sendHome 24 = .ok (.iload_n 2, 1) := by decide +kernel
theorem dX7_sendHome_25 : decode cX7_sendHome 25 = .ok (.aload_n 0, 1) := by decide +kernel
theorem dX7_sendHome_26 : decode cX7_sendHome 26 = .ok (.getfield 18, 3) := by decide +kernel
theorem dX7_sendHome_29 : decode cX7_sendHome 29 = .ok (.if_icmp .ge 55, 3) := by decide +kernel
theorem dX7_sendHome_32 : decode cX7_sendHome 32 = .ok (.iload_n 2, 1) := by decide +kernel
theorem dX7_sendHome_33 : decode cX7_sendHome 33 = .ok (.iconst 1, 1) := by decide +kernel
theorem dX7_sendHome_34 : decode cX7_sendHome 34 = .ok (.iadd, 1) := by decide +kernel
theorem dX7_sendHome_35 : decode cX7_sendHome 35 = .ok (.istore_n 3, 1) := by decide +kernel
theorem dX7_sendHome_36 : decode cX7_sendHome 36 = .ok (.iload_n 3, 1) := by decide +kernel
theorem dX7_sendHome_37 : decode cX7_sendHome 37 = .ok (.aload_n 0, 1) := by decide +kernel
theorem dX7_sendHome_38 : decode cX7_sendHome 38 = .ok (.getfield 18, 3) := by decide +kernel
theorem dX7_sendHome_41 : decode cX7_sendHome 41 = .ok (.if_icmp .ge 23, 3) := by decide +kernel
theorem dX7_sendHome_44 : decode cX7_sendHome 44 = .ok (.aload_n 0, 1) := by decide +kernel
theorem dX7_sendHome_45 : decode cX7_sendHome 45 = .ok (.getfield 9, 3) := by decide +kernel
theorem dX7_sendHome_48 : decode cX7_sendHome 48 = .ok (.iload_n 3, 1) := by decide +kernel
theorem dX7_sendHome_49 : decode cX7_sendHome 49 = .ok (.iconst 1, 1) := by decide +kernel
theorem dX7_sendHome_50 : decode cX7_sendHome 50 = .ok (.isub, 1) := by decide +kernel
theorem dX7_sendHome_51 : decode cX7_sendHome 51 = .ok (.aload_n 0, 1) := by decide +kernel
theorem dX7_sendHome_52 : decode cX7_sendHome 52 = .ok (.getfield 9, 3) := by decide +kernel
theorem dX7_sendHome_55 : decode cX7_sendHome 55 = .ok (.iload_n 3, 1) := by decide +kernel
theorem dX7_sendHome_56 : decode cX7_sendHome 56 = .ok (.iaload, 1) := by decide +kernel
theorem dX7_sendHome_57 : decode cX7_sendHome 57 = .ok (.iastore, 1) := by decide +kernel
theorem dX7_sendHome_58 : decode cX7_sendHome 58 = .ok (.iinc 3 1, 3) := by decide +kernel
theorem dX7_sendHome_61 : decode cX7_sendHome 61 = .ok (.goto (-25), 3) := by decide +kernel
theorem dX7_sendHome_64 : decode cX7_sendHome 64 = .ok (.aload_n 0, 1) := by decide +kernel
theorem dX7_sendHome_65 : decode cX7_sendHome 65 = .ok (.dup, 1) := by decide +kernel
theorem dX7_sendHome_66 : decode cX7_sendHome 66 = .ok (.getfield 18, 3) := by decide +kernel
theorem dX7_sendHome_69 : decode cX7_sendHome 69 = .ok (.iconst 1, 1) := by decide +kernel
theorem dX7_sendHome_70 : decode cX7_sendHome 70 = .ok (.isub, 1) := by decide +kernel
theorem dX7_sendHome_71 : decode cX7_sendHome 71 = .ok (.putfield 18, 3) := by decide +kernel
theorem dX7_sendHome_74 : decode cX7_sendHome 74 = .ok (.aload_n 0, 1) := by decide +kernel
theorem dX7_sendHome_75 : decode cX7_sendHome 75 = .ok (.dup, 1) := by decide +kernel
theorem dX7_sendHome_76 : decode cX7_sendHome 76 = .ok (.getfield 25, 3) := by decide +kernel
theorem dX7_sendHome_79 : decode cX7_sendHome 79 = .ok (.iconst 1, 1) := by decide +kernel
theorem dX7_sendHome_80 : decode cX7_sendHome 80 = .ok (.iadd, 1) := by decide +kernel
theorem dX7_sendHome_81 : decode cX7_sendHome 81 = .ok (.putfield 25, 3) := by decide +kernel
theorem dX7_sendHome_84 : decode cX7_sendHome 84 = .ok (.return_, 1) := by decide +kernel
theorem dX8_init_0 : decode cX8_init 0 = .ok (.aload_n 0, 1) := by decide +kernel
theorem dX8_init_1 : decode cX8_init 1 = .ok (.invokespecial 3, 3) := by decide +kernel
theorem dX8_init_4 : decode cX8_init 4 = .ok (.aload_n 0, 1) := by decide +kernel
theorem dX8_init_5 : decode cX8_init 5 = .ok (.iload_n 1, 1) := by decide +kernel
theorem dX8_init_6 : decode cX8_init 6 = .ok (.putfield 9, 3) := by decide +kernel
theorem dX8_init_9 : decode cX8_init 9 = .ok (.aload_n 0, 1) := by decide +kernel
theorem dX8_init_10 : decode cX8_init 10 = .ok (.iload_n 2, 1) := by decide +kernel
theorem dX8_init_11 : decode cX8_init 11 = .ok (.putfield 15, 3) := by decide +kernel
theorem dX8_init_14 : decode cX8_init 14 = .ok (.aload_n 0, 1) := by decide +kernel
theorem dX8_init_15 : decode cX8_init 15 = .ok (.iload_n 3, 1) := by decide +kernel
theorem dX8_init_16 : decode cX8_init 16 = .ok (.putfield 18, 3) := by decide +kernel
theorem dX8_init_19 : decode cX8_init 19 = .ok (.return_, 1) := by decide +kernel
theorem dX8_kind_0 : decode cX8_kind 0 = .ok (.iconst 0, 1) := by decide +kernel
theorem dX8_kind_1 : decode cX8_kind 1 = .ok (.ireturn, 1) := by decide +kernel
theorem dX8_crew_0 : decode cX8_crew 0 = .ok (.iconst 1, 1) := by decide +kernel
theorem dX8_crew_1 : decode cX8_crew 1 = .ok (.ireturn, 1) := by decide +kernel
theorem dX8_restHours_0 : decode cX8_restHours 0 = .ok (.iconst 0, 1) := by decide +kernel
theorem dX8_restHours_1 : decode cX8_restHours 1 = .ok (.ireturn, 1) := by decide +kernel
theorem dX8_suits_0 : decode cX8_suits 0 = .ok (.iload_n 1, 1) := by decide +kernel
theorem dX8_suits_1 : decode cX8_suits 1 = .ok (.aload_n 0, 1) := by decide +kernel
theorem dX8_suits_2 : decode cX8_suits 2 = .ok (.getfield 18, 3) := by decide +kernel
theorem dX8_suits_5 : decode cX8_suits 5 = .ok (.if_icmp .lt 7, 3) := by decide +kernel
theorem dX8_suits_8 : decode cX8_suits 8 = .ok (.iconst 1, 1) := by decide +kernel
theorem dX8_suits_9 : decode cX8_suits 9 = .ok (.goto 4, 3) := by decide +kernel
theorem dX8_suits_12 : decode cX8_suits 12 = .ok (.iconst 0, 1) := by decide +kernel
theorem dX8_suits_13 : decode cX8_suits 13 = .ok (.ireturn, 1) := by decide +kernel
theorem dX8_holdsWith_0 : decode cX8_holdsWith 0 = .ok (.iconst 1, 1) := by decide +kernel
theorem dX8_holdsWith_1 : decode cX8_holdsWith 1 = .ok (.ireturn, 1) := by decide +kernel
theorem dX8_runningHours_0 : decode cX8_runningHours 0 = .ok (.iconst 1, 1) := by decide +kernel
theorem dX8_runningHours_1 : decode cX8_runningHours 1 = .ok (.aload_n 0, 1) := by decide +kernel
theorem dX8_runningHours_2 : decode cX8_runningHours 2 = .ok (.getfield 15, 3) := by decide +kernel
theorem dX8_runningHours_5 : decode cX8_runningHours 5 = .ok (.ishl, 1) := by decide +kernel
theorem dX8_runningHours_6 : decode cX8_runningHours 6 = .ok (.iconst 1, 1) := by decide +kernel
theorem dX8_runningHours_7 : decode cX8_runningHours 7 = .ok (.isub, 1) := by decide +kernel
theorem dX8_runningHours_8 : decode cX8_runningHours 8 = .ok (.aload_n 0, 1) := by decide +kernel
theorem dX8_runningHours_9 : decode cX8_runningHours 9 = .ok (.getfield 9, 3) := by decide +kernel
theorem dX8_runningHours_12 : decode cX8_runningHours 12 = .ok (.ishl, 1) := by decide +kernel
theorem dX8_runningHours_13 : decode cX8_runningHours 13 = .ok (.ireturn, 1) := by decide +kernel
theorem dX8_busyHours_0 : decode cX8_busyHours 0 = .ok (.iconst 1, 1) := by decide +kernel
theorem dX8_busyHours_1 : decode cX8_busyHours 1 = .ok (.aload_n 0, 1) := by decide +kernel
theorem dX8_busyHours_2 : decode cX8_busyHours 2 = .ok (.getfield 15, 3) := by decide +kernel
theorem dX8_busyHours_5 : decode cX8_busyHours 5 = .ok (.aload_n 0, 1) := by decide +kernel
theorem dX8_busyHours_6 : decode cX8_busyHours 6 = .ok (.invokevirtual 21, 3) := by decide +kernel
theorem dX8_busyHours_9 : decode cX8_busyHours 9 = .ok (.iadd, 1) := by decide +kernel
theorem dX8_busyHours_10 : decode cX8_busyHours 10 = .ok (.ishl, 1) := by decide +kernel
theorem dX8_busyHours_11 : decode cX8_busyHours 11 = .ok (.iconst 1, 1) := by decide +kernel
theorem dX8_busyHours_12 : decode cX8_busyHours 12 = .ok (.isub, 1) := by decide +kernel
theorem dX8_busyHours_13 : decode cX8_busyHours 13 = .ok (.aload_n 0, 1) := by decide +kernel
theorem dX8_busyHours_14 : decode cX8_busyHours 14 = .ok (.getfield 9, 3) := by decide +kernel
theorem dX8_busyHours_17 : decode cX8_busyHours 17 = .ok (.ishl, 1) := by decide +kernel
theorem dX8_busyHours_18 : decode cX8_busyHours 18 = .ok (.ireturn, 1) := by decide +kernel
theorem dX8_suitedStrongs_0 : decode cX8_suitedStrongs 0 = .ok (.iconst 0, 1) := by decide +kernel
theorem dX8_suitedStrongs_1 : decode cX8_suitedStrongs 1 = .ok (.istore_n 1, 1) := by decide +kernel
theorem dX8_suitedStrongs_2 : decode cX8_suitedStrongs 2 = .ok (.iconst 0, 1) := by decide +kernel
theorem dX8_suitedStrongs_3 : decode cX8_suitedStrongs 3 = .ok (.istore_n 2, 1) := by decide +kernel
theorem dX8_suitedStrongs_4 : decode cX8_suitedStrongs 4 = .ok (.iload_n 2, 1) := by decide +kernel
theorem dX8_suitedStrongs_5 : decode cX8_suitedStrongs 5 = .ok (.bipush 9, 2) := by decide +kernel
theorem dX8_suitedStrongs_7 : decode cX8_suitedStrongs 7 = .ok (.if_icmp .gt 23, 3) := by decide +kernel
theorem dX8_suitedStrongs_10 : decode cX8_suitedStrongs 10 = .ok (.aload_n 0, 1) := by decide +kernel
theorem dX8_suitedStrongs_11 : decode cX8_suitedStrongs 11 = .ok (.iload_n 2, 1) := by decide +kernel
theorem dX8_suitedStrongs_12 : decode cX8_suitedStrongs 12 = .ok (.invokevirtual 25, 3) := by decide +kernel
theorem dX8_suitedStrongs_15 : decode cX8_suitedStrongs 15 = .ok (.ifCond .eq 9, 3) := by decide +kernel
theorem dX8_suitedStrongs_18 : decode cX8_suitedStrongs 18 = .ok (.iload_n 1, 1) := by decide +kernel
theorem dX8_suitedStrongs_19 : decode cX8_suitedStrongs 19 = .ok (.iconst 1, 1) := by decide +kernel
theorem dX8_suitedStrongs_20 : decode cX8_suitedStrongs 20 = .ok (.iload_n 2, 1) := by decide +kernel
theorem dX8_suitedStrongs_21 : decode cX8_suitedStrongs 21 = .ok (.ishl, 1) := by decide +kernel
theorem dX8_suitedStrongs_22 : decode cX8_suitedStrongs 22 = .ok (.ior, 1) := by decide +kernel
theorem dX8_suitedStrongs_23 : decode cX8_suitedStrongs 23 = .ok (.istore_n 1, 1) := by decide +kernel
theorem dX8_suitedStrongs_24 : decode cX8_suitedStrongs 24 = .ok (.iinc 2 1, 3) := by decide +kernel
theorem dX8_suitedStrongs_27 : decode cX8_suitedStrongs 27 = .ok (.goto (-23), 3) := by decide +kernel
theorem dX8_suitedStrongs_30 : decode cX8_suitedStrongs 30 = .ok (.iload_n 1, 1) := by decide +kernel
theorem dX8_suitedStrongs_31 : decode cX8_suitedStrongs 31 = .ok (.ireturn, 1) := by decide +kernel
theorem dX9_init_0 : decode cX9_init 0 = .ok (.aload_n 0, 1) := by decide +kernel
theorem dX9_init_1 : decode cX9_init 1 = .ok (.invokespecial 3, 3) := by decide +kernel
theorem dX9_init_4 : decode cX9_init 4 = .ok (.aload_n 0, 1) := by decide +kernel
theorem dX9_init_5 : decode cX9_init 5 = .ok (.iconst 5, 1) := by decide +kernel
theorem dX9_init_6 : decode cX9_init 6 = .ok (.newarray .int, 2) := by decide +kernel
theorem dX9_init_8 : decode cX9_init 8 = .ok (.putfield 9, 3) := by decide +kernel
theorem dX9_init_11 : decode cX9_init 11 = .ok (.aload_n 0, 1) := by decide +kernel
theorem dX9_init_12 : decode cX9_init 12 = .ok (.iconst 5, 1) := by decide +kernel
theorem dX9_init_13 : decode cX9_init 13 = .ok (.newarray .int, 2) := by decide +kernel
theorem dX9_init_15 : decode cX9_init 15 = .ok (.putfield 15, 3) := by decide +kernel
theorem dX9_init_18 : decode cX9_init 18 = .ok (.aload_n 0, 1) := by decide +kernel
theorem dX9_init_19 : decode cX9_init 19 = .ok (.iconst 5, 1) := by decide +kernel
theorem dX9_init_20 : decode cX9_init 20 = .ok (.newarray .int, 2) := by decide +kernel
theorem dX9_init_22 : decode cX9_init 22 = .ok (.putfield 18, 3) := by decide +kernel
theorem dX9_init_25 : decode cX9_init 25 = .ok (.aload_n 0, 1) := by decide +kernel
theorem dX9_init_26 : decode cX9_init 26 = .ok (.iconst 5, 1) := by decide +kernel
theorem dX9_init_27 : decode cX9_init 27 = .ok (.newarray .int, 2) := by decide +kernel
theorem dX9_init_29 : decode cX9_init 29 = .ok (.putfield 21, 3) := by decide +kernel
theorem dX9_init_32 : decode cX9_init 32 = .ok (.aload_n 0, 1) := by decide +kernel
theorem dX9_init_33 : decode cX9_init 33 = .ok (.bipush 8, 2) := by decide +kernel
theorem dX9_init_35 : decode cX9_init 35 = .ok (.newarray .int, 2) := by decide +kernel
theorem dX9_init_37 : decode cX9_init 37 = .ok (.putfield 24, 3) := by decide +kernel
theorem dX9_init_40 : decode cX9_init 40 = .ok (.aload_n 0, 1) := by decide +kernel
theorem dX9_init_41 : decode cX9_init 41 = .ok (.bipush 8, 2) := by decide +kernel
theorem dX9_init_43 : decode cX9_init 43 = .ok (.newarray .int, 2) := by decide +kernel
theorem dX9_init_45 : decode cX9_init 45 = .ok (.putfield 27, 3) := by decide +kernel
theorem dX9_init_48 : decode cX9_init 48 = .ok (.return_, 1) := by decide +kernel
theorem dX9_startAnew_0 : decode cX9_startAnew 0 = .ok (.aload_n 0, 1) := by decide +kernel
theorem dX9_startAnew_1 : decode cX9_startAnew 1 = .ok (.getfield 18, 3) := by decide +kernel
theorem dX9_startAnew_4 : decode cX9_startAnew 4 = .ok (.iconst 0, 1) := by decide +kernel
theorem dX9_startAnew_5 : decode cX9_startAnew 5 = .ok (.invokestatic 30, 3) := by decide +kernel
theorem dX9_startAnew_8 : decode cX9_startAnew 8 = .ok (.aload_n 0, 1) := by decide +kernel
theorem dX9_startAnew_9 : decode cX9_startAnew 9 = .ok (.getfield 21, 3) := by decide +kernel
theorem dX9_startAnew_12 : decode cX9_startAnew 12 = .ok (.iconst 0, 1) := by decide +kernel
theorem dX9_startAnew_13 : decode cX9_startAnew 13 = .ok (.invokestatic 30, 3) := by decide +kernel
theorem dX9_startAnew_16 : decode cX9_startAnew 16 = .ok (.aload_n 0, 1) := by decide +kernel
theorem dX9_startAnew_17 : decode cX9_startAnew 17 = .ok (.iconst 1, 1) := by decide +kernel
theorem dX9_startAnew_18 : decode cX9_startAnew 18 = .ok (.iload_n 1, 1) := by decide +kernel
theorem dX9_startAnew_19 : decode cX9_startAnew 19 = .ok (.ishl, 1) := by decide +kernel
theorem dX9_startAnew_20 : decode cX9_startAnew 20 = .ok (.iconst 1, 1) := by decide +kernel
theorem dX9_startAnew_21 : decode cX9_startAnew 21 = .ok (.isub, 1) := by decide +kernel
theorem dX9_startAnew_22 : decode cX9_startAnew 22 = .ok (.putfield 36, 3) := by decide +kernel
theorem dX9_startAnew_25 : decode cX9_startAnew 25 = .ok (.aload_n 0, 1) := by decide +kernel
theorem dX9_startAnew_26 : decode cX9_startAnew 26 = .ok (.iconst 0, 1) := by decide +kernel
theorem dX9_startAnew_27 : decode cX9_startAnew 27 = .ok (.putfield 40, 3) := by decide +kernel
theorem dX9_startAnew_30 : decode cX9_startAnew 30 = .ok (.aload_n 0, 1) := by decide +kernel
theorem dX9_startAnew_31 : decode cX9_startAnew 31 = .ok (.iconst 0, 1) := by decide +kernel
theorem dX9_startAnew_32 : decode cX9_startAnew 32 = .ok (.putfield 43, 3) := by decide +kernel
theorem dX9_startAnew_35 : decode cX9_startAnew 35 = .ok (.aload_n 0, 1) := by decide +kernel
theorem dX9_startAnew_36 : decode cX9_startAnew 36 = .ok (.iconst 0, 1) := by decide +kernel
theorem dX9_startAnew_37 : decode cX9_startAnew 37 = .ok (.putfield 46, 3) := by decide +kernel
theorem dX9_startAnew_40 : decode cX9_startAnew 40 = .ok (.aload_n 0, 1) := by decide +kernel
theorem dX9_startAnew_41 : decode cX9_startAnew 41 = .ok (.iconst 0, 1) := by decide +kernel
theorem dX9_startAnew_42 : decode cX9_startAnew 42 = .ok (.putfield 49, 3) := by decide +kernel
theorem dX9_startAnew_45 : decode cX9_startAnew 45 = .ok (.aload_n 0, 1) := by decide +kernel
theorem dX9_startAnew_46 : decode cX9_startAnew 46 = .ok (.iconst 0, 1) := by decide +kernel
theorem dX9_startAnew_47 : decode cX9_startAnew 47 = .ok (.putfield 52, 3) := by decide +kernel
theorem dX9_startAnew_50 : decode cX9_startAnew 50 = .ok (.aload_n 0, 1) := by decide +kernel
theorem dX9_startAnew_51 : decode cX9_startAnew 51 = .ok (.iconst 0, 1) := by decide +kernel
theorem dX9_startAnew_52 : decode cX9_startAnew 52 = .ok (.putfield 55, 3) := by decide +kernel
theorem dX9_startAnew_55 : decode cX9_startAnew 55 = .ok (.aload_n 0, 1) := by decide +kernel
theorem dX9_startAnew_56 : decode cX9_startAnew 56 = .ok (.iconst 0, 1) := by decide +kernel
theorem dX9_startAnew_57 : decode cX9_startAnew 57 = .ok (.putfield 58, 3) := by decide +kernel
theorem dX9_startAnew_60 : decode cX9_startAnew 60 = .ok (.return_, 1) := by decide +kernel
theorem dX9_copyFrom_0 : decode cX9_copyFrom 0 = .ok (.aload_n 1, 1) := by decide +kernel
theorem dX9_copyFrom_1 : decode cX9_copyFrom 1 = .ok (.getfield 9, 3) := by decide +kernel
theorem dX9_copyFrom_4 : decode cX9_copyFrom 4 = .ok (.iconst 0, 1) := by decide +kernel
theorem dX9_copyFrom_5 : decode cX9_copyFrom 5 = .ok (.aload_n 0, 1) := by decide +kernel
theorem dX9_copyFrom_6 : decode cX9_copyFrom 6 = .ok (.getfield 9, 3) := by decide +kernel
theorem dX9_copyFrom_9 : decode cX9_copyFrom 9 = .ok (.iconst 0, 1) := by decide +kernel
theorem dX9_copyFrom_10 : decode cX9_copyFrom 10 = .ok (.iconst 5, 1) := by decide +kernel
theorem dX9_copyFrom_11 : decode cX9_copyFrom 11 = .ok (.invokestatic 61, 3) := by decide +kernel
theorem dX9_copyFrom_14 : decode cX9_copyFrom 14 = .ok (.aload_n 1, 1) := by decide +kernel
theorem dX9_copyFrom_15 : decode cX9_copyFrom 15 = .ok (.getfield 15, 3) := by decide +kernel
theorem dX9_copyFrom_18 : decode cX9_copyFrom 18 = .ok (.iconst 0, 1) := by decide +kernel
theorem dX9_copyFrom_19 : decode cX9_copyFrom 19 = .ok (.aload_n 0, 1) := by decide +kernel
theorem dX9_copyFrom_20 : decode cX9_copyFrom 20 = .ok (.getfield 15, 3) := by decide +kernel
theorem dX9_copyFrom_23 : decode cX9_copyFrom 23 = .ok (.iconst 0, 1) := by decide +kernel
theorem dX9_copyFrom_24 : decode cX9_copyFrom 24 = .ok (.iconst 5, 1) := by decide +kernel
theorem dX9_copyFrom_25 : decode cX9_copyFrom 25 = .ok (.invokestatic 61, 3) := by decide +kernel
theorem dX9_copyFrom_28 : decode cX9_copyFrom 28 = .ok (.aload_n 1, 1) := by decide +kernel
theorem dX9_copyFrom_29 : decode cX9_copyFrom 29 = .ok (.getfield 18, 3) := by decide +kernel
theorem dX9_copyFrom_32 : decode cX9_copyFrom 32 = .ok (.iconst 0, 1) := by decide +kernel
theorem dX9_copyFrom_33 : decode cX9_copyFrom 33 = .ok (.aload_n 0, 1) := by decide +kernel
theorem dX9_copyFrom_34 : decode cX9_copyFrom 34 = .ok (.getfield 18, 3) := by decide +kernel
theorem dX9_copyFrom_37 : decode cX9_copyFrom 37 = .ok (.iconst 0, 1) := by decide +kernel
theorem dX9_copyFrom_38 : decode cX9_copyFrom 38 = .ok (.iconst 5, 1) := by decide +kernel
theorem dX9_copyFrom_39 : decode cX9_copyFrom 39 = .ok (.invokestatic 61, 3) := by decide +kernel
theorem dX9_copyFrom_42 : decode cX9_copyFrom 42 = .ok (.aload_n 1, 1) := by decide +kernel
theorem dX9_copyFrom_43 : decode cX9_copyFrom 43 = .ok (.getfield 21, 3) := by decide +kernel
theorem dX9_copyFrom_46 : decode cX9_copyFrom 46 = .ok (.iconst 0, 1) := by decide +kernel
theorem dX9_copyFrom_47 : decode cX9_copyFrom 47 = .ok (.aload_n 0, 1) := by decide +kernel
theorem dX9_copyFrom_48 : decode cX9_copyFrom 48 = .ok (.getfield 21, 3) := by decide +kernel
theorem dX9_copyFrom_51 : decode cX9_copyFrom 51 = .ok (.iconst 0, 1) := by decide +kernel
theorem dX9_copyFrom_52 : decode cX9_copyFrom 52 = .ok (.iconst 5, 1) := by decide +kernel
theorem dX9_copyFrom_53 : decode cX9_copyFrom 53 = .ok (.invokestatic 61, 3) := by decide +kernel
theorem dX9_copyFrom_56 : decode cX9_copyFrom 56 = .ok (.aload_n 1, 1) := by decide +kernel
theorem dX9_copyFrom_57 : decode cX9_copyFrom 57 = .ok (.getfield 24, 3) := by decide +kernel
theorem dX9_copyFrom_60 : decode cX9_copyFrom 60 = .ok (.iconst 0, 1) := by decide +kernel
theorem dX9_copyFrom_61 : decode cX9_copyFrom 61 = .ok (.aload_n 0, 1) := by decide +kernel
theorem dX9_copyFrom_62 : decode cX9_copyFrom 62 = .ok (.getfield 24, 3) := by decide +kernel
theorem dX9_copyFrom_65 : decode cX9_copyFrom 65 = .ok (.iconst 0, 1) := by decide +kernel
theorem dX9_copyFrom_66 : decode cX9_copyFrom 66 = .ok (.bipush 8, 2) := by decide +kernel
theorem dX9_copyFrom_68 : decode cX9_copyFrom 68 = .ok (.invokestatic 61, 3) := by decide +kernel
theorem dX9_copyFrom_71 : decode cX9_copyFrom 71 = .ok (.aload_n 1, 1) := by decide +kernel
theorem dX9_copyFrom_72 : decode cX9_copyFrom 72 = .ok (.getfield 27, 3) := by decide +kernel
theorem dX9_copyFrom_75 : decode cX9_copyFrom 75 = .ok (.iconst 0, 1) := by decide +kernel
theorem dX9_copyFrom_76 : decode cX9_copyFrom 76 = .ok (.aload_n 0, 1) := by decide +kernel
theorem dX9_copyFrom_77 : decode cX9_copyFrom 77 = .ok (.getfield 27, 3) := by decide +kernel
theorem dX9_copyFrom_80 : decode cX9_copyFrom 80 = .ok (.iconst 0, 1) := by decide +kernel
theorem dX9_copyFrom_81 : decode cX9_copyFrom 81 = .ok (.bipush 8, 2) := by decide +kernel
theorem dX9_copyFrom_83 : decode cX9_copyFrom 83 = .ok (.invokestatic 61, 3) := by decide +kernel
theorem dX9_copyFrom_86 : decode cX9_copyFrom 86 = .ok (.aload_n 0, 1) := by decide +kernel
theorem dX9_copyFrom_87 : decode cX9_copyFrom 87 = .ok (.aload_n 1, 1) := by decide +kernel
theorem dX9_copyFrom_88 : decode cX9_copyFrom 88 = .ok (.getfield 36, 3) := by decide +kernel
theorem dX9_copyFrom_91 : decode cX9_copyFrom 91 = .ok (.putfield 36, 3) := by decide +kernel
theorem dX9_copyFrom_94 : decode cX9_copyFrom 94 = .ok (.aload_n 0, 1) := by decide +kernel
theorem dX9_copyFrom_95 : decode cX9_copyFrom 95 = .ok (.aload_n 1, 1) := by decide +kernel
theorem dX9_copyFrom_96 : decode cX9_copyFrom 96 = .ok (.getfield 40, 3) := by decide +kernel
theorem dX9_copyFrom_99 : decode cX9_copyFrom 99 = .ok (.putfield 40, 3) := by decide +kernel
theorem dX9_copyFrom_102 : decode cX9_copyFrom 102 = .ok (.aload_n 0, 1) := by decide +kernel
theorem dX9_copyFrom_103 : decode cX9_copyFrom 103 = .ok (.aload_n 1, 1) := by decide +kernel
theorem dX9_copyFrom_104 : decode cX9_copyFrom 104 = .ok (.getfield 43, 3) := by decide +kernel
theorem dX9_copyFrom_107 : decode cX9_copyFrom 107 = .ok (.putfield 43, 3) := by decide +kernel
theorem dX9_copyFrom_110 : decode cX9_copyFrom 110 = .ok (.aload_n 0, 1) := by decide +kernel
theorem dX9_copyFrom_111 : decode cX9_copyFrom 111 = .ok (.aload_n 1, 1) := by decide +kernel
theorem dX9_copyFrom_112 : decode cX9_copyFrom 112 = .ok (.getfield 46, 3) := by decide +kernel
theorem dX9_copyFrom_115 : decode cX9_copyFrom 115 = .ok (.putfield 46, 3) := by decide +kernel
theorem dX9_copyFrom_118 : decode cX9_copyFrom 118 = .ok (.aload_n 0, 1) := by decide +kernel
theorem dX9_copyFrom_119 : decode cX9_copyFrom 119 = .ok (.aload_n 1, 1) := by decide +kernel
theorem dX9_copyFrom_120 : decode cX9_copyFrom 120 = .ok (.getfield 49, 3) := by decide +kernel
theorem dX9_copyFrom_123 : decode cX9_copyFrom 123 = .ok (.putfield 49, 3) := by decide +kernel
theorem dX9_copyFrom_126 : decode cX9_copyFrom 126 = .ok (.aload_n 0, 1) := by decide +kernel
theorem dX9_copyFrom_127 : decode cX9_copyFrom 127 = .ok (.aload_n 1, 1) := by decide +kernel
theorem dX9_copyFrom_128 : decode cX9_copyFrom 128 = .ok (.getfield 52, 3) := by decide +kernel
theorem dX9_copyFrom_131 : decode cX9_copyFrom 131 = .ok (.putfield 52, 3) := by decide +kernel
theorem dX9_copyFrom_134 : decode cX9_copyFrom 134 = .ok (.aload_n 0, 1) := by decide +kernel
theorem dX9_copyFrom_135 : decode cX9_copyFrom 135 = .ok (.aload_n 1, 1) := by decide +kernel
theorem dX9_copyFrom_136 : decode cX9_copyFrom 136 = .ok (.getfield 55, 3) := by decide +kernel
theorem dX9_copyFrom_139 : decode cX9_copyFrom 139 = .ok (.putfield 55, 3) := by decide +kernel
theorem dX9_copyFrom_142 : decode cX9_copyFrom 142 = .ok (.aload_n 0, 1) := by decide +kernel
theorem dX9_copyFrom_143 : decode cX9_copyFrom 143 = .ok (.aload_n 1, 1) := by decide +kernel
theorem dX9_copyFrom_144 : decode cX9_copyFrom 144 = .ok (.getfield 58, 3) := by decide +kernel
theorem dX9_copyFrom_147 : decode cX9_copyFrom 147 = .ok (.putfield 58, 3) := by decide +kernel
theorem dX9_copyFrom_150 : decode cX9_copyFrom 150 = .ok (.return_, 1) := by decide +kernel
theorem dX9_tricksOf_0 : decode cX9_tricksOf 0 = .ok (.iconst 0, 1) := by decide +kernel
theorem dX9_tricksOf_1 : decode cX9_tricksOf 1 = .ok (.istore_n 2, 1) := by decide +kernel
theorem dX9_tricksOf_2 : decode cX9_tricksOf 2 = .ok (.iconst 0, 1) := by decide +kernel
theorem dX9_tricksOf_3 : decode cX9_tricksOf 3 = .ok (.istore_n 3, 1) := by decide +kernel
theorem dX9_tricksOf_4 : decode cX9_tricksOf 4 = .ok (.iload_n 3, 1) := by decide +kernel
theorem dX9_tricksOf_5 : decode cX9_tricksOf 5 = .ok (.iconst 5, 1) := by decide +kernel
theorem dX9_tricksOf_6 : decode cX9_tricksOf 6 = .ok (.if_icmp .ge 28, 3) := by decide +kernel
theorem dX9_tricksOf_9 : decode cX9_tricksOf 9 = .ok (.aload_n 0, 1) := by decide +kernel
theorem dX9_tricksOf_10 : decode cX9_tricksOf 10 = .ok (.getfield 21, 3) := by decide +kernel
theorem dX9_tricksOf_13 : decode cX9_tricksOf 13 = .ok (.iload_n 3, 1) := by decide +kernel
theorem dX9_tricksOf_14 : decode cX9_tricksOf 14 = .ok (.iaload, 1) := by decide +kernel
theorem dX9_tricksOf_15 : decode cX9_tricksOf 15 = .ok (.iload_n 1, 1) := by decide +kernel
theorem dX9_tricksOf_16 : decode cX9_tricksOf 16 = .ok (.invokestatic 67, 3) := by decide +kernel
theorem dX9_tricksOf_19 : decode cX9_tricksOf 19 = .ok (.ifCond .eq 9, 3) := by decide +kernel
theorem dX9_tricksOf_22 : decode cX9_tricksOf 22 = .ok (.iload_n 2, 1) := by decide +kernel
theorem dX9_tricksOf_23 : decode cX9_tricksOf 23 = .ok (.iconst 1, 1) := by decide +kernel
theorem dX9_tricksOf_24 : decode cX9_tricksOf 24 = .ok (.iload_n 3, 1) := by decide +kernel
theorem dX9_tricksOf_25 : decode cX9_tricksOf 25 = .ok (.ishl, 1) := by decide +kernel
theorem dX9_tricksOf_26 : decode cX9_tricksOf 26 = .ok (.ior, 1) := by decide +kernel
theorem dX9_tricksOf_27 : decode cX9_tricksOf 27 = .ok (.istore_n 2, 1) := by decide +kernel
theorem dX9_tricksOf_28 : decode cX9_tricksOf 28 = .ok (.iinc 3 1, 3) := by decide +kernel
theorem dX9_tricksOf_31 : decode cX9_tricksOf 31 = .ok (.goto (-27), 3) := by decide +kernel
theorem dX9_tricksOf_34 : decode cX9_tricksOf 34 = .ok (.iload_n 2, 1) := by decide +kernel
theorem dX9_tricksOf_35 : decode cX9_tricksOf 35 = .ok (.ireturn, 1) := by decide +kernel
theorem dX9_suitedFor_0 : decode cX9_suitedFor 0 = .ok (.iconst 0, 1) := by decide +kernel
theorem dX9_suitedFor_1 : decode cX9_suitedFor 1 = .ok (.istore_n 2, 1) := by decide +kernel
theorem dX9_suitedFor_2 : decode cX9_suitedFor 2 = .ok (.iconst 0, 1) := by decide +kernel
theorem dX9_suitedFor_3 : decode cX9_suitedFor 3 = .ok (.istore_n 3, 1) := by decide +kernel
theorem dX9_suitedFor_4 : decode cX9_suitedFor 4 = .ok (.iload_n 3, 1) := by decide +kernel
theorem dX9_suitedFor_5 : decode cX9_suitedFor 5 = .ok (.iconst 5, 1) := by decide +kernel
theorem dX9_suitedFor_6 : decode cX9_suitedFor 6 = .ok (.if_icmp .ge 39, 3) := by decide +kernel
theorem dX9_suitedFor_9 : decode cX9_suitedFor 9 = .ok (.aload_n 0, 1) := by decide +kernel
theorem dX9_suitedFor_10 : decode cX9_suitedFor 10 = .ok (.getfield 36, 3) := by decide +kernel
theorem dX9_suitedFor_13 : decode cX9_suitedFor 13 = .ok (.iload_n 3, 1) := by decide +kernel
theorem dX9_suitedFor_14 : decode cX9_suitedFor 14 = .ok (.invokestatic 67, 3) := by decide +kernel
theorem dX9_suitedFor_17 : decode cX9_suitedFor 17 = .ok (.ifCond .eq 22, 3) := by decide +kernel
theorem dX9_suitedFor_20 : decode cX9_suitedFor 20 = .ok (.aload_n 1, 1) := by decide +kernel
theorem dX9_suitedFor_21 : decode cX9_suitedFor 21 = .ok (.aload_n 0, 1) := by decide +kernel
theorem dX9_suitedFor_22 : decode cX9_suitedFor 22 = .ok (.getfield 9, 3) := by decide +kernel
theorem dX9_suitedFor_25 : decode cX9_suitedFor 25 = .ok (.iload_n 3, 1) := by decide +kernel
theorem dX9_suitedFor_26 : decode cX9_suitedFor 26 = .ok (.iaload, 1) := by decide +kernel
theorem dX9_suitedFor_27 : decode cX9_suitedFor 27 = .ok (.invokevirtual 71, 3) := by decide +kernel
theorem dX9_suitedFor_30 : decode cX9_suitedFor 30 = .ok (.ifCond .eq 9, 3) := by decide +kernel
theorem dX9_suitedFor_33 : decode cX9_suitedFor 33 = .ok (.iload_n 2, 1) := by decide +kernel
theorem dX9_suitedFor_34 : decode cX9_suitedFor 34 = .ok (.iconst 1, 1) := by decide +kernel
theorem dX9_suitedFor_35 : decode cX9_suitedFor 35 = .ok (.iload_n 3, 1) := by decide +kernel
theorem dX9_suitedFor_36 : decode cX9_suitedFor 36 = .ok (.ishl, 1) := by decide +kernel
theorem dX9_suitedFor_37 : decode cX9_suitedFor 37 = .ok (.ior, 1) := by decide +kernel
theorem dX9_suitedFor_38 : decode cX9_suitedFor 38 = .ok (.istore_n 2, 1) := by decide +kernel
theorem dX9_suitedFor_39 : decode cX9_suitedFor 39 = .ok (.iinc 3 1, 3) := by decide +kernel
theorem dX9_suitedFor_42 : decode cX9_suitedFor 42 = .ok (.goto (-38), 3) := by decide +kernel
theorem dX9_suitedFor_45 : decode cX9_suitedFor 45 = .ok (.iload_n 2, 1) := by decide +kernel
theorem dX9_suitedFor_46 : decode cX9_suitedFor 46 = .ok (.ireturn, 1) := by decide +kernel
theorem dX9_holdRopes_0 : decode cX9_holdRopes 0 = .ok (.iconst 0, 1) := by decide +kernel
theorem dX9_holdRopes_1 : decode cX9_holdRopes 1 = .ok (.istore_n 2, 1) := by decide +kernel
theorem dX9_holdRopes_2 : decode cX9_holdRopes 2 = .ok (.iload_n 2, 1) := by decide +kernel
theorem dX9_holdRopes_3 : decode cX9_holdRopes 3 = .ok (.iconst 5, 1) := by decide +kernel
theorem dX9_holdRopes_4 : decode cX9_holdRopes 4 = .ok (.if_icmp .ge 27, 3) := by decide +kernel
theorem dX9_holdRopes_7 : decode cX9_holdRopes 7 = .ok (.iload_n 1, 1) := by decide +kernel
theorem dX9_holdRopes_8 : decode cX9_holdRopes 8 = .ok (.iload_n 2, 1) := by decide +kernel
theorem dX9_holdRopes_9 : decode cX9_holdRopes 9 = .ok (.invokestatic 67, 3) := by decide +kernel
theorem dX9_holdRopes_12 : decode cX9_holdRopes 12 = .ok (.ifCond .eq 13, 3) := by decide +kernel
theorem dX9_holdRopes_15 : decode cX9_holdRopes 15 = .ok (.aload_n 0, 1) := by decide +kernel
theorem dX9_holdRopes_16 : decode cX9_holdRopes 16 = .ok (.getfield 18, 3) := by decide +kernel
theorem dX9_holdRopes_19 : decode cX9_holdRopes 19 = .ok (.iload_n 2, 1) := by decide +kernel
theorem dX9_holdRopes_20 : decode cX9_holdRopes 20 = .ok (.dup2, 1) := by decide +kernel
theorem dX9_holdRopes_21 : decode cX9_holdRopes 21 = .ok (.iaload, 1) := by decide +kernel
theorem dX9_holdRopes_22 : decode cX9_holdRopes 22 = .ok (.iconst 1, 1) := by decide +kernel
theorem dX9_holdRopes_23 : decode cX9_holdRopes 23 = .ok (.iadd, 1) := by decide +kernel
theorem dX9_holdRopes_24 : decode cX9_holdRopes 24 = .ok (.iastore, 1) := by decide +kernel
theorem dX9_holdRopes_25 : decode cX9_holdRopes 25 = .ok (.iinc 2 1, 3) := by decide +kernel
theorem dX9_holdRopes_28 : decode cX9_holdRopes 28 = .ok (.goto (-26), 3) := by decide +kernel
theorem dX9_holdRopes_31 : decode cX9_holdRopes 31 = .ok (.return_, 1) := by decide +kernel
theorem dX9_leave_0 : decode cX9_leave 0 = .ok (.aload_n 0, 1) := by decide +kernel
theorem dX9_leave_1 : decode cX9_leave 1 = .ok (.dup, 1) := by decide +kernel
theorem dX9_leave_2 : decode cX9_leave 2 = .ok (.getfield 36, 3) := by decide +kernel
theorem dX9_leave_5 : decode cX9_leave 5 = .ok (.iconst 1, 1) := by decide +kernel
theorem dX9_leave_6 : decode cX9_leave 6 = .ok (.iload_n 1, 1) := by decide +kernel
theorem dX9_leave_7 : decode cX9_leave 7 = .ok (.ishl, 1) := by decide +kernel
theorem dX9_leave_8 : decode cX9_leave 8 = .ok (.iconst (-1), 1) := by decide +kernel
theorem dX9_leave_9 : decode cX9_leave 9 = .ok (.ixor, 1) := by decide +kernel
theorem dX9_leave_10 : decode cX9_leave 10 = .ok (.iand, 1) := by decide +kernel
theorem dX9_leave_11 : decode cX9_leave 11 = .ok (.putfield 36, 3) := by decide +kernel
theorem dX9_leave_14 : decode cX9_leave 14 = .ok (.iconst 0, 1) := by decide +kernel
theorem dX9_leave_15 : decode cX9_leave 15 = .ok (.istore_n 2, 1) := by decide +kernel
theorem dX9_leave_16 : decode cX9_leave 16 = .ok (.iload_n 2, 1) := by decide +kernel
theorem dX9_leave_17 : decode cX9_leave 17 = .ok (.iconst 5, 1) := by decide +kernel
theorem dX9_leave_18 : decode cX9_leave 18 = .ok (.if_icmp .ge 23, 3) := by decide +kernel
theorem dX9_leave_21 : decode cX9_leave 21 = .ok (.aload_n 0, 1) := by decide +kernel
theorem dX9_leave_22 : decode cX9_leave 22 = .ok (.getfield 21, 3) := by decide +kernel
theorem dX9_leave_25 : decode cX9_leave 25 = .ok (.iload_n 2, 1) := by decide +kernel
theorem dX9_leave_26 : decode cX9_leave 26 = .ok (.dup2, 1) := by decide +kernel
theorem dX9_leave_27 : decode cX9_leave 27 = .ok (.iaload, 1) := by decide +kernel
theorem dX9_leave_28 : decode cX9_leave 28 = .ok (.iconst 1, 1) := by decide +kernel
theorem dX9_leave_29 : decode cX9_leave 29 = .ok (.iload_n 1, 1) := by decide +kernel
theorem dX9_leave_30 : decode cX9_leave 30 = .ok (.ishl, 1) := by decide +kernel
theorem dX9_leave_31 : decode cX9_leave 31 = .ok (.iconst (-1), 1) := by decide +kernel
theorem dX9_leave_32 : decode cX9_leave 32 = .ok (.ixor, 1) := by decide +kernel
theorem dX9_leave_33 : decode cX9_leave 33 = .ok (.iand, 1) := by decide +kernel
theorem dX9_leave_34 : decode cX9_leave 34 = .ok (.iastore, 1) := by decide +kernel
theorem dX9_leave_35 : decode cX9_leave 35 = .ok (.iinc 2 1, 3) := by decide +kernel
theorem dX9_leave_38 : decode cX9_leave 38 = .ok (.goto (-22), 3) := by decide +kernel
theorem dX9_leave_41 : decode cX9_leave 41 = .ok (.aload_n 0, 1) := by decide +kernel
theorem dX9_leave_42 : decode cX9_leave 42 = .ok (.dup, 1) := by decide +kernel
theorem dX9_leave_43 : decode cX9_leave 43 = .ok (.getfield 55, 3) := by decide +kernel
theorem dX9_leave_46 : decode cX9_leave 46 = .ok (.iconst 1, 1) := by decide +kernel
theorem dX9_leave_47 : decode cX9_leave 47 = .ok (.iadd, 1) := by decide +kernel
theorem dX9_leave_48 : decode cX9_leave 48 = .ok (.putfield 55, 3) := by decide +kernel
theorem dX9_leave_51 : decode cX9_leave 51 = .ok (.return_, 1) := by decide +kernel
theorem dX9_join_0 : decode cX9_join 0 = .ok (.aload_n 0, 1) := by decide +kernel
theorem dX9_join_1 : decode cX9_join 1 = .ok (.dup, 1) := by decide +kernel
theorem dX9_join_2 : decode cX9_join 2 = .ok (.getfield 36, 3) := by decide +kernel
theorem dX9_join_5 : decode cX9_join 5 = .ok (.iconst 1, 1) := by decide +kernel
theorem dX9_join_6 : decode cX9_join 6 = .ok (.iload_n 1, 1) := by decide +kernel
theorem dX9_join_7 : decode cX9_join 7 = .ok (.ishl, 1) := by decide +kernel
theorem dX9_join_8 : decode cX9_join 8 = .ok (.ior, 1) := by decide +kernel
theorem dX9_join_9 : decode cX9_join 9 = .ok (.putfield 36, 3) := by decide +kernel
theorem dX9_join_12 : decode cX9_join 12 = .ok (.aload_n 0, 1) := by decide +kernel
theorem dX9_join_13 : decode cX9_join 13 = .ok (.getfield 9, 3) := by decide +kernel
theorem dX9_join_16 : decode cX9_join 16 = .ok (.iload_n 1, 1) := by decide +kernel
theorem dX9_join_17 : decode cX9_join 17 = .ok (.iload_n 2, 1) := by decide +kernel
theorem dX9_join_18 : decode cX9_join 18 = .ok (.iastore, 1) := by decide +kernel
theorem dX9_join_19 : decode cX9_join 19 = .ok (.aload_n 0, 1) := by decide +kernel
theorem dX9_join_20 : decode cX9_join 20 = .ok (.getfield 15, 3) := by decide +kernel
theorem dX9_join_23 : decode cX9_join 23 = .ok (.iload_n 1, 1) := by decide +kernel
theorem dX9_join_24 : decode cX9_join 24 = .ok (.aload_n 0, 1) := by decide +kernel
theorem dX9_join_25 : decode cX9_join 25 = .ok (.getfield 40, 3) := by decide +kernel
theorem dX9_join_28 : decode cX9_join 28 = .ok (.iastore, 1) := by decide +kernel
theorem dX9_join_29 : decode cX9_join 29 = .ok (.aload_n 0, 1) := by decide +kernel
theorem dX9_join_30 : decode cX9_join 30 = .ok (.getfield 18, 3) := by decide +kernel
theorem dX9_join_33 : decode cX9_join 33 = .ok (.iload_n 1, 1) := by decide +kernel
theorem dX9_join_34 : decode cX9_join 34 = .ok (.iconst 0, 1) := by decide +kernel
theorem dX9_join_35 : decode cX9_join 35 = .ok (.iastore, 1) := by decide +kernel
theorem dX9_join_36 : decode cX9_join 36 = .ok (.aload_n 0, 1) := by decide +kernel
theorem dX9_join_37 : decode cX9_join 37 = .ok (.dup, 1) := by decide +kernel
theorem dX9_join_38 : decode cX9_join 38 = .ok (.getfield 52, 3) := by decide +kernel
theorem dX9_join_41 : decode cX9_join 41 = .ok (.iconst 1, 1) := by decide +kernel
theorem dX9_join_42 : decode cX9_join 42 = .ok (.iadd, 1) := by decide +kernel
theorem dX9_join_43 : decode cX9_join 43 = .ok (.putfield 52, 3) := by decide +kernel
theorem dX9_join_46 : decode cX9_join 46 = .ok (.return_, 1) := by decide +kernel
theorem dX9_movesAhead_0 : decode cX9_movesAhead 0 = .ok (.iconst 0, 1) := by decide +kernel
theorem dX9_movesAhead_1 : decode cX9_movesAhead 1 = .ok (.istore_n 2, 1) := by decide +kernel
theorem dX9_movesAhead_2 : decode cX9_movesAhead 2 = .ok (.iconst 0, 1) := by decide +kernel
theorem dX9_movesAhead_3 : decode cX9_movesAhead 3 = .ok (.istore_n 3, 1) := by decide +kernel
theorem dX9_movesAhead_4 : decode cX9_movesAhead 4 = .ok (.iload_n 3, 1) := by decide +kernel
theorem dX9_movesAhead_5 : decode cX9_movesAhead 5 = .ok (.iconst 5, 1) := by decide +kernel
theorem dX9_movesAhead_6 : decode cX9_movesAhead 6 = .ok (.if_icmp .ge 38, 3) := by decide +kernel
theorem dX9_movesAhead_9 : decode cX9_movesAhead 9 = .ok (.iload_n 1, 1) := by decide +kernel
theorem dX9_movesAhead_10 : decode cX9_movesAhead 10 = .ok (.iload_n 3, 1) := by decide +kernel
theorem dX9_movesAhead_11 : decode cX9_movesAhead 11 = .ok (.invokestatic 67, 3) := by decide +kernel
theorem dX9_movesAhead_14 : decode cX9_movesAhead 14 = .ok (.ifCond .eq 24, 3) := by decide +kernel
theorem dX9_movesAhead_17 : decode cX9_movesAhead 17 = .ok (.iload_n 2, 1) := by decide +kernel
theorem dX9_movesAhead_18 : decode cX9_movesAhead 18 = .ok (.iconst 1, 1) := by decide +kernel
theorem dX9_movesAhead_19 : decode cX9_movesAhead 19 = .ok (.aload_n 0, 1) := by decide +kernel
theorem dX9_movesAhead_20 : decode cX9_movesAhead 20 = .ok (.getfield 15, 3) := by decide +kernel
theorem dX9_movesAhead_23 : decode cX9_movesAhead 23 = .ok (.iload_n 3, 1) := by decide +kernel
theorem dX9_movesAhead_24 : decode cX9_movesAhead 24 = .ok (.iaload, 1) := by decide +kernel
theorem dX9_movesAhead_25 : decode cX9_movesAhead 25 = .ok (.aload_n 0, 1) := by decide +kernel
theorem dX9_movesAhead_26 : decode cX9_movesAhead 26 = .ok (.getfield 40, 3) := by decide +kernel
theorem dX9_movesAhead_29 : decode cX9_movesAhead 29 = .ok (.isub, 1) := by decide +kernel
theorem dX9_movesAhead_30 : decode cX9_movesAhead 30 = .ok (.bipush 6, 2) := by decide +kernel
theorem dX9_movesAhead_32 : decode cX9_movesAhead 32 = .ok (.invokestatic 77, 3) := by decide +kernel
theorem dX9_movesAhead_35 : decode cX9_movesAhead 35 = .ok (.ishl, 1) := by decide +kernel
theorem dX9_movesAhead_36 : decode cX9_movesAhead 36 = .ok (.ior, 1) := by decide +kernel
theorem dX9_movesAhead_37 : decode cX9_movesAhead 37 = .ok (.istore_n 2, 1) := by decide +kernel
theorem dX9_movesAhead_38 : decode cX9_movesAhead 38 = .ok (.iinc 3 1, 3) := by decide +kernel
theorem dX9_movesAhead_41 : decode cX9_movesAhead 41 = .ok (.goto (-37), 3) := by decide +kernel
theorem dX9_movesAhead_44 : decode cX9_movesAhead 44 = .ok (.iload_n 2, 1) := by decide +kernel
theorem dX9_movesAhead_45 : decode cX9_movesAhead 45 = .ok (.ireturn, 1) := by decide +kernel
theorem dX9_addSeen_0 : decode cX9_addSeen 0 = .ok (.aload_n 0, 1) := by decide +kernel
theorem dX9_addSeen_1 : decode cX9_addSeen 1 = .ok (.getfield 58, 3) := by decide +kernel
theorem dX9_addSeen_4 : decode cX9_addSeen 4 = .ok (.bipush 8, 2) := by decide +kernel
theorem dX9_addSeen_6 : decode cX9_addSeen 6 = .ok (.if_icmp .lt 5, 3) := by decide +kernel
theorem dX9_addSeen_9 : decode cX9_addSeen 9 = .ok (.iconst 0, 1) := by decide +kernel
theorem dX9_addSeen_10 : decode cX9_addSeen 10 = .ok (.ireturn, 1) := by decide +kernel
theorem dX9_addSeen_11 : decode cX9_addSeen 11 = .ok (.aload_n 0, 1) := by decide +kernel
theorem dX9_addSeen_12 : decode cX9_addSeen 12 = .ok (.getfield 24, 3) := by decide +kernel
theorem dX9_addSeen_15 : decode cX9_addSeen 15 = .ok (.aload_n 0, 1) := by decide +kernel
theorem dX9_addSeen_16 : decode cX9_addSeen 16 = .ok (.getfield 58, 3) := by decide +kernel
theorem dX9_addSeen_19 : decode cX9_addSeen 19 = .ok (.iload_n 1, 1) := by decide +kernel
theorem dX9_addSeen_20 : decode cX9_addSeen 20 = .ok (.iastore, 1) := by decide +kernel
theorem dX9_addSeen_21 : decode cX9_addSeen 21 = .ok (.aload_n 0, 1) := by decide +kernel
theorem dX9_addSeen_22 : decode cX9_addSeen 22 = .ok (.getfield 27, 3) := by decide +kernel
theorem dX9_addSeen_25 : decode cX9_addSeen 25 = .ok (.aload_n 0, 1) := by decide +kernel
theorem dX9_addSeen_26 : decode cX9_addSeen 26 = .ok (.getfield 58, 3) := by decide +kernel
theorem dX9_addSeen_29 : decode cX9_addSeen 29 = .ok (.iload_n 2, 1) := by decide +kernel
theorem dX9_addSeen_30 : decode cX9_addSeen 30 = .ok (.iastore, 1) := by decide +kernel
theorem dX9_addSeen_31 : decode cX9_addSeen 31 = .ok (.aload_n 0, 1) := by decide +kernel
theorem dX9_addSeen_32 : decode cX9_addSeen 32 = .ok (.dup, 1) := by decide +kernel
theorem dX9_addSeen_33 : decode cX9_addSeen 33 = .ok (.getfield 58, 3) := by decide +kernel
theorem dX9_addSeen_36 : decode cX9_addSeen 36 = .ok (.iconst 1, 1) := by decide +kernel
theorem dX9_addSeen_37 : decode cX9_addSeen 37 = .ok (.iadd, 1) := by decide +kernel
theorem dX9_addSeen_38 : decode cX9_addSeen 38 = .ok (.putfield 58, 3) := by decide +kernel
theorem dX9_addSeen_41 : decode cX9_addSeen 41 = .ok (.iconst 1, 1) := by decide +kernel
theorem dX9_addSeen_42 : decode cX9_addSeen 42 = .ok (.ireturn, 1) := by decide +kernel
theorem dX9_strongsOf_0 : decode cX9_strongsOf 0 = .ok (.sipush 1023, 3) := by decide +kernel
theorem dX9_strongsOf_3 : decode cX9_strongsOf 3 = .ok (.istore_n 2, 1) := by decide +kernel
theorem dX9_strongsOf_4 : decode cX9_strongsOf 4 = .ok (.iconst 0, 1) := by decide +kernel
theorem dX9_strongsOf_5 : decode cX9_strongsOf 5 = .ok (.istore_n 3, 1) := by decide +kernel
theorem dX9_strongsOf_6 : decode cX9_strongsOf 6 = .ok (.iload_n 3, 1) := by decide +kernel
theorem dX9_strongsOf_7 : decode cX9_strongsOf 7 = .ok (.aload_n 0, 1) := by decide +kernel
theorem dX9_strongsOf_8 : decode cX9_strongsOf 8 = .ok (.getfield 58, 3) := by decide +kernel
theorem dX9_strongsOf_11 : decode cX9_strongsOf 11 = .ok (.if_icmp .ge 28, 3) := by decide +kernel
theorem dX9_strongsOf_14 : decode cX9_strongsOf 14 = .ok (.aload_n 0, 1) := by decide +kernel
theorem dX9_strongsOf_15 : decode cX9_strongsOf 15 = .ok (.getfield 24, 3) := by decide +kernel
theorem dX9_strongsOf_18 : decode cX9_strongsOf 18 = .ok (.iload_n 3, 1) := by decide +kernel
theorem dX9_strongsOf_19 : decode cX9_strongsOf 19 = .ok (.iaload, 1) := by decide +kernel
theorem dX9_strongsOf_20 : decode cX9_strongsOf 20 = .ok (.iload_n 1, 1) := by decide +kernel
theorem dX9_strongsOf_21 : decode cX9_strongsOf 21 = .ok (.if_icmp .ne 12, 3) := by decide +kernel
theorem dX9_strongsOf_24 : decode cX9_strongsOf 24 = .ok (.iload_n 2, 1) := by decide +kernel
theorem dX9_strongsOf_25 : decode cX9_strongsOf 25 = .ok (.aload_n 0, 1) := by decide +kernel
theorem dX9_strongsOf_26 : decode cX9_strongsOf 26 = .ok (.getfield 27, 3) := by decide +kernel
theorem dX9_strongsOf_29 : decode cX9_strongsOf 29 = .ok (.iload_n 3, 1) := by decide +kernel
theorem dX9_strongsOf_30 : decode cX9_strongsOf 30 = .ok (.iaload, 1) := by decide +kernel
theorem dX9_strongsOf_31 : decode cX9_strongsOf 31 = .ok (.iand, 1) := by decide +kernel
theorem dX9_strongsOf_32 : decode cX9_strongsOf 32 = .ok (.istore_n 2, 1) := by decide +kernel
theorem dX9_strongsOf_33 : decode cX9_strongsOf 33 = .ok (.iinc 3 1, 3) := by decide +kernel
theorem dX9_strongsOf_36 : decode cX9_strongsOf 36 = .ok (.goto (-30), 3) := by decide +kernel
theorem dX9_strongsOf_39 : decode cX9_strongsOf 39 = .ok (.iload_n 2, 1) := by decide +kernel
theorem dX9_strongsOf_40 : decode cX9_strongsOf 40 = .ok (.ireturn, 1) := by decide +kernel
