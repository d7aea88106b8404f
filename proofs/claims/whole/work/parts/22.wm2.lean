theorem d_Mod_makes_0 : decode b_Mod_makes 0 = .ok (.aload_n 0, 1) := by decide +kernel
theorem d_Mod_makes_1 : decode b_Mod_makes 1 = .ok (.iload_n 1, 1) := by decide +kernel
theorem d_Mod_makes_2 : decode b_Mod_makes 2 = .ok (.invokevirtual 179, 3) := by decide +kernel
theorem d_Mod_makes_5 : decode b_Mod_makes 5 = .ok (.ifCond .eq 50, 3) := by decide +kernel
theorem d_Mod_makes_8 : decode b_Mod_makes 8 = .ok (.iload_n 2, 1) := by decide +kernel
theorem d_Mod_makes_9 : decode b_Mod_makes 9 = .ok (.iconst 0, 1) := by decide +kernel
theorem d_Mod_makes_10 : decode b_Mod_makes 10 = .ok (.iconst 2, 1) := by decide +kernel
theorem d_Mod_makes_11 : decode b_Mod_makes 11 = .ok (.invokestatic 55, 3) := by decide +kernel
theorem d_Mod_makes_14 : decode b_Mod_makes 14 = .ok (.ifCond .eq 41, 3) := by decide +kernel
theorem d_Mod_makes_17 : decode b_Mod_makes 17 = .ok (.iload_n 3, 1) := by decide +kernel
theorem d_Mod_makes_18 : decode b_Mod_makes 18 = .ok (.iload_n 2, 1) := by decide +kernel
theorem d_Mod_makes_19 : decode b_Mod_makes 19 = .ok (.iconst 2, 1) := by decide +kernel
theorem d_Mod_makes_20 : decode b_Mod_makes 20 = .ok (.if_icmp .ne 8, 3) := by decide +kernel
theorem d_Mod_makes_23 : decode b_Mod_makes 23 = .ok (.bipush 10, 2) := by decide +kernel
theorem d_Mod_makes_25 : decode b_Mod_makes 25 = .ok (.goto 4, 3) := by decide +kernel
theorem d_Mod_makes_28 : decode b_Mod_makes 28 = .ok (.iconst 0, 1) := by decide +kernel
theorem d_Mod_makes_29 : decode b_Mod_makes 29 = .ok (.iload_n 2, 1) := by decide +kernel
theorem d_Mod_makes_30 : decode b_Mod_makes 30 = .ok (.ifCond .ne 8, 3) := by decide +kernel
theorem d_Mod_makes_33 : decode b_Mod_makes 33 = .ok (.bipush 9, 2) := by decide +kernel
theorem d_Mod_makes_35 : decode b_Mod_makes 35 = .ok (.goto 14, 3) := by decide +kernel
theorem d_Mod_makes_38 : decode b_Mod_makes 38 = .ok (.iload_n 2, 1) := by decide +kernel
theorem d_Mod_makes_39 : decode b_Mod_makes 39 = .ok (.iconst 1, 1) := by decide +kernel
theorem d_Mod_makes_40 : decode b_Mod_makes 40 = .ok (.if_icmp .ne 7, 3) := by decide +kernel
theorem d_Mod_makes_43 : decode b_Mod_makes 43 = .ok (.iconst 3, 1) := by decide +kernel
theorem d_Mod_makes_44 : decode b_Mod_makes 44 = .ok (.goto 5, 3) := by decide +kernel
theorem d_Mod_makes_47 : decode b_Mod_makes 47 = .ok (.bipush 50, 2) := by decide +kernel
theorem d_Mod_makes_49 : decode b_Mod_makes 49 = .ok (.invokestatic 55, 3) := by decide +kernel
theorem d_Mod_makes_52 : decode b_Mod_makes 52 = .ok (.ifCond .ne 5, 3) := by decide +kernel
theorem d_Mod_makes_55 : decode b_Mod_makes 55 = .ok (.iconst (-1), 1) := by decide +kernel
theorem d_Mod_makes_56 : decode b_Mod_makes 56 = .ok (.ireturn, 1) := by decide +kernel
theorem d_Mod_makes_57 : decode b_Mod_makes 57 = .ok (.iload_n 1, 1) := by decide +kernel
theorem d_Mod_makes_58 : decode b_Mod_makes 58 = .ok (.iload_n 2, 1) := by decide +kernel
theorem d_Mod_makes_59 : decode b_Mod_makes 59 = .ok (.ifCond .ne 7, 3) := by decide +kernel
theorem d_Mod_makes_62 : decode b_Mod_makes 62 = .ok (.iconst 2, 1) := by decide +kernel
theorem d_Mod_makes_63 : decode b_Mod_makes 63 = .ok (.goto 13, 3) := by decide +kernel
theorem d_Mod_makes_66 : decode b_Mod_makes 66 = .ok (.iload_n 2, 1) := by decide +kernel
theorem d_Mod_makes_67 : decode b_Mod_makes 67 = .ok (.iconst 1, 1) := by decide +kernel
theorem d_Mod_makes_68 : decode b_Mod_makes 68 = .ok (.if_icmp .ne 7, 3) := by decide +kernel
theorem d_Mod_makes_71 : decode b_Mod_makes 71 = .ok (.iconst 4, 1) := by decide +kernel
theorem d_Mod_makes_72 : decode b_Mod_makes 72 = .ok (.goto 4, 3) := by decide +kernel
theorem d_Mod_makes_75 : decode b_Mod_makes 75 = .ok (.iconst 0, 1) := by decide +kernel
theorem d_Mod_makes_76 : decode b_Mod_makes 76 = .ok (.invokestatic 59, 3) := by decide +kernel
theorem d_Mod_makes_79 : decode b_Mod_makes 79 = .ok (.istore 4, 2) := by decide +kernel
theorem d_Mod_makes_81 : decode b_Mod_makes 81 = .ok (.aload_n 0, 1) := by decide +kernel
theorem d_Mod_makes_82 : decode b_Mod_makes 82 = .ok (.getfield 9, 3) := by decide +kernel
theorem d_Mod_makes_85 : decode b_Mod_makes 85 = .ok (.iload 4, 2) := by decide +kernel
theorem d_Mod_makes_87 : decode b_Mod_makes 87 = .ok (.iaload, 1) := by decide +kernel
theorem d_Mod_makes_88 : decode b_Mod_makes 88 = .ok (.istore 5, 2) := by decide +kernel
theorem d_Mod_makes_90 : decode b_Mod_makes 90 = .ok (.aload_n 0, 1) := by decide +kernel
theorem d_Mod_makes_91 : decode b_Mod_makes 91 = .ok (.getfield 9, 3) := by decide +kernel
theorem d_Mod_makes_94 : decode b_Mod_makes 94 = .ok (.iload 4, 2) := by decide +kernel
theorem d_Mod_makes_96 : decode b_Mod_makes 96 = .ok (.iload_n 3, 1) := by decide +kernel
theorem d_Mod_makes_97 : decode b_Mod_makes 97 = .ok (.iastore, 1) := by decide +kernel
theorem d_Mod_makes_98 : decode b_Mod_makes 98 = .ok (.iload 5, 2) := by decide +kernel
theorem d_Mod_makes_100 : decode b_Mod_makes 100 = .ok (.ireturn, 1) := by decide +kernel
theorem d_Mod_change_0 : decode b_Mod_change 0 = .ok (.aload_n 0, 1) := by decide +kernel
theorem d_Mod_change_1 : decode b_Mod_change 1 = .ok (.iload_n 1, 1) := by decide +kernel
theorem d_Mod_change_2 : decode b_Mod_change 2 = .ok (.invokevirtual 179, 3) := by decide +kernel
theorem d_Mod_change_5 : decode b_Mod_change 5 = .ok (.ifCond .eq 16, 3) := by decide +kernel
theorem d_Mod_change_8 : decode b_Mod_change 8 = .ok (.aload_n 0, 1) := by decide +kernel
theorem d_Mod_change_9 : decode b_Mod_change 9 = .ok (.iload_n 2, 1) := by decide +kernel
theorem d_Mod_change_10 : decode b_Mod_change 10 = .ok (.invokevirtual 179, 3) := by decide +kernel
theorem d_Mod_change_13 : decode b_Mod_change 13 = .ok (.ifCond .eq 8, 3) := by decide +kernel
theorem d_Mod_change_16 : decode b_Mod_change 16 = .ok (.iload_n 1, 1) := by decide +kernel
theorem d_Mod_change_17 : decode b_Mod_change 17 = .ok (.iload_n 2, 1) := by decide +kernel
theorem d_Mod_change_18 : decode b_Mod_change 18 = .ok (.if_icmp .ne 5, 3) := by decide +kernel
theorem d_Mod_change_21 : decode b_Mod_change 21 = .ok (.iconst (-1), 1) := by decide +kernel
theorem d_Mod_change_22 : decode b_Mod_change 22 = .ok (.ireturn, 1) := by decide +kernel
theorem d_Mod_change_23 : decode b_Mod_change 23 = .ok (.aload_n 0, 1) := by decide +kernel
theorem d_Mod_change_24 : decode b_Mod_change 24 = .ok (.iload_n 1, 1) := by decide +kernel
theorem d_Mod_change_25 : decode b_Mod_change 25 = .ok (.iload_n 2, 1) := by decide +kernel
theorem d_Mod_change_26 : decode b_Mod_change 26 = .ok (.invokevirtual 182, 3) := by decide +kernel
theorem d_Mod_change_29 : decode b_Mod_change 29 = .ok (.aload_n 0, 1) := by decide +kernel
theorem d_Mod_change_30 : decode b_Mod_change 30 = .ok (.iload_n 1, 1) := by decide +kernel
theorem d_Mod_change_31 : decode b_Mod_change 31 = .ok (.invokevirtual 172, 3) := by decide +kernel
theorem d_Mod_change_34 : decode b_Mod_change 34 = .ok (.ireturn, 1) := by decide +kernel
theorem d_Mod_set_0 : decode b_Mod_set 0 = .ok (.iload_n 1, 1) := by decide +kernel
theorem d_Mod_set_1 : decode b_Mod_set 1 = .ok (.iconst 0, 1) := by decide +kernel
theorem d_Mod_set_2 : decode b_Mod_set 2 = .ok (.iconst 2, 1) := by decide +kernel
theorem d_Mod_set_3 : decode b_Mod_set 3 = .ok (.invokestatic 55, 3) := by decide +kernel
theorem d_Mod_set_6 : decode b_Mod_set 6 = .ok (.ifCond .eq 42, 3) := by decide +kernel
theorem d_Mod_set_9 : decode b_Mod_set 9 = .ok (.iload_n 2, 1) := by decide +kernel
theorem d_Mod_set_10 : decode b_Mod_set 10 = .ok (.iload_n 1, 1) := by decide +kernel
theorem d_Mod_set_11 : decode b_Mod_set 11 = .ok (.iconst 1, 1) := by decide +kernel
theorem d_Mod_set_12 : decode b_Mod_set 12 = .ok (.if_icmp .ne 7, 3) := by decide +kernel
theorem d_Mod_set_15 : decode b_Mod_set 15 = .ok (.iconst 1, 1) := by decide +kernel
theorem d_Mod_set_16 : decode b_Mod_set 16 = .ok (.goto 4, 3) := by decide +kernel
theorem d_Mod_set_19 : decode b_Mod_set 19 = .ok (.iconst 0, 1) := by decide +kernel
theorem d_Mod_set_20 : decode b_Mod_set 20 = .ok (.iload_n 1, 1) := by decide +kernel
theorem d_Mod_set_21 : decode b_Mod_set 21 = .ok (.ifCond .ne 8, 3) := by decide +kernel
theorem d_Mod_set_24 : decode b_Mod_set 24 = .ok (.bipush 9, 2) := by decide +kernel
theorem d_Mod_set_26 : decode b_Mod_set 26 = .ok (.goto 16, 3) := by decide +kernel
theorem d_Mod_set_29 : decode b_Mod_set 29 = .ok (.iload_n 1, 1) := by decide +kernel
theorem d_Mod_set_30 : decode b_Mod_set 30 = .ok (.iconst 1, 1) := by decide +kernel
theorem d_Mod_set_31 : decode b_Mod_set 31 = .ok (.if_icmp .ne 8, 3) := by decide +kernel
theorem d_Mod_set_34 : decode b_Mod_set 34 = .ok (.bipush 60, 2) := by decide +kernel
theorem d_Mod_set_36 : decode b_Mod_set 36 = .ok (.goto 6, 3) := by decide +kernel
theorem d_Mod_set_39 : decode b_Mod_set 39 = .ok (.sipush 999, 3) := by decide +kernel
theorem d_Mod_set_42 : decode b_Mod_set 42 = .ok (.invokestatic 55, 3) := by decide +kernel
theorem d_Mod_set_45 : decode b_Mod_set 45 = .ok (.ifCond .ne 5, 3) := by decide +kernel
theorem d_Mod_set_48 : decode b_Mod_set 48 = .ok (.iconst (-1), 1) := by decide +kernel
theorem d_Mod_set_49 : decode b_Mod_set 49 = .ok (.ireturn, 1) := by decide +kernel
theorem d_Mod_set_50 : decode b_Mod_set 50 = .ok (.aload_n 0, 1) := by decide +kernel
theorem d_Mod_set_51 : decode b_Mod_set 51 = .ok (.getfield 9, 3) := by decide +kernel
theorem d_Mod_set_54 : decode b_Mod_set 54 = .ok (.iconst 3, 1) := by decide +kernel
theorem d_Mod_set_55 : decode b_Mod_set 55 = .ok (.iload_n 1, 1) := by decide +kernel
theorem d_Mod_set_56 : decode b_Mod_set 56 = .ok (.iadd, 1) := by decide +kernel
theorem d_Mod_set_57 : decode b_Mod_set 57 = .ok (.iaload, 1) := by decide +kernel
theorem d_Mod_set_58 : decode b_Mod_set 58 = .ok (.istore_n 3, 1) := by decide +kernel
theorem d_Mod_set_59 : decode b_Mod_set 59 = .ok (.aload_n 0, 1) := by decide +kernel
theorem d_Mod_set_60 : decode b_Mod_set 60 = .ok (.getfield 9, 3) := by decide +kernel
theorem d_Mod_set_63 : decode b_Mod_set 63 = .ok (.iconst 3, 1) := by decide +kernel
theorem d_Mod_set_64 : decode b_Mod_set 64 = .ok (.iload_n 1, 1) := by decide +kernel
theorem d_Mod_set_65 : decode b_Mod_set 65 = .ok (.iadd, 1) := by decide +kernel
theorem d_Mod_set_66 : decode b_Mod_set 66 = .ok (.iload_n 2, 1) := by decide +kernel
theorem d_Mod_set_67 : decode b_Mod_set 67 = .ok (.iastore, 1) := by decide +kernel
theorem d_Mod_set_68 : decode b_Mod_set 68 = .ok (.iload_n 3, 1) := by decide +kernel
theorem d_Mod_set_69 : decode b_Mod_set 69 = .ok (.ireturn, 1) := by decide +kernel
theorem d_Mod_waits_0 : decode b_Mod_waits 0 = .ok (.iload_n 1, 1) := by decide +kernel
theorem d_Mod_waits_1 : decode b_Mod_waits 1 = .ok (.iconst 0, 1) := by decide +kernel
theorem d_Mod_waits_2 : decode b_Mod_waits 2 = .ok (.bipush 99, 2) := by decide +kernel
theorem d_Mod_waits_4 : decode b_Mod_waits 4 = .ok (.invokestatic 55, 3) := by decide +kernel
theorem d_Mod_waits_7 : decode b_Mod_waits 7 = .ok (.ifCond .ne 5, 3) := by decide +kernel
theorem d_Mod_waits_10 : decode b_Mod_waits 10 = .ok (.iconst (-1), 1) := by decide +kernel
theorem d_Mod_waits_11 : decode b_Mod_waits 11 = .ok (.ireturn, 1) := by decide +kernel
theorem d_Mod_waits_12 : decode b_Mod_waits 12 = .ok (.aload_n 0, 1) := by decide +kernel
theorem d_Mod_waits_13 : decode b_Mod_waits 13 = .ok (.getfield 9, 3) := by decide +kernel
theorem d_Mod_waits_16 : decode b_Mod_waits 16 = .ok (.iconst 2, 1) := by decide +kernel
theorem d_Mod_waits_17 : decode b_Mod_waits 17 = .ok (.iaload, 1) := by decide +kernel
theorem d_Mod_waits_18 : decode b_Mod_waits 18 = .ok (.iload_n 1, 1) := by decide +kernel
theorem d_Mod_waits_19 : decode b_Mod_waits 19 = .ok (.iadd, 1) := by decide +kernel
theorem d_Mod_waits_20 : decode b_Mod_waits 20 = .ok (.sipush 9999, 3) := by decide +kernel
theorem d_Mod_waits_23 : decode b_Mod_waits 23 = .ok (.if_icmp .le 6, 3) := by decide +kernel
theorem d_Mod_waits_26 : decode b_Mod_waits 26 = .ok (.bipush (-3), 2) := by decide +kernel
theorem d_Mod_waits_28 : decode b_Mod_waits 28 = .ok (.ireturn, 1) := by decide +kernel
theorem d_Mod_waits_29 : decode b_Mod_waits 29 = .ok (.aload_n 0, 1) := by decide +kernel
theorem d_Mod_waits_30 : decode b_Mod_waits 30 = .ok (.getfield 9, 3) := by decide +kernel
theorem d_Mod_waits_33 : decode b_Mod_waits 33 = .ok (.iconst 2, 1) := by decide +kernel
theorem d_Mod_waits_34 : decode b_Mod_waits 34 = .ok (.dup2, 1) := by decide +kernel
theorem d_Mod_waits_35 : decode b_Mod_waits 35 = .ok (.iaload, 1) := by decide +kernel
theorem d_Mod_waits_36 : decode b_Mod_waits 36 = .ok (.iload_n 1, 1) := by decide +kernel
theorem d_Mod_waits_37 : decode b_Mod_waits 37 = .ok (.iadd, 1) := by decide +kernel
theorem d_Mod_waits_38 : decode b_Mod_waits 38 = .ok (.iastore, 1) := by decide +kernel
theorem d_Mod_waits_39 : decode b_Mod_waits 39 = .ok (.aload_n 0, 1) := by decide +kernel
theorem d_Mod_waits_40 : decode b_Mod_waits 40 = .ok (.getfield 9, 3) := by decide +kernel
theorem d_Mod_waits_43 : decode b_Mod_waits 43 = .ok (.iconst 2, 1) := by decide +kernel
theorem d_Mod_waits_44 : decode b_Mod_waits 44 = .ok (.iaload, 1) := by decide +kernel
theorem d_Mod_waits_45 : decode b_Mod_waits 45 = .ok (.ireturn, 1) := by decide +kernel
theorem d_Mod_size_0 : decode b_Mod_size 0 = .ok (.aload_n 0, 1) := by decide +kernel
theorem d_Mod_size_1 : decode b_Mod_size 1 = .ok (.iload_n 1, 1) := by decide +kernel
theorem d_Mod_size_2 : decode b_Mod_size 2 = .ok (.invokevirtual 179, 3) := by decide +kernel
theorem d_Mod_size_5 : decode b_Mod_size 5 = .ok (.ifCond .eq 51, 3) := by decide +kernel
theorem d_Mod_size_8 : decode b_Mod_size 8 = .ok (.aload_n 0, 1) := by decide +kernel
theorem d_Mod_size_9 : decode b_Mod_size 9 = .ok (.iload_n 2, 1) := by decide +kernel
theorem d_Mod_size_10 : decode b_Mod_size 10 = .ok (.invokevirtual 200, 3) := by decide +kernel
theorem d_Mod_size_13 : decode b_Mod_size 13 = .ok (.ifCond .eq 43, 3) := by decide +kernel
theorem d_Mod_size_16 : decode b_Mod_size 16 = .ok (.iload_n 3, 1) := by decide +kernel
theorem d_Mod_size_17 : decode b_Mod_size 17 = .ok (.iconst 0, 1) := by decide +kernel
theorem d_Mod_size_18 : decode b_Mod_size 18 = .ok (.iconst 3, 1) := by decide +kernel
theorem d_Mod_size_19 : decode b_Mod_size 19 = .ok (.invokestatic 55, 3) := by decide +kernel
theorem d_Mod_size_22 : decode b_Mod_size 22 = .ok (.ifCond .eq 34, 3) := by decide +kernel
theorem d_Mod_size_25 : decode b_Mod_size 25 = .ok (.iload 4, 2) := by decide +kernel
theorem d_Mod_size_27 : decode b_Mod_size 27 = .ok (.iconst 0, 1) := by decide +kernel
theorem d_Mod_size_28 : decode b_Mod_size 28 = .ok (.iconst 1, 1) := by decide +kernel
theorem d_Mod_size_29 : decode b_Mod_size 29 = .ok (.invokestatic 55, 3) := by decide +kernel
theorem d_Mod_size_32 : decode b_Mod_size 32 = .ok (.ifCond .eq 24, 3) := by decide +kernel
theorem d_Mod_size_35 : decode b_Mod_size 35 = .ok (.aload_n 0, 1) := by decide +kernel
theorem d_Mod_size_36 : decode b_Mod_size 36 = .ok (.iload_n 1, 1) := by decide +kernel
theorem d_Mod_size_37 : decode b_Mod_size 37 = .ok (.iload_n 2, 1) := by decide +kernel
theorem d_Mod_size_38 : decode b_Mod_size 38 = .ok (.iload_n 3, 1) := by decide +kernel
theorem d_Mod_size_39 : decode b_Mod_size 39 = .ok (.iload 4, 2) := by decide +kernel
theorem d_Mod_size_41 : decode b_Mod_size 41 = .ok (.iconst 1, 1) := by decide +kernel
theorem d_Mod_size_42 : decode b_Mod_size 42 = .ok (.if_icmp .ne 7, 3) := by decide +kernel
theorem d_Mod_size_45 : decode b_Mod_size 45 = .ok (.iconst 1, 1) := by decide +kernel
theorem d_Mod_size_46 : decode b_Mod_size 46 = .ok (.goto 4, 3) := by decide +kernel
theorem d_Mod_size_49 : decode b_Mod_size 49 = .ok (.iconst 0, 1) := by decide +kernel
theorem d_Mod_size_50 : decode b_Mod_size 50 = .ok (.invokevirtual 76, 3) := by decide +kernel
theorem d_Mod_size_53 : decode b_Mod_size 53 = .ok (.goto 4, 3) := by decide +kernel
theorem d_Mod_size_56 : decode b_Mod_size 56 = .ok (.iconst (-1), 1) := by decide +kernel
theorem d_Mod_size_57 : decode b_Mod_size 57 = .ok (.ireturn, 1) := by decide +kernel
theorem d_Mod_fits_0 : decode b_Mod_fits 0 = .ok (.aload_n 0, 1) := by decide +kernel
theorem d_Mod_fits_1 : decode b_Mod_fits 1 = .ok (.iload_n 1, 1) := by decide +kernel
theorem d_Mod_fits_2 : decode b_Mod_fits 2 = .ok (.invokevirtual 179, 3) := by decide +kernel
theorem d_Mod_fits_5 : decode b_Mod_fits 5 = .ok (.ifCond .eq 24, 3) := by decide +kernel
theorem d_Mod_fits_8 : decode b_Mod_fits 8 = .ok (.aload_n 0, 1) := by decide +kernel
theorem d_Mod_fits_9 : decode b_Mod_fits 9 = .ok (.iload_n 2, 1) := by decide +kernel
theorem d_Mod_fits_10 : decode b_Mod_fits 10 = .ok (.invokevirtual 200, 3) := by decide +kernel
theorem d_Mod_fits_13 : decode b_Mod_fits 13 = .ok (.ifCond .eq 16, 3) := by decide +kernel
theorem d_Mod_fits_16 : decode b_Mod_fits 16 = .ok (.aload_n 0, 1) := by decide +kernel
theorem d_Mod_fits_17 : decode b_Mod_fits 17 = .ok (.iload_n 1, 1) := by decide +kernel
theorem d_Mod_fits_18 : decode b_Mod_fits 18 = .ok (.iload_n 2, 1) := by decide +kernel
theorem d_Mod_fits_19 : decode b_Mod_fits 19 = .ok (.aload_n 0, 1) := by decide +kernel
theorem d_Mod_fits_20 : decode b_Mod_fits 20 = .ok (.invokevirtual 203, 3) := by decide +kernel
theorem d_Mod_fits_23 : decode b_Mod_fits 23 = .ok (.invokevirtual 94, 3) := by decide +kernel
theorem d_Mod_fits_26 : decode b_Mod_fits 26 = .ok (.goto 4, 3) := by decide +kernel
theorem d_Mod_fits_29 : decode b_Mod_fits 29 = .ok (.iconst (-1), 1) := by decide +kernel
theorem d_Mod_fits_30 : decode b_Mod_fits 30 = .ok (.ireturn, 1) := by decide +kernel
theorem d_Mod_way_0 : decode b_Mod_way 0 = .ok (.aload_n 0, 1) := by decide +kernel
theorem d_Mod_way_1 : decode b_Mod_way 1 = .ok (.iload_n 1, 1) := by decide +kernel
theorem d_Mod_way_2 : decode b_Mod_way 2 = .ok (.invokevirtual 179, 3) := by decide +kernel
theorem d_Mod_way_5 : decode b_Mod_way 5 = .ok (.ifCond .eq 21, 3) := by decide +kernel
theorem d_Mod_way_8 : decode b_Mod_way 8 = .ok (.iload_n 2, 1) := by decide +kernel
theorem d_Mod_way_9 : decode b_Mod_way 9 = .ok (.iconst 0, 1) := by decide +kernel
theorem d_Mod_way_10 : decode b_Mod_way 10 = .ok (.iconst 1, 1) := by decide +kernel
theorem d_Mod_way_11 : decode b_Mod_way 11 = .ok (.invokestatic 55, 3) := by decide +kernel
theorem d_Mod_way_14 : decode b_Mod_way 14 = .ok (.ifCond .eq 12, 3) := by decide +kernel
theorem d_Mod_way_17 : decode b_Mod_way 17 = .ok (.iload_n 3, 1) := by decide +kernel
theorem d_Mod_way_18 : decode b_Mod_way 18 = .ok (.iconst 0, 1) := by decide +kernel
theorem d_Mod_way_19 : decode b_Mod_way 19 = .ok (.iconst 2, 1) := by decide +kernel
theorem d_Mod_way_20 : decode b_Mod_way 20 = .ok (.invokestatic 55, 3) := by decide +kernel
theorem d_Mod_way_23 : decode b_Mod_way 23 = .ok (.ifCond .ne 5, 3) := by decide +kernel
theorem d_Mod_way_26 : decode b_Mod_way 26 = .ok (.iconst (-1), 1) := by decide +kernel
theorem d_Mod_way_27 : decode b_Mod_way 27 = .ok (.ireturn, 1) := by decide +kernel
theorem d_Mod_way_28 : decode b_Mod_way 28 = .ok (.aload_n 0, 1) := by decide +kernel
theorem d_Mod_way_29 : decode b_Mod_way 29 = .ok (.iload_n 1, 1) := by decide +kernel
theorem d_Mod_way_30 : decode b_Mod_way 30 = .ok (.iload_n 2, 1) := by decide +kernel
theorem d_Mod_way_31 : decode b_Mod_way 31 = .ok (.iconst 1, 1) := by decide +kernel
theorem d_Mod_way_32 : decode b_Mod_way 32 = .ok (.if_icmp .ne 7, 3) := by decide +kernel
theorem d_Mod_way_35 : decode b_Mod_way 35 = .ok (.iconst 1, 1) := by decide +kernel
theorem d_Mod_way_36 : decode b_Mod_way 36 = .ok (.goto 4, 3) := by decide +kernel
theorem d_Mod_way_39 : decode b_Mod_way 39 = .ok (.iconst 0, 1) := by decide +kernel
theorem d_Mod_way_40 : decode b_Mod_way 40 = .ok (.invokevirtual 212, 3) := by decide +kernel
theorem d_Mod_way_43 : decode b_Mod_way 43 = .ok (.iload_n 3, 1) := by decide +kernel
theorem d_Mod_way_44 : decode b_Mod_way 44 = .ok (.ifCond .ne 10, 3) := by decide +kernel
theorem d_Mod_way_47 : decode b_Mod_way 47 = .ok (.aload_n 0, 1) := by decide +kernel
theorem d_Mod_way_48 : decode b_Mod_way 48 = .ok (.getfield 87, 3) := by decide +kernel
theorem d_Mod_way_51 : decode b_Mod_way 51 = .ok (.goto 26, 3) := by decide +kernel
theorem d_Mod_way_54 : decode b_Mod_way 54 = .ok (.iload_n 3, 1) := by decide +kernel
theorem d_Mod_way_55 : decode b_Mod_way 55 = .ok (.iconst 1, 1) := by decide +kernel
theorem d_Mod_way_56 : decode b_Mod_way 56 = .ok (.if_icmp .ne 17, 3) := by decide +kernel
theorem d_Mod_way_59 : decode b_Mod_way 59 = .ok (.aload_n 0, 1) := by decide +kernel
theorem d_Mod_way_60 : decode b_Mod_way 60 = .ok (.getfield 91, 3) := by decide +kernel
theorem d_Mod_way_63 : decode b_Mod_way 63 = .ok (.aload_n 0, 1) := by decide +kernel
theorem d_Mod_way_64 : decode b_Mod_way 64 = .ok (.getfield 9, 3) := by decide +kernel
theorem d_Mod_way_67 : decode b_Mod_way 67 = .ok (.iconst 2, 1) := by decide +kernel
theorem d_Mod_way_68 : decode b_Mod_way 68 = .ok (.iaload, 1) := by decide +kernel
theorem d_Mod_way_69 : decode b_Mod_way 69 = .ok (.isub, 1) := by decide +kernel
theorem d_Mod_way_70 : decode b_Mod_way 70 = .ok (.goto 7, 3) := by decide +kernel
theorem d_Mod_way_73 : decode b_Mod_way 73 = .ok (.aload_n 0, 1) := by decide +kernel
theorem d_Mod_way_74 : decode b_Mod_way 74 = .ok (.getfield 98, 3) := by decide +kernel
theorem d_Mod_way_77 : decode b_Mod_way 77 = .ok (.ireturn, 1) := by decide +kernel
theorem d_Mod_posture_0 : decode b_Mod_posture 0 = .ok (.aload_n 0, 1) := by decide +kernel
theorem d_Mod_posture_1 : decode b_Mod_posture 1 = .ok (.iload_n 1, 1) := by decide +kernel
theorem d_Mod_posture_2 : decode b_Mod_posture 2 = .ok (.invokevirtual 179, 3) := by decide +kernel
theorem d_Mod_posture_5 : decode b_Mod_posture 5 = .ok (.ifCond .ne 5, 3) := by decide +kernel
theorem d_Mod_posture_8 : decode b_Mod_posture 8 = .ok (.iconst (-1), 1) := by decide +kernel
theorem d_Mod_posture_9 : decode b_Mod_posture 9 = .ok (.ireturn, 1) := by decide +kernel
theorem d_Mod_posture_10 : decode b_Mod_posture 10 = .ok (.aload_n 0, 1) := by decide +kernel
theorem d_Mod_posture_11 : decode b_Mod_posture 11 = .ok (.iload_n 1, 1) := by decide +kernel
theorem d_Mod_posture_12 : decode b_Mod_posture 12 = .ok (.iconst 4, 1) := by decide +kernel
theorem d_Mod_posture_13 : decode b_Mod_posture 13 = .ok (.invokevirtual 73, 3) := by decide +kernel
theorem d_Mod_posture_16 : decode b_Mod_posture 16 = .ok (.istore_n 2, 1) := by decide +kernel
theorem d_Mod_posture_17 : decode b_Mod_posture 17 = .ok (.bipush (-4), 2) := by decide +kernel
theorem d_Mod_posture_19 : decode b_Mod_posture 19 = .ok (.istore_n 3, 1) := by decide +kernel
theorem d_Mod_posture_20 : decode b_Mod_posture 20 = .ok (.ldc 216, 2) := by decide +kernel
theorem d_Mod_posture_22 : decode b_Mod_posture 22 = .ok (.istore 4, 2) := by decide +kernel
theorem d_Mod_posture_24 : decode b_Mod_posture 24 = .ok (.iconst 0, 1) := by decide +kernel
theorem d_Mod_posture_25 : decode b_Mod_posture 25 = .ok (.istore 5, 2) := by decide +kernel
theorem d_Mod_posture_27 : decode b_Mod_posture 27 = .ok (.iload 5, 2) := by decide +kernel
theorem d_Mod_posture_29 : decode b_Mod_posture 29 = .ok (.iconst 4, 1) := by decide +kernel
theorem d_Mod_posture_30 : decode b_Mod_posture 30 = .ok (.if_icmp .ge 55, 3) := by decide +kernel
theorem d_Mod_posture_33 : decode b_Mod_posture 33 = .ok (.aload_n 0, 1) := by decide +kernel
theorem d_Mod_posture_34 : decode b_Mod_posture 34 = .ok (.getfield 9, 3) := by decide +kernel
theorem d_Mod_posture_37 : decode b_Mod_posture 37 = .ok (.iload_n 1, 1) := by decide +kernel
theorem d_Mod_posture_38 : decode b_Mod_posture 38 = .ok (.iconst 4, 1) := by decide +kernel
theorem d_Mod_posture_39 : decode b_Mod_posture 39 = .ok (.invokestatic 59, 3) := by decide +kernel
theorem d_Mod_posture_42 : decode b_Mod_posture 42 = .ok (.iload 5, 2) := by decide +kernel
theorem d_Mod_posture_44 : decode b_Mod_posture 44 = .ok (.iastore, 1) := by decide +kernel
theorem d_Mod_posture_45 : decode b_Mod_posture 45 = .ok (.aload_n 0, 1) := by decide +kernel
theorem d_Mod_posture_46 : decode b_Mod_posture 46 = .ok (.iload_n 1, 1) := by decide +kernel
theorem d_Mod_posture_47 : decode b_Mod_posture 47 = .ok (.iconst 0, 1) := by decide +kernel
theorem d_Mod_posture_48 : decode b_Mod_posture 48 = .ok (.invokevirtual 212, 3) := by decide +kernel
theorem d_Mod_posture_51 : decode b_Mod_posture 51 = .ok (.aload_n 0, 1) := by decide +kernel
theorem d_Mod_posture_52 : decode b_Mod_posture 52 = .ok (.getfield 87, 3) := by decide +kernel
theorem d_Mod_posture_55 : decode b_Mod_posture 55 = .ok (.ifCond .ge 24, 3) := by decide +kernel
theorem d_Mod_posture_58 : decode b_Mod_posture 58 = .ok (.aload_n 0, 1) := by decide +kernel
theorem d_Mod_posture_59 : decode b_Mod_posture 59 = .ok (.getfield 98, 3) := by decide +kernel
theorem d_Mod_posture_62 : decode b_Mod_posture 62 = .ok (.iload 4, 2) := by decide +kernel
theorem d_Mod_posture_64 : decode b_Mod_posture 64 = .ok (.if_icmp .lt 6, 3) := by decide +kernel
theorem d_Mod_posture_67 : decode b_Mod_posture 67 = .ok (.goto 12, 3) := by decide +kernel
theorem d_Mod_posture_70 : decode b_Mod_posture 70 = .ok (.iload 5, 2) := by decide +kernel
theorem d_Mod_posture_72 : decode b_Mod_posture 72 = .ok (.istore_n 3, 1) := by decide +kernel
theorem d_Mod_posture_73 : decode b_Mod_posture 73 = .ok (.aload_n 0, 1) := by decide +kernel
theorem d_Mod_posture_74 : decode b_Mod_posture 74 = .ok (.getfield 98, 3) := by decide +kernel
theorem d_Mod_posture_77 : decode b_Mod_posture 77 = .ok (.istore 4, 2) := by decide +kernel
theorem d_Mod_posture_79 : decode b_Mod_posture 79 = .ok (.iinc 5 1, 3) := by decide +kernel
theorem d_Mod_posture_82 : decode b_Mod_posture 82 = .ok (.goto (-55), 3) := by decide +kernel
theorem d_Mod_posture_85 : decode b_Mod_posture 85 = .ok (.aload_n 0, 1) := by decide +kernel
theorem d_Mod_posture_86 : decode b_Mod_posture 86 = .ok (.getfield 9, 3) := by decide +kernel
theorem d_Mod_posture_89 : decode b_Mod_posture 89 = .ok (.iload_n 1, 1) := by decide +kernel
theorem d_Mod_posture_90 : decode b_Mod_posture 90 = .ok (.iconst 4, 1) := by decide +kernel
theorem d_Mod_posture_91 : decode b_Mod_posture 91 = .ok (.invokestatic 59, 3) := by decide +kernel
theorem d_Mod_posture_94 : decode b_Mod_posture 94 = .ok (.iload_n 2, 1) := by decide +kernel
theorem d_Mod_posture_95 : decode b_Mod_posture 95 = .ok (.iastore, 1) := by decide +kernel
theorem d_Mod_posture_96 : decode b_Mod_posture 96 = .ok (.iload_n 3, 1) := by decide +kernel
theorem d_Mod_posture_97 : decode b_Mod_posture 97 = .ok (.ireturn, 1) := by decide +kernel
theorem d_Mod_lacks_0 : decode b_Mod_lacks 0 = .ok (.aload_n 0, 1) := by decide +kernel
theorem d_Mod_lacks_1 : decode b_Mod_lacks 1 = .ok (.iload_n 1, 1) := by decide +kernel
theorem d_Mod_lacks_2 : decode b_Mod_lacks 2 = .ok (.invokevirtual 179, 3) := by decide +kernel
theorem d_Mod_lacks_5 : decode b_Mod_lacks 5 = .ok (.ifCond .ne 5, 3) := by decide +kernel
theorem d_Mod_lacks_8 : decode b_Mod_lacks 8 = .ok (.iconst (-1), 1) := by decide +kernel
theorem d_Mod_lacks_9 : decode b_Mod_lacks 9 = .ok (.ireturn, 1) := by decide +kernel
theorem d_Mod_lacks_10 : decode b_Mod_lacks 10 = .ok (.iconst 0, 1) := by decide +kernel
theorem d_Mod_lacks_11 : decode b_Mod_lacks 11 = .ok (.istore_n 2, 1) := by decide +kernel
theorem d_Mod_lacks_12 : decode b_Mod_lacks 12 = .ok (.iconst 0, 1) := by decide +kernel
theorem d_Mod_lacks_13 : decode b_Mod_lacks 13 = .ok (.istore_n 3, 1) := by decide +kernel
theorem d_Mod_lacks_14 : decode b_Mod_lacks 14 = .ok (.iload_n 3, 1) := by decide +kernel
theorem d_Mod_lacks_15 : decode b_Mod_lacks 15 = .ok (.aload_n 0, 1) := by decide +kernel
theorem d_Mod_lacks_16 : decode b_Mod_lacks 16 = .ok (.getfield 9, 3) := by decide +kernel
theorem d_Mod_lacks_19 : decode b_Mod_lacks 19 = .ok (.iconst 0, 1) := by decide +kernel
theorem d_Mod_lacks_20 : decode b_Mod_lacks 20 = .ok (.iaload, 1) := by decide +kernel
theorem d_Mod_lacks_21 : decode b_Mod_lacks 21 = .ok (.if_icmp .ge 31, 3) := by decide +kernel
theorem d_Mod_lacks_24 : decode b_Mod_lacks 24 = .ok (.iload_n 2, 1) := by decide +kernel
theorem d_Mod_lacks_25 : decode b_Mod_lacks 25 = .ok (.aload_n 0, 1) := by decide +kernel
theorem d_Mod_lacks_26 : decode b_Mod_lacks 26 = .ok (.iload_n 1, 1) := by decide +kernel
theorem d_Mod_lacks_27 : decode b_Mod_lacks 27 = .ok (.iload_n 3, 1) := by decide +kernel
theorem d_Mod_lacks_28 : decode b_Mod_lacks 28 = .ok (.iconst 1, 1) := by decide +kernel
theorem d_Mod_lacks_29 : decode b_Mod_lacks 29 = .ok (.invokevirtual 80, 3) := by decide +kernel
theorem d_Mod_lacks_32 : decode b_Mod_lacks 32 = .ok (.aload_n 0, 1) := by decide +kernel
theorem d_Mod_lacks_33 : decode b_Mod_lacks 33 = .ok (.iload_n 3, 1) := by decide +kernel
theorem d_Mod_lacks_34 : decode b_Mod_lacks 34 = .ok (.aload_n 0, 1) := by decide +kernel
theorem d_Mod_lacks_35 : decode b_Mod_lacks 35 = .ok (.invokevirtual 203, 3) := by decide +kernel
theorem d_Mod_lacks_38 : decode b_Mod_lacks 38 = .ok (.invokevirtual 84, 3) := by decide +kernel
theorem d_Mod_lacks_41 : decode b_Mod_lacks 41 = .ok (.isub, 1) := by decide +kernel
theorem d_Mod_lacks_42 : decode b_Mod_lacks 42 = .ok (.invokestatic 66, 3) := by decide +kernel
theorem d_Mod_lacks_45 : decode b_Mod_lacks 45 = .ok (.istore_n 2, 1) := by decide +kernel
theorem d_Mod_lacks_46 : decode b_Mod_lacks 46 = .ok (.iinc 3 1, 3) := by decide +kernel
theorem d_Mod_lacks_49 : decode b_Mod_lacks 49 = .ok (.goto (-35), 3) := by decide +kernel
theorem d_Mod_lacks_52 : decode b_Mod_lacks 52 = .ok (.iload_n 2, 1) := by decide +kernel
theorem d_Mod_lacks_53 : decode b_Mod_lacks 53 = .ok (.ireturn, 1) := by decide +kernel
theorem d_Mod_widest_0 : decode b_Mod_widest 0 = .ok (.aload_n 0, 1) := by decide +kernel
theorem d_Mod_widest_1 : decode b_Mod_widest 1 = .ok (.iload_n 1, 1) := by decide +kernel
theorem d_Mod_widest_2 : decode b_Mod_widest 2 = .ok (.invokevirtual 179, 3) := by decide +kernel
theorem d_Mod_widest_5 : decode b_Mod_widest 5 = .ok (.ifCond .ne 5, 3) := by decide +kernel
theorem d_Mod_widest_8 : decode b_Mod_widest 8 = .ok (.iconst (-1), 1) := by decide +kernel
theorem d_Mod_widest_9 : decode b_Mod_widest 9 = .ok (.ireturn, 1) := by decide +kernel
theorem d_Mod_widest_10 : decode b_Mod_widest 10 = .ok (.aload_n 0, 1) := by decide +kernel
theorem d_Mod_widest_11 : decode b_Mod_widest 11 = .ok (.iload_n 1, 1) := by decide +kernel
theorem d_Mod_widest_12 : decode b_Mod_widest 12 = .ok (.iconst 0, 1) := by decide +kernel
theorem d_Mod_widest_13 : decode b_Mod_widest 13 = .ok (.invokevirtual 73, 3) := by decide +kernel
theorem d_Mod_widest_16 : decode b_Mod_widest 16 = .ok (.istore_n 2, 1) := by decide +kernel
theorem d_Mod_widest_17 : decode b_Mod_widest 17 = .ok (.bipush (-4), 2) := by decide +kernel
theorem d_Mod_widest_19 : decode b_Mod_widest 19 = .ok (.istore_n 3, 1) := by decide +kernel
theorem d_Mod_widest_20 : decode b_Mod_widest 20 = .ok (.bipush 10, 2) := by decide +kernel
theorem d_Mod_widest_22 : decode b_Mod_widest 22 = .ok (.istore 4, 2) := by decide +kernel
theorem d_Mod_widest_24 : decode b_Mod_widest 24 = .ok (.iload 4, 2) := by decide +kernel
theorem d_Mod_widest_26 : decode b_Mod_widest 26 = .ok (.bipush 50, 2) := by decide +kernel
theorem d_Mod_widest_28 : decode b_Mod_widest 28 = .ok (.if_icmp .gt 41, 3) := by decide +kernel
theorem d_Mod_widest_31 : decode b_Mod_widest 31 = .ok (.aload_n 0, 1) := by decide +kernel
theorem d_Mod_widest_32 : decode b_Mod_widest 32 = .ok (.getfield 9, 3) := by decide +kernel
theorem d_Mod_widest_35 : decode b_Mod_widest 35 = .ok (.iload_n 1, 1) := by decide +kernel
theorem d_Mod_widest_36 : decode b_Mod_widest 36 = .ok (.iconst 0, 1) := by decide +kernel
theorem d_Mod_widest_37 : decode b_Mod_widest 37 = .ok (.invokestatic 59, 3) := by decide +kernel
theorem d_Mod_widest_40 : decode b_Mod_widest 40 = .ok (.iload 4, 2) := by decide +kernel
theorem d_Mod_widest_42 : decode b_Mod_widest 42 = .ok (.iastore, 1) := by decide +kernel
theorem d_Mod_widest_43 : decode b_Mod_widest 43 = .ok (.aload_n 0, 1) := by decide +kernel
theorem d_Mod_widest_44 : decode b_Mod_widest 44 = .ok (.iload_n 1, 1) := by decide +kernel
theorem d_Mod_widest_45 : decode b_Mod_widest 45 = .ok (.iconst 0, 1) := by decide +kernel
theorem d_Mod_widest_46 : decode b_Mod_widest 46 = .ok (.invokevirtual 212, 3) := by decide +kernel
theorem d_Mod_widest_49 : decode b_Mod_widest 49 = .ok (.aload_n 0, 1) := by decide +kernel
theorem d_Mod_widest_50 : decode b_Mod_widest 50 = .ok (.getfield 87, 3) := by decide +kernel
theorem d_Mod_widest_53 : decode b_Mod_widest 53 = .ok (.ifCond .ge 8, 3) := by decide +kernel
theorem d_Mod_widest_56 : decode b_Mod_widest 56 = .ok (.iload 4, 2) := by decide +kernel
theorem d_Mod_widest_58 : decode b_Mod_widest 58 = .ok (.goto 4, 3) := by decide +kernel
theorem d_Mod_widest_61 : decode b_Mod_widest 61 = .ok (.iload_n 3, 1) := by decide +kernel
theorem d_Mod_widest_62 : decode b_Mod_widest 62 = .ok (.istore_n 3, 1) := by decide +kernel
theorem d_Mod_widest_63 : decode b_Mod_widest 63 = .ok (.iinc 4 1, 3) := by decide +kernel
theorem d_Mod_widest_66 : decode b_Mod_widest 66 = .ok (.goto (-42), 3) := by decide +kernel
theorem d_Mod_widest_69 : decode b_Mod_widest 69 = .ok (.aload_n 0, 1) := by decide +kernel
theorem d_Mod_widest_70 : decode b_Mod_widest 70 = .ok (.getfield 9, 3) := by decide +kernel
theorem d_Mod_widest_73 : decode b_Mod_widest 73 = .ok (.iload_n 1, 1) := by decide +kernel
theorem d_Mod_widest_74 : decode b_Mod_widest 74 = .ok (.iconst 0, 1) := by decide +kernel
theorem d_Mod_widest_75 : decode b_Mod_widest 75 = .ok (.invokestatic 59, 3) := by decide +kernel
theorem d_Mod_widest_78 : decode b_Mod_widest 78 = .ok (.iload_n 2, 1) := by decide +kernel
theorem d_Mod_widest_79 : decode b_Mod_widest 79 = .ok (.iastore, 1) := by decide +kernel
theorem d_Mod_widest_80 : decode b_Mod_widest 80 = .ok (.iload_n 3, 1) := by decide +kernel
theorem d_Mod_widest_81 : decode b_Mod_widest 81 = .ok (.ireturn, 1) := by decide +kernel
theorem d_Mod_go_0 : decode b_Mod_go 0 = .ok (.iload_n 1, 1) := by decide +kernel
theorem d_Mod_go_1 : decode b_Mod_go 1 = .ok (.iconst 0, 1) := by decide +kernel
theorem d_Mod_go_2 : decode b_Mod_go 2 = .ok (.iconst 4, 1) := by decide +kernel
theorem d_Mod_go_3 : decode b_Mod_go 3 = .ok (.invokestatic 55, 3) := by decide +kernel
theorem d_Mod_go_6 : decode b_Mod_go 6 = .ok (.ifCond .ne 5, 3) := by decide +kernel
theorem d_Mod_go_9 : decode b_Mod_go 9 = .ok (.iconst (-1), 1) := by decide +kernel
theorem d_Mod_go_10 : decode b_Mod_go 10 = .ok (.ireturn, 1) := by decide +kernel
theorem d_Mod_go_11 : decode b_Mod_go 11 = .ok (.aload_n 0, 1) := by decide +kernel
theorem d_Mod_go_12 : decode b_Mod_go 12 = .ok (.iconst 0, 1) := by decide +kernel
theorem d_Mod_go_13 : decode b_Mod_go 13 = .ok (.putfield 112, 3) := by decide +kernel
theorem d_Mod_go_16 : decode b_Mod_go 16 = .ok (.aload_n 0, 1) := by decide +kernel
theorem d_Mod_go_17 : decode b_Mod_go 17 = .ok (.invokevirtual 136, 3) := by decide +kernel
theorem d_Mod_go_20 : decode b_Mod_go 20 = .ok (.iload_n 1, 1) := by decide +kernel
theorem d_Mod_go_21 : decode b_Mod_go 21 = .ok (.ifCond .ne 10, 3) := by decide +kernel
theorem d_Mod_go_24 : decode b_Mod_go 24 = .ok (.aload_n 0, 1) := by decide +kernel
theorem d_Mod_go_25 : decode b_Mod_go 25 = .ok (.getfield 118, 3) := by decide +kernel
theorem d_Mod_go_28 : decode b_Mod_go 28 = .ok (.goto 43, 3) := by decide +kernel
theorem d_Mod_go_31 : decode b_Mod_go 31 = .ok (.iload_n 1, 1) := by decide +kernel
theorem d_Mod_go_32 : decode b_Mod_go 32 = .ok (.iconst 1, 1) := by decide +kernel
theorem d_Mod_go_33 : decode b_Mod_go 33 = .ok (.if_icmp .ne 10, 3) := by decide +kernel
theorem d_Mod_go_36 : decode b_Mod_go 36 = .ok (.aload_n 0, 1) := by decide +kernel
theorem d_Mod_go_37 : decode b_Mod_go 37 = .ok (.getfield 121, 3) := by decide +kernel
theorem d_Mod_go_40 : decode b_Mod_go 40 = .ok (.goto 31, 3) := by decide +kernel
theorem d_Mod_go_43 : decode b_Mod_go 43 = .ok (.iload_n 1, 1) := by decide +kernel
theorem d_Mod_go_44 : decode b_Mod_go 44 = .ok (.iconst 2, 1) := by decide +kernel
theorem d_Mod_go_45 : decode b_Mod_go 45 = .ok (.if_icmp .ne 10, 3) := by decide +kernel
theorem d_Mod_go_48 : decode b_Mod_go 48 = .ok (.aload_n 0, 1) := by decide +kernel
theorem d_Mod_go_49 : decode b_Mod_go 49 = .ok (.getfield 124, 3) := by decide +kernel
theorem d_Mod_go_52 : decode b_Mod_go 52 = .ok (.goto 19, 3) := by decide +kernel
theorem d_Mod_go_55 : decode b_Mod_go 55 = .ok (.iload_n 1, 1) := by decide +kernel
theorem d_Mod_go_56 : decode b_Mod_go 56 = .ok (.iconst 3, 1) := by decide +kernel
theorem d_Mod_go_57 : decode b_Mod_go 57 = .ok (.if_icmp .ne 10, 3) := by decide +kernel
theorem d_Mod_go_60 : decode b_Mod_go 60 = .ok (.aload_n 0, 1) := by decide +kernel
theorem d_Mod_go_61 : decode b_Mod_go 61 = .ok (.getfield 130, 3) := by decide +kernel
theorem d_Mod_go_64 : decode b_Mod_go 64 = .ok (.goto 7, 3) := by decide +kernel
theorem d_Mod_go_67 : decode b_Mod_go 67 = .ok (.aload_n 0, 1) := by decide +kernel
theorem d_Mod_go_68 : decode b_Mod_go 68 = .ok (.getfield 133, 3) := by decide +kernel
theorem d_Mod_go_71 : decode b_Mod_go 71 = .ok (.ireturn, 1) := by decide +kernel
theorem d_Mod_back_0 : decode b_Mod_back 0 = .ok (.iload_n 1, 1) := by decide +kernel
theorem d_Mod_back_1 : decode b_Mod_back 1 = .ok (.iconst 0, 1) := by decide +kernel
theorem d_Mod_back_2 : decode b_Mod_back 2 = .ok (.iconst 3, 1) := by decide +kernel
theorem d_Mod_back_3 : decode b_Mod_back 3 = .ok (.invokestatic 55, 3) := by decide +kernel
theorem d_Mod_back_6 : decode b_Mod_back 6 = .ok (.ifCond .ne 5, 3) := by decide +kernel
theorem d_Mod_back_9 : decode b_Mod_back 9 = .ok (.iconst (-1), 1) := by decide +kernel
theorem d_Mod_back_10 : decode b_Mod_back 10 = .ok (.ireturn, 1) := by decide +kernel
theorem d_Mod_back_11 : decode b_Mod_back 11 = .ok (.aload_n 0, 1) := by decide +kernel
theorem d_Mod_back_12 : decode b_Mod_back 12 = .ok (.iconst 0, 1) := by decide +kernel
theorem d_Mod_back_13 : decode b_Mod_back 13 = .ok (.putfield 112, 3) := by decide +kernel
theorem d_Mod_back_16 : decode b_Mod_back 16 = .ok (.aload_n 0, 1) := by decide +kernel
theorem d_Mod_back_17 : decode b_Mod_back 17 = .ok (.invokevirtual 148, 3) := by decide +kernel
theorem d_Mod_back_20 : decode b_Mod_back 20 = .ok (.iload_n 1, 1) := by decide +kernel
theorem d_Mod_back_21 : decode b_Mod_back 21 = .ok (.ifCond .ne 10, 3) := by decide +kernel
theorem d_Mod_back_24 : decode b_Mod_back 24 = .ok (.aload_n 0, 1) := by decide +kernel
theorem d_Mod_back_25 : decode b_Mod_back 25 = .ok (.getfield 139, 3) := by decide +kernel
theorem d_Mod_back_28 : decode b_Mod_back 28 = .ok (.goto 58, 3) := by decide +kernel
theorem d_Mod_back_31 : decode b_Mod_back 31 = .ok (.iload_n 1, 1) := by decide +kernel
theorem d_Mod_back_32 : decode b_Mod_back 32 = .ok (.iconst 1, 1) := by decide +kernel
theorem d_Mod_back_33 : decode b_Mod_back 33 = .ok (.if_icmp .ne 10, 3) := by decide +kernel
theorem d_Mod_back_36 : decode b_Mod_back 36 = .ok (.aload_n 0, 1) := by decide +kernel
theorem d_Mod_back_37 : decode b_Mod_back 37 = .ok (.getfield 142, 3) := by decide +kernel
theorem d_Mod_back_40 : decode b_Mod_back 40 = .ok (.goto 46, 3) := by decide +kernel
theorem d_Mod_back_43 : decode b_Mod_back 43 = .ok (.iload_n 1, 1) := by decide +kernel
theorem d_Mod_back_44 : decode b_Mod_back 44 = .ok (.iconst 2, 1) := by decide +kernel
theorem d_Mod_back_45 : decode b_Mod_back 45 = .ok (.if_icmp .ne 37, 3) := by decide +kernel
theorem d_Mod_back_48 : decode b_Mod_back 48 = .ok (.aload_n 0, 1) := by decide +kernel
theorem d_Mod_back_49 : decode b_Mod_back 49 = .ok (.getfield 118, 3) := by decide +kernel
theorem d_Mod_back_52 : decode b_Mod_back 52 = .ok (.aload_n 0, 1) := by decide +kernel
theorem d_Mod_back_53 : decode b_Mod_back 53 = .ok (.getfield 139, 3) := by decide +kernel
theorem d_Mod_back_56 : decode b_Mod_back 56 = .ok (.iconst (-1), 1) := by decide +kernel
theorem d_Mod_back_57 : decode b_Mod_back 57 = .ok (.ixor, 1) := by decide +kernel
theorem d_Mod_back_58 : decode b_Mod_back 58 = .ok (.iand, 1) := by decide +kernel
theorem d_Mod_back_59 : decode b_Mod_back 59 = .ok (.aload_n 0, 1) := by decide +kernel
theorem d_Mod_back_60 : decode b_Mod_back 60 = .ok (.getfield 142, 3) := by decide +kernel
theorem d_Mod_back_63 : decode b_Mod_back 63 = .ok (.ifCond .ge 7, 3) := by decide +kernel
theorem d_Mod_back_66 : decode b_Mod_back 66 = .ok (.iconst (-1), 1) := by decide +kernel
theorem d_Mod_back_67 : decode b_Mod_back 67 = .ok (.goto 11, 3) := by decide +kernel
theorem d_Mod_back_70 : decode b_Mod_back 70 = .ok (.iconst 1, 1) := by decide +kernel
theorem d_Mod_back_71 : decode b_Mod_back 71 = .ok (.aload_n 0, 1) := by decide +kernel
theorem d_Mod_back_72 : decode b_Mod_back 72 = .ok (.getfield 142, 3) := by decide +kernel
theorem d_Mod_back_75 : decode b_Mod_back 75 = .ok (.ishl, 1) := by decide +kernel
theorem d_Mod_back_76 : decode b_Mod_back 76 = .ok (.iconst (-1), 1) := by decide +kernel
theorem d_Mod_back_77 : decode b_Mod_back 77 = .ok (.ixor, 1) := by decide +kernel
theorem d_Mod_back_78 : decode b_Mod_back 78 = .ok (.iand, 1) := by decide +kernel
theorem d_Mod_back_79 : decode b_Mod_back 79 = .ok (.goto 7, 3) := by decide +kernel
theorem d_Mod_back_82 : decode b_Mod_back 82 = .ok (.aload_n 0, 1) := by decide +kernel
theorem d_Mod_back_83 : decode b_Mod_back 83 = .ok (.getfield 145, 3) := by decide +kernel
theorem d_Mod_back_86 : decode b_Mod_back 86 = .ok (.ireturn, 1) := by decide +kernel
theorem d_Mod_help_0 : decode b_Mod_help 0 = .ok (.aload_n 0, 1) := by decide +kernel
theorem d_Mod_help_1 : decode b_Mod_help 1 = .ok (.iload_n 1, 1) := by decide +kernel
theorem d_Mod_help_2 : decode b_Mod_help 2 = .ok (.invokevirtual 179, 3) := by decide +kernel
theorem d_Mod_help_5 : decode b_Mod_help 5 = .ok (.ifCond .ne 5, 3) := by decide +kernel
theorem d_Mod_help_8 : decode b_Mod_help 8 = .ok (.iconst (-1), 1) := by decide +kernel
theorem d_Mod_help_9 : decode b_Mod_help 9 = .ok (.ireturn, 1) := by decide +kernel
theorem d_Mod_help_10 : decode b_Mod_help 10 = .ok (.aload_n 0, 1) := by decide +kernel
theorem d_Mod_help_11 : decode b_Mod_help 11 = .ok (.iconst 0, 1) := by decide +kernel
theorem d_Mod_help_12 : decode b_Mod_help 12 = .ok (.putfield 112, 3) := by decide +kernel
theorem d_Mod_help_15 : decode b_Mod_help 15 = .ok (.aload_n 0, 1) := by decide +kernel
theorem d_Mod_help_16 : decode b_Mod_help 16 = .ok (.invokevirtual 115, 3) := by decide +kernel
theorem d_Mod_help_19 : decode b_Mod_help 19 = .ok (.aload_n 0, 1) := by decide +kernel
theorem d_Mod_help_20 : decode b_Mod_help 20 = .ok (.iload_n 1, 1) := by decide +kernel
theorem d_Mod_help_21 : decode b_Mod_help 21 = .ok (.invokevirtual 172, 3) := by decide +kernel
theorem d_Mod_help_24 : decode b_Mod_help 24 = .ok (.istore_n 2, 1) := by decide +kernel
theorem d_Mod_help_25 : decode b_Mod_help 25 = .ok (.aload_n 0, 1) := by decide +kernel
theorem d_Mod_help_26 : decode b_Mod_help 26 = .ok (.iconst 0, 1) := by decide +kernel
theorem d_Mod_help_27 : decode b_Mod_help 27 = .ok (.iload_n 2, 1) := by decide +kernel
theorem d_Mod_help_28 : decode b_Mod_help 28 = .ok (.invokevirtual 127, 3) := by decide +kernel
theorem d_Mod_help_31 : decode b_Mod_help 31 = .ok (.iload_n 2, 1) := by decide +kernel
theorem d_Mod_help_32 : decode b_Mod_help 32 = .ok (.iconst 1, 1) := by decide +kernel
theorem d_Mod_help_33 : decode b_Mod_help 33 = .ok (.iadd, 1) := by decide +kernel
theorem d_Mod_help_34 : decode b_Mod_help 34 = .ok (.aload_n 0, 1) := by decide +kernel
theorem d_Mod_help_35 : decode b_Mod_help 35 = .ok (.getfield 109, 3) := by decide +kernel
theorem d_Mod_help_38 : decode b_Mod_help 38 = .ok (.if_icmp .ge 21, 3) := by decide +kernel
theorem d_Mod_help_41 : decode b_Mod_help 41 = .ok (.aload_n 0, 1) := by decide +kernel
theorem d_Mod_help_42 : decode b_Mod_help 42 = .ok (.aload_n 0, 1) := by decide +kernel
theorem d_Mod_help_43 : decode b_Mod_help 43 = .ok (.getfield 22, 3) := by decide +kernel
theorem d_Mod_help_46 : decode b_Mod_help 46 = .ok (.iload_n 2, 1) := by decide +kernel
theorem d_Mod_help_47 : decode b_Mod_help 47 = .ok (.iconst 1, 1) := by decide +kernel
theorem d_Mod_help_48 : decode b_Mod_help 48 = .ok (.iadd, 1) := by decide +kernel
theorem d_Mod_help_49 : decode b_Mod_help 49 = .ok (.iaload, 1) := by decide +kernel
theorem d_Mod_help_50 : decode b_Mod_help 50 = .ok (.iconst 3, 1) := by decide +kernel
theorem d_Mod_help_51 : decode b_Mod_help 51 = .ok (.invokevirtual 73, 3) := by decide +kernel
theorem d_Mod_help_54 : decode b_Mod_help 54 = .ok (.iconst 3, 1) := by decide +kernel
theorem d_Mod_help_55 : decode b_Mod_help 55 = .ok (.idiv, 1) := by decide +kernel
theorem d_Mod_help_56 : decode b_Mod_help 56 = .ok (.goto 4, 3) := by decide +kernel
theorem d_Mod_help_59 : decode b_Mod_help 59 = .ok (.iconst 0, 1) := by decide +kernel
theorem d_Mod_help_60 : decode b_Mod_help 60 = .ok (.iadd, 1) := by decide +kernel
theorem d_Mod_help_61 : decode b_Mod_help 61 = .ok (.ireturn, 1) := by decide +kernel
theorem d_Mod_eachOrder_0 : decode b_Mod_eachOrder 0 = .ok (.iload_n 2, 1) := by decide +kernel
theorem d_Mod_eachOrder_1 : decode b_Mod_eachOrder 1 = .ok (.ifCond .ne 90, 3) := by decide +kernel
theorem d_Mod_eachOrder_4 : decode b_Mod_eachOrder 4 = .ok (.aload_n 0, 1) := by decide +kernel
theorem d_Mod_eachOrder_5 : decode b_Mod_eachOrder 5 = .ok (.invokevirtual 148, 3) := by decide +kernel
theorem d_Mod_eachOrder_8 : decode b_Mod_eachOrder 8 = .ok (.aload_n 0, 1) := by decide +kernel
theorem d_Mod_eachOrder_9 : decode b_Mod_eachOrder 9 = .ok (.getfield 139, 3) := by decide +kernel
theorem d_Mod_eachOrder_12 : decode b_Mod_eachOrder 12 = .ok (.invokestatic 151, 3) := by decide +kernel
theorem d_Mod_eachOrder_15 : decode b_Mod_eachOrder 15 = .ok (.istore_n 3, 1) := by decide +kernel
theorem d_Mod_eachOrder_16 : decode b_Mod_eachOrder 16 = .ok (.iload_n 3, 1) := by decide +kernel
theorem d_Mod_eachOrder_17 : decode b_Mod_eachOrder 17 = .ok (.aload_n 0, 1) := by decide +kernel
theorem d_Mod_eachOrder_18 : decode b_Mod_eachOrder 18 = .ok (.getfield 217, 3) := by decide +kernel
theorem d_Mod_eachOrder_21 : decode b_Mod_eachOrder 21 = .ok (.if_icmp .lt 22, 3) := by decide +kernel
theorem d_Mod_eachOrder_24 : decode b_Mod_eachOrder 24 = .ok (.iload_n 3, 1) := by decide +kernel
theorem d_Mod_eachOrder_25 : decode b_Mod_eachOrder 25 = .ok (.aload_n 0, 1) := by decide +kernel
theorem d_Mod_eachOrder_26 : decode b_Mod_eachOrder 26 = .ok (.getfield 217, 3) := by decide +kernel
theorem d_Mod_eachOrder_29 : decode b_Mod_eachOrder 29 = .ok (.if_icmp .ne 15, 3) := by decide +kernel
theorem d_Mod_eachOrder_32 : decode b_Mod_eachOrder 32 = .ok (.aload_n 0, 1) := by decide +kernel
theorem d_Mod_eachOrder_33 : decode b_Mod_eachOrder 33 = .ok (.getfield 145, 3) := by decide +kernel
theorem d_Mod_eachOrder_36 : decode b_Mod_eachOrder 36 = .ok (.aload_n 0, 1) := by decide +kernel
theorem d_Mod_eachOrder_37 : decode b_Mod_eachOrder 37 = .ok (.getfield 220, 3) := by decide +kernel
theorem d_Mod_eachOrder_40 : decode b_Mod_eachOrder 40 = .ok (.if_icmp .lt 4, 3) := by decide +kernel
theorem d_Mod_eachOrder_43 : decode b_Mod_eachOrder 43 = .ok (.return_, 1) := by decide +kernel
theorem d_Mod_eachOrder_44 : decode b_Mod_eachOrder 44 = .ok (.aload_n 0, 1) := by decide +kernel
theorem d_Mod_eachOrder_45 : decode b_Mod_eachOrder 45 = .ok (.iload_n 3, 1) := by decide +kernel
theorem d_Mod_eachOrder_46 : decode b_Mod_eachOrder 46 = .ok (.putfield 217, 3) := by decide +kernel
theorem d_Mod_eachOrder_49 : decode b_Mod_eachOrder 49 = .ok (.aload_n 0, 1) := by decide +kernel
theorem d_Mod_eachOrder_50 : decode b_Mod_eachOrder 50 = .ok (.aload_n 0, 1) := by decide +kernel
theorem d_Mod_eachOrder_51 : decode b_Mod_eachOrder 51 = .ok (.getfield 145, 3) := by decide +kernel
theorem d_Mod_eachOrder_54 : decode b_Mod_eachOrder 54 = .ok (.putfield 220, 3) := by decide +kernel
theorem d_Mod_eachOrder_57 : decode b_Mod_eachOrder 57 = .ok (.iconst 0, 1) := by decide +kernel
theorem d_Mod_eachOrder_58 : decode b_Mod_eachOrder 58 = .ok (.istore 4, 2) := by decide +kernel
theorem d_Mod_eachOrder_60 : decode b_Mod_eachOrder 60 = .ok (.iload 4, 2) := by decide +kernel
theorem d_Mod_eachOrder_62 : decode b_Mod_eachOrder 62 = .ok (.bipush 6, 2) := by decide +kernel
theorem d_Mod_eachOrder_64 : decode b_Mod_eachOrder 64 = .ok (.if_icmp .ge 26, 3) := by decide +kernel
theorem d_Mod_eachOrder_67 : decode b_Mod_eachOrder 67 = .ok (.aload_n 0, 1) := by decide +kernel
theorem d_Mod_eachOrder_68 : decode b_Mod_eachOrder 68 = .ok (.getfield 28, 3) := by decide +kernel
theorem d_Mod_eachOrder_71 : decode b_Mod_eachOrder 71 = .ok (.iload 4, 2) := by decide +kernel
theorem d_Mod_eachOrder_73 : decode b_Mod_eachOrder 73 = .ok (.aload_n 0, 1) := by decide +kernel
theorem d_Mod_eachOrder_74 : decode b_Mod_eachOrder 74 = .ok (.getfield 9, 3) := by decide +kernel
theorem d_Mod_eachOrder_77 : decode b_Mod_eachOrder 77 = .ok (.bipush 72, 2) := by decide +kernel
theorem d_Mod_eachOrder_79 : decode b_Mod_eachOrder 79 = .ok (.iload 4, 2) := by decide +kernel
theorem d_Mod_eachOrder_81 : decode b_Mod_eachOrder 81 = .ok (.iadd, 1) := by decide +kernel
theorem d_Mod_eachOrder_82 : decode b_Mod_eachOrder 82 = .ok (.iaload, 1) := by decide +kernel
theorem d_Mod_eachOrder_83 : decode b_Mod_eachOrder 83 = .ok (.iastore, 1) := by decide +kernel
theorem d_Mod_eachOrder_84 : decode b_Mod_eachOrder 84 = .ok (.iinc 4 1, 3) := by decide +kernel
theorem d_Mod_eachOrder_87 : decode b_Mod_eachOrder 87 = .ok (.goto (-27), 3) := by decide +kernel
theorem d_Mod_eachOrder_90 : decode b_Mod_eachOrder 90 = .ok (.return_, 1) := by decide +kernel
theorem d_Mod_eachOrder_91 : decode b_Mod_eachOrder 91 = .ok (.iconst 0, 1) := by decide +kernel
theorem d_Mod_eachOrder_92 : decode b_Mod_eachOrder 92 = .ok (.istore_n 3, 1) := by decide +kernel
theorem d_Mod_eachOrder_93 : decode b_Mod_eachOrder 93 = .ok (.iload_n 3, 1) := by decide +kernel
theorem d_Mod_eachOrder_94 : decode b_Mod_eachOrder 94 = .ok (.aload_n 0, 1) := by decide +kernel
theorem d_Mod_eachOrder_95 : decode b_Mod_eachOrder 95 = .ok (.getfield 9, 3) := by decide +kernel
theorem d_Mod_eachOrder_98 : decode b_Mod_eachOrder 98 = .ok (.iconst 1, 1) := by decide +kernel
theorem d_Mod_eachOrder_99 : decode b_Mod_eachOrder 99 = .ok (.iaload, 1) := by decide +kernel
theorem d_Mod_eachOrder_100 : decode b_Mod_eachOrder 100 = .ok (.if_icmp .ge 44, 3) := by decide +kernel
theorem d_Mod_eachOrder_103 : decode b_Mod_eachOrder 103 = .ok (.iload_n 2, 1) := by decide +kernel
theorem d_Mod_eachOrder_104 : decode b_Mod_eachOrder 104 = .ok (.iload_n 3, 1) := by decide +kernel
theorem d_Mod_eachOrder_105 : decode b_Mod_eachOrder 105 = .ok (.ishr, 1) := by decide +kernel
theorem d_Mod_eachOrder_106 : decode b_Mod_eachOrder 106 = .ok (.iconst 1, 1) := by decide +kernel
theorem d_Mod_eachOrder_107 : decode b_Mod_eachOrder 107 = .ok (.iand, 1) := by decide +kernel
theorem d_Mod_eachOrder_108 : decode b_Mod_eachOrder 108 = .ok (.ifCond .ne 6, 3) := by decide +kernel
theorem d_Mod_eachOrder_111 : decode b_Mod_eachOrder 111 = .ok (.goto 27, 3) := by decide +kernel
theorem d_Mod_eachOrder_114 : decode b_Mod_eachOrder 114 = .ok (.aload_n 0, 1) := by decide +kernel
theorem d_Mod_eachOrder_115 : decode b_Mod_eachOrder 115 = .ok (.getfield 9, 3) := by decide +kernel
theorem d_Mod_eachOrder_118 : decode b_Mod_eachOrder 118 = .ok (.bipush 72, 2) := by decide +kernel
theorem d_Mod_eachOrder_120 : decode b_Mod_eachOrder 120 = .ok (.iload_n 1, 1) := by decide +kernel
theorem d_Mod_eachOrder_121 : decode b_Mod_eachOrder 121 = .ok (.iadd, 1) := by decide +kernel
theorem d_Mod_eachOrder_122 : decode b_Mod_eachOrder 122 = .ok (.iload_n 3, 1) := by decide +kernel
theorem d_Mod_eachOrder_123 : decode b_Mod_eachOrder 123 = .ok (.iastore, 1) := by decide +kernel
theorem d_Mod_eachOrder_124 : decode b_Mod_eachOrder 124 = .ok (.aload_n 0, 1) := by decide +kernel
theorem d_Mod_eachOrder_125 : decode b_Mod_eachOrder 125 = .ok (.iload_n 1, 1) := by decide +kernel
theorem d_Mod_eachOrder_126 : decode b_Mod_eachOrder 126 = .ok (.iconst 1, 1) := by decide +kernel
theorem d_Mod_eachOrder_127 : decode b_Mod_eachOrder 127 = .ok (.iadd, 1) := by decide +kernel
theorem d_Mod_eachOrder_128 : decode b_Mod_eachOrder 128 = .ok (.iload_n 2, 1) := by decide +kernel
theorem d_Mod_eachOrder_129 : decode b_Mod_eachOrder 129 = .ok (.iconst 1, 1) := by decide +kernel
theorem d_Mod_eachOrder_130 : decode b_Mod_eachOrder 130 = .ok (.iload_n 3, 1) := by decide +kernel
theorem d_Mod_eachOrder_131 : decode b_Mod_eachOrder 131 = .ok (.ishl, 1) := by decide +kernel
theorem d_Mod_eachOrder_132 : decode b_Mod_eachOrder 132 = .ok (.iconst (-1), 1) := by decide +kernel
theorem d_Mod_eachOrder_133 : decode b_Mod_eachOrder 133 = .ok (.ixor, 1) := by decide +kernel
theorem d_Mod_eachOrder_134 : decode b_Mod_eachOrder 134 = .ok (.iand, 1) := by decide +kernel
theorem d_Mod_eachOrder_135 : decode b_Mod_eachOrder 135 = .ok (.invokevirtual 223, 3) := by decide +kernel
theorem d_Mod_eachOrder_138 : decode b_Mod_eachOrder 138 = .ok (.iinc 3 1, 3) := by decide +kernel
theorem d_Mod_eachOrder_141 : decode b_Mod_eachOrder 141 = .ok (.goto (-48), 3) := by decide +kernel
theorem d_Mod_eachOrder_144 : decode b_Mod_eachOrder 144 = .ok (.return_, 1) := by decide +kernel
theorem d_Mod_order_0 : decode b_Mod_order 0 = .ok (.iload_n 1, 1) := by decide +kernel
theorem d_Mod_order_1 : decode b_Mod_order 1 = .ok (.iconst (-1), 1) := by decide +kernel
theorem d_Mod_order_2 : decode b_Mod_order 2 = .ok (.if_icmp .ge 5, 3) := by decide +kernel
theorem d_Mod_order_5 : decode b_Mod_order 5 = .ok (.iconst (-1), 1) := by decide +kernel
theorem d_Mod_order_6 : decode b_Mod_order 6 = .ok (.ireturn, 1) := by decide +kernel
theorem d_Mod_order_7 : decode b_Mod_order 7 = .ok (.aload_n 0, 1) := by decide +kernel
theorem d_Mod_order_8 : decode b_Mod_order 8 = .ok (.getfield 9, 3) := by decide +kernel
theorem d_Mod_order_11 : decode b_Mod_order 11 = .ok (.aload_n 0, 1) := by decide +kernel
theorem d_Mod_order_12 : decode b_Mod_order 12 = .ok (.getfield 16, 3) := by decide +kernel
theorem d_Mod_order_15 : decode b_Mod_order 15 = .ok (.invokestatic 193, 3) := by decide +kernel
theorem d_Mod_order_18 : decode b_Mod_order 18 = .ok (.aload_n 0, 1) := by decide +kernel
theorem d_Mod_order_19 : decode b_Mod_order 19 = .ok (.iconst 0, 1) := by decide +kernel
theorem d_Mod_order_20 : decode b_Mod_order 20 = .ok (.putfield 112, 3) := by decide +kernel
theorem d_Mod_order_23 : decode b_Mod_order 23 = .ok (.aload_n 0, 1) := by decide +kernel
theorem d_Mod_order_24 : decode b_Mod_order 24 = .ok (.iconst (-1), 1) := by decide +kernel
theorem d_Mod_order_25 : decode b_Mod_order 25 = .ok (.putfield 217, 3) := by decide +kernel
theorem d_Mod_order_28 : decode b_Mod_order 28 = .ok (.aload_n 0, 1) := by decide +kernel
theorem d_Mod_order_29 : decode b_Mod_order 29 = .ok (.ldc 216, 2) := by decide +kernel
theorem d_Mod_order_31 : decode b_Mod_order 31 = .ok (.putfield 220, 3) := by decide +kernel
theorem d_Mod_order_34 : decode b_Mod_order 34 = .ok (.aload_n 0, 1) := by decide +kernel
theorem d_Mod_order_35 : decode b_Mod_order 35 = .ok (.iconst 0, 1) := by decide +kernel
theorem d_Mod_order_36 : decode b_Mod_order 36 = .ok (.iconst 1, 1) := by decide +kernel
theorem d_Mod_order_37 : decode b_Mod_order 37 = .ok (.aload_n 0, 1) := by decide +kernel
theorem d_Mod_order_38 : decode b_Mod_order 38 = .ok (.getfield 9, 3) := by decide +kernel
theorem d_Mod_order_41 : decode b_Mod_order 41 = .ok (.iconst 1, 1) := by decide +kernel
theorem d_Mod_order_42 : decode b_Mod_order 42 = .ok (.iaload, 1) := by decide +kernel
theorem d_Mod_order_43 : decode b_Mod_order 43 = .ok (.ishl, 1) := by decide +kernel
theorem d_Mod_order_44 : decode b_Mod_order 44 = .ok (.iconst 1, 1) := by decide +kernel
theorem d_Mod_order_45 : decode b_Mod_order 45 = .ok (.isub, 1) := by decide +kernel
theorem d_Mod_order_46 : decode b_Mod_order 46 = .ok (.invokevirtual 223, 3) := by decide +kernel
theorem d_Mod_order_49 : decode b_Mod_order 49 = .ok (.aload_n 0, 1) := by decide +kernel
theorem d_Mod_order_50 : decode b_Mod_order 50 = .ok (.getfield 16, 3) := by decide +kernel
theorem d_Mod_order_53 : decode b_Mod_order 53 = .ok (.aload_n 0, 1) := by decide +kernel
theorem d_Mod_order_54 : decode b_Mod_order 54 = .ok (.getfield 9, 3) := by decide +kernel
theorem d_Mod_order_57 : decode b_Mod_order 57 = .ok (.invokestatic 193, 3) := by decide +kernel
theorem d_Mod_order_60 : decode b_Mod_order 60 = .ok (.iload_n 1, 1) := by decide +kernel
theorem d_Mod_order_61 : decode b_Mod_order 61 = .ok (.ifCond .ge 10, 3) := by decide +kernel
theorem d_Mod_order_64 : decode b_Mod_order 64 = .ok (.aload_n 0, 1) := by decide +kernel
theorem d_Mod_order_65 : decode b_Mod_order 65 = .ok (.getfield 217, 3) := by decide +kernel
theorem d_Mod_order_68 : decode b_Mod_order 68 = .ok (.goto 24, 3) := by decide +kernel
theorem d_Mod_order_71 : decode b_Mod_order 71 = .ok (.iload_n 1, 1) := by decide +kernel
theorem d_Mod_order_72 : decode b_Mod_order 72 = .ok (.aload_n 0, 1) := by decide +kernel
theorem d_Mod_order_73 : decode b_Mod_order 73 = .ok (.getfield 9, 3) := by decide +kernel
theorem d_Mod_order_76 : decode b_Mod_order 76 = .ok (.iconst 1, 1) := by decide +kernel
theorem d_Mod_order_77 : decode b_Mod_order 77 = .ok (.iaload, 1) := by decide +kernel
theorem d_Mod_order_78 : decode b_Mod_order 78 = .ok (.if_icmp .ge 12, 3) := by decide +kernel
theorem d_Mod_order_81 : decode b_Mod_order 81 = .ok (.aload_n 0, 1) := by decide +kernel
theorem d_Mod_order_82 : decode b_Mod_order 82 = .ok (.getfield 28, 3) := by decide +kernel
theorem d_Mod_order_85 : decode b_Mod_order 85 = .ok (.iload_n 1, 1) := by decide +kernel
theorem d_Mod_order_86 : decode b_Mod_order 86 = .ok (.iaload, 1) := by decide +kernel
theorem d_Mod_order_87 : decode b_Mod_order 87 = .ok (.goto 5, 3) := by decide +kernel
theorem d_Mod_order_90 : decode b_Mod_order 90 = .ok (.bipush (-4), 2) := by decide +kernel
theorem d_Mod_order_92 : decode b_Mod_order 92 = .ok (.ireturn, 1) := by decide +kernel
theorem d_Mod_stays_0 : decode b_Mod_stays 0 = .ok (.bipush (-4), 2) := by decide +kernel
theorem d_Mod_stays_2 : decode b_Mod_stays 2 = .ok (.istore_n 1, 1) := by decide +kernel
theorem d_Mod_stays_3 : decode b_Mod_stays 3 = .ok (.iconst 0, 1) := by decide +kernel
theorem d_Mod_stays_4 : decode b_Mod_stays 4 = .ok (.istore_n 2, 1) := by decide +kernel
theorem d_Mod_stays_5 : decode b_Mod_stays 5 = .ok (.iload_n 2, 1) := by decide +kernel
theorem d_Mod_stays_6 : decode b_Mod_stays 6 = .ok (.iconst 1, 1) := by decide +kernel
theorem d_Mod_stays_7 : decode b_Mod_stays 7 = .ok (.aload_n 0, 1) := by decide +kernel
theorem d_Mod_stays_8 : decode b_Mod_stays 8 = .ok (.getfield 9, 3) := by decide +kernel
theorem d_Mod_stays_11 : decode b_Mod_stays 11 = .ok (.iconst 1, 1) := by decide +kernel
theorem d_Mod_stays_12 : decode b_Mod_stays 12 = .ok (.iaload, 1) := by decide +kernel
theorem d_Mod_stays_13 : decode b_Mod_stays 13 = .ok (.ishl, 1) := by decide +kernel
theorem d_Mod_stays_14 : decode b_Mod_stays 14 = .ok (.if_icmp .ge 41, 3) := by decide +kernel
theorem d_Mod_stays_17 : decode b_Mod_stays 17 = .ok (.iload_n 1, 1) := by decide +kernel
theorem d_Mod_stays_18 : decode b_Mod_stays 18 = .ok (.ifCond .lt 17, 3) := by decide +kernel
theorem d_Mod_stays_21 : decode b_Mod_stays 21 = .ok (.iload_n 2, 1) := by decide +kernel
theorem d_Mod_stays_22 : decode b_Mod_stays 22 = .ok (.invokestatic 151, 3) := by decide +kernel
theorem d_Mod_stays_25 : decode b_Mod_stays 25 = .ok (.iload_n 1, 1) := by decide +kernel
theorem d_Mod_stays_26 : decode b_Mod_stays 26 = .ok (.invokestatic 151, 3) := by decide +kernel
theorem d_Mod_stays_29 : decode b_Mod_stays 29 = .ok (.if_icmp .lt 6, 3) := by decide +kernel
theorem d_Mod_stays_32 : decode b_Mod_stays 32 = .ok (.goto 17, 3) := by decide +kernel
theorem d_Mod_stays_35 : decode b_Mod_stays 35 = .ok (.aload_n 0, 1) := by decide +kernel
theorem d_Mod_stays_36 : decode b_Mod_stays 36 = .ok (.iload_n 2, 1) := by decide +kernel
theorem d_Mod_stays_37 : decode b_Mod_stays 37 = .ok (.putfield 112, 3) := by decide +kernel
theorem d_Mod_stays_40 : decode b_Mod_stays 40 = .ok (.aload_n 0, 1) := by decide +kernel
theorem d_Mod_stays_41 : decode b_Mod_stays 41 = .ok (.invokevirtual 226, 3) := by decide +kernel
theorem d_Mod_stays_44 : decode b_Mod_stays 44 = .ok (.ifCond .eq 5, 3) := by decide +kernel
theorem d_Mod_stays_47 : decode b_Mod_stays 47 = .ok (.iload_n 2, 1) := by decide +kernel
theorem d_Mod_stays_48 : decode b_Mod_stays 48 = .ok (.istore_n 1, 1) := by decide +kernel
theorem d_Mod_stays_49 : decode b_Mod_stays 49 = .ok (.iinc 2 1, 3) := by decide +kernel
theorem d_Mod_stays_52 : decode b_Mod_stays 52 = .ok (.goto (-47), 3) := by decide +kernel
theorem d_Mod_stays_55 : decode b_Mod_stays 55 = .ok (.aload_n 0, 1) := by decide +kernel
theorem d_Mod_stays_56 : decode b_Mod_stays 56 = .ok (.iconst 0, 1) := by decide +kernel
theorem d_Mod_stays_57 : decode b_Mod_stays 57 = .ok (.putfield 112, 3) := by decide +kernel
theorem d_Mod_stays_60 : decode b_Mod_stays 60 = .ok (.iload_n 1, 1) := by decide +kernel
theorem d_Mod_stays_61 : decode b_Mod_stays 61 = .ok (.ireturn, 1) := by decide +kernel
set_option maxRecDepth 100000 in
theorem cw_Mod_areAllBack : CwV y_Mod_areAllBack b_Mod_areAllBack 1 (some FieldType.boolean) 0 := ⟨tbl_at 1323 (by decide +kernel) rfl, tbl_at 42 (by decide +kernel) rfl, tbl_at 57 (by decide +kernel) rfl, tbl_at 1324 rfl rfl, by decide +kernel, by decide +kernel, by decide +kernel⟩
set_option maxRecDepth 100000 in
theorem cw_Mod_eachOrder : CwV y_Mod_eachOrder b_Mod_eachOrder 5 (none) 2 := ⟨tbl_at 1312 (by decide +kernel) rfl, tbl_at 41 (by decide +kernel) rfl, tbl_at 57 (by decide +kernel) rfl, tbl_at 1313 rfl rfl, by decide +kernel, by decide +kernel, by decide +kernel⟩
set_option maxRecDepth 100000 in
theorem cw_Mod_wayAlone : CwV y_Mod_wayAlone b_Mod_wayAlone 3 (none) 2 := ⟨tbl_at 1259 (by decide +kernel) rfl, tbl_at 35 (by decide +kernel) rfl, tbl_at 57 (by decide +kernel) rfl, tbl_at 1260 rfl rfl, by decide +kernel, by decide +kernel, by decide +kernel⟩
theorem fl_Mod_217 : Cond.fieldLink R_Mod 217 "BreatheOutModel" "bestMany" "I" ∈ tbl := tbl_at 1018 (by decide +kernel) rfl
theorem fl_Mod_220 : Cond.fieldLink R_Mod 220 "BreatheOutModel" "bestClock" "I" ∈ tbl := tbl_at 1019 (by decide +kernel) rfl
theorem fl_Mod_28 : Cond.fieldLink R_Mod 28 "BreatheOutModel" "bestOrder" "[I" ∈ tbl := tbl_at 1020 (by decide +kernel) rfl
theorem lc_Mod_216 : Cond.constant R_Mod 216 (1000000000) ∈ tbl := tbl_at 1269 (by decide +kernel) rfl
theorem ml_Mod_212 : Cond.methodLink R_Mod 212 y_Mod_wayAlone ∈ tbl := tbl_at 1257 (by decide +kernel) rfl
theorem ml_Mod_223 : Cond.methodLink R_Mod 223 y_Mod_eachOrder ∈ tbl := tbl_at 1310 (by decide +kernel) rfl
theorem ml_Mod_226 : Cond.methodLink R_Mod 226 y_Mod_areAllBack ∈ tbl := tbl_at 1321 (by decide +kernel) rfl
def vc_Mod_makes (x1 : Int32) (x2 : Int32) (x3 : Int32) (s : St) (Q : Int32 → St → Prop) : Prop :=
    vc_Mod_isBody x1 s (fun b10 => (((bi b10) = 0 → Q (-1) s) ∧ (¬ (bi b10) = 0 → vc_Mod_isIn x2 0 2 (fun b13 => (((bi b13) = 0 → Q (-1) s) ∧ (¬ (bi b13) = 0 → (∃ J17 : Int32 → Prop, (∀ (x16 : Int32), J17 x16 → (∃ J19 : Int32 → Prop, (∀ (x18 : Int32), J19 x18 → vc_Mod_isIn x3 x16 x18 (fun b20 => ((¬ (bi b20) = 0 → (∃ J24 : Int32 → Prop, (∀ (x23 : Int32), J24 x23 → vc_Mod_atBody x1 x23 (fun x25 => (vp_in x25 78 ∧ (∀ x28 : Int32, x28 = s 83 (Int32.toNatClampNeg x25) → (vp_in x25 78 ∧ (∀ s30 : St, s30 = wr s 83 (Int32.toNatClampNeg x25) x3 → Q x28 s30)))))) ∧ ((¬ x2 = 0 → ((¬ x2 = 1 → J24 0) ∧ (x2 = 1 → J24 4))) ∧ (x2 = 0 → J24 2)))) ∧ ((bi b20) = 0 → Q (-1) s)))) ∧ ((¬ x2 = 0 → ((¬ x2 = 1 → J19 50) ∧ (x2 = 1 → J19 3))) ∧ (x2 = 0 → J19 9)))) ∧ ((¬ x2 = 2 → J17 0) ∧ (x2 = 2 → J17 10)))))))))
def rm_Mod_makes : Room := { frames := 2, cells := 0, slots := 0, locals := 43 }
set_option maxHeartbeats 4000000 in
set_option maxRecDepth 20000 in
theorem m_Mod_makes (g : Gx) (hg : gOk g) (x1 : Int32) (x2 : Int32) (x3 : Int32)  (s : St) (Q : Int32 → St → Prop) (hw : vc_Mod_makes x1 x2 x3 s Q) : Mc g y_Mod_makes b_Mod_makes 6 (some FieldType.int) rm_Mod_makes [.ref (ga g 82), .int x1, .int x2, .int x3] s (fun v s' => ∃ r : Int32, v = some (.int r) ∧ Q r s') := by
  refine mc_ofV (j := 2) (L := [some (.ref (ga g 82)), some (.int x1), some (.int x2), some (.int x3), none, none]) hg (by decide) (Nat.le_of_ble_eq_true rfl) rfl ?_
  intro X hX C
  subst hX
  unfold vc_Mod_makes at hw
  refine x_aload_n C d_Mod_makes_0 rfl ?_
  refine x_iload_n C d_Mod_makes_1 rfl ?_
  refine x_callV (As := [.int x1]) (rest := []) (p := 82) C (m_Mod_isBody (xg X) C.2.2.2.2.2.2.1 x1 s _ hw) cw_Mod_isBody ml_Mod_179 rfl (by decide) (by decide) rfl rfl rfl ⟨rfl, rfl, Nat.le_of_ble_eq_true rfl, Nat.le_of_ble_eq_true rfl⟩ ⟨Nat.zero_le _, Nat.zero_le _⟩ rfl (Nat.le_of_ble_eq_true rfl) d_Mod_makes_2 ?_
  rintro _ _ ⟨b10, rfl, rfl, hw⟩
  show V X _ _ _ _ 5 [some (.ref (xa X 82)), some (.int x1), some (.int x2), some (.int x3), none, none] [.int (bi b10)]
  refine x_if_eq (tgt := 55) C d_Mod_makes_5 (by decide) (fun c12 => ?_) (fun c12 => ?_)
  · have hw := hw.1 c12
    refine x_iconst (v := (-1)) C d_Mod_makes_55 rfl ?_
    exact x_ireturn C d_Mod_makes_56 ⟨_, rfl, hw⟩
  · have hw := hw.2 c12
    refine x_iload_n C d_Mod_makes_8 rfl ?_
    refine x_iconst (v := 0) C d_Mod_makes_9 rfl ?_
    refine x_iconst (v := 2) C d_Mod_makes_10 rfl ?_
    refine x_callS (As := [.int x2, .int 0, .int 2]) (rest := []) C (m_Mod_isIn (xg X) C.2.2.2.2.2.2.1 x2 0 2 s _ hw) cw_Mod_isIn ml_Mod_55 rfl ⟨rfl, rfl, Nat.le_of_ble_eq_true rfl, Nat.le_of_ble_eq_true rfl⟩ ⟨Nat.zero_le _, Nat.zero_le _⟩ rfl (Nat.le_of_ble_eq_true rfl) d_Mod_makes_11 ?_
    rintro _ _ ⟨b13, rfl, rfl, hw⟩
    show V X _ _ _ _ 14 [some (.ref (xa X 82)), some (.int x1), some (.int x2), some (.int x3), none, none] [.int (bi b13)]
    refine x_if_eq (tgt := 55) C d_Mod_makes_14 (by decide) (fun c15 => ?_) (fun c15 => ?_)
    · have hw := hw.1 c15
      refine x_iconst (v := (-1)) C d_Mod_makes_55 rfl ?_
      exact x_ireturn C d_Mod_makes_56 ⟨_, rfl, hw⟩
    · have hw := hw.2 c15
      refine x_iload_n C d_Mod_makes_17 rfl ?_
      refine x_iload_n C d_Mod_makes_18 rfl ?_
      refine x_iconst (v := 2) C d_Mod_makes_19 rfl ?_
      obtain ⟨J17, hJ17, hw⟩ := hw
      have kJ17 : ∀ (x16 : Int32), J17 x16 → V X (xQ X (fun v s' => ∃ r : Int32, v = some (.int r) ∧ Q r s')) 0 0 s 29 [some (.ref (xa X 82)), some (.int x1), some (.int x2), some (.int x3), none, none] [.int x16, .int x3] := by
        intro x16 hv
        have hw := hJ17 x16 hv
        refine x_iload_n C d_Mod_makes_29 rfl ?_
        obtain ⟨J19, hJ19, hw⟩ := hw
        have kJ19 : ∀ (x18 : Int32), J19 x18 → V X (xQ X (fun v s' => ∃ r : Int32, v = some (.int r) ∧ Q r s')) 0 0 s 49 [some (.ref (xa X 82)), some (.int x1), some (.int x2), some (.int x3), none, none] [.int x18, .int x16, .int x3] := by
          intro x18 hv
          have hw := hJ19 x18 hv
          refine x_callS (As := [.int x3, .int x16, .int x18]) (rest := []) C (m_Mod_isIn (xg X) C.2.2.2.2.2.2.1 x3 x16 x18 s _ hw) cw_Mod_isIn ml_Mod_55 rfl ⟨rfl, rfl, Nat.le_of_ble_eq_true rfl, Nat.le_of_ble_eq_true rfl⟩ ⟨Nat.zero_le _, Nat.zero_le _⟩ rfl (Nat.le_of_ble_eq_true rfl) d_Mod_makes_49 ?_
          rintro _ _ ⟨b20, rfl, rfl, hw⟩
          show V X _ _ _ _ 52 [some (.ref (xa X 82)), some (.int x1), some (.int x2), some (.int x3), none, none] [.int (bi b20)]
          refine x_if_ne (tgt := 57) C d_Mod_makes_52 (by decide) (fun c22 => ?_) (fun c22 => ?_)
          · have hw := hw.1 c22
            refine x_iload_n C d_Mod_makes_57 rfl ?_
            refine x_iload_n C d_Mod_makes_58 rfl ?_
            obtain ⟨J24, hJ24, hw⟩ := hw
            have kJ24 : ∀ (x23 : Int32), J24 x23 → V X (xQ X (fun v s' => ∃ r : Int32, v = some (.int r) ∧ Q r s')) 0 0 s 76 [some (.ref (xa X 82)), some (.int x1), some (.int x2), some (.int x3), none, none] [.int x23, .int x1] := by
              intro x23 hv
              have hw := hJ24 x23 hv
              refine x_callS (As := [.int x1, .int x23]) (rest := []) C (m_Mod_atBody (xg X) C.2.2.2.2.2.2.1 x1 x23 s _ hw) cw_Mod_atBody ml_Mod_59 rfl ⟨rfl, rfl, Nat.le_of_ble_eq_true rfl, Nat.le_of_ble_eq_true rfl⟩ ⟨Nat.zero_le _, Nat.zero_le _⟩ rfl (Nat.le_of_ble_eq_true rfl) d_Mod_makes_76 ?_
              rintro _ _ ⟨x25, rfl, rfl, hw⟩
              show V X _ _ _ _ 79 [some (.ref (xa X 82)), some (.int x1), some (.int x2), some (.int x3), none, none] [.int x25]
              refine x_istore (L' := [some (.ref (xa X 82)), some (.int x1), some (.int x2), some (.int x3), some (.int x25), none]) C d_Mod_makes_79 (Nat.le_of_ble_eq_true rfl) rfl ?_
              refine x_aload_n C d_Mod_makes_81 rfl ?_
              refine g_Mod_0 (p := 82) C rfl fl_Mod_9 d_Mod_makes_82 ?_
              refine x_iload C d_Mod_makes_85 rfl ?_
              obtain ⟨h27, hw⟩ := hw
              refine x_iald (p := 83) (n := 78) C rfl h27 d_Mod_makes_87 ?_
              refine x_nm (fun x28 hx28 => ?_)
              have hw := hw x28 hx28
              refine x_istore (L' := [some (.ref (xa X 82)), some (.int x1), some (.int x2), some (.int x3), some (.int x25), some (.int x28)]) C d_Mod_makes_88 (Nat.le_of_ble_eq_true rfl) rfl ?_
              refine x_aload_n C d_Mod_makes_90 rfl ?_
              refine g_Mod_0 (p := 82) C rfl fl_Mod_9 d_Mod_makes_91 ?_
              refine x_iload C d_Mod_makes_94 rfl ?_
              refine x_iload_n C d_Mod_makes_96 rfl ?_
              obtain ⟨h29, hw⟩ := hw
              refine x_iast (p := 83) (n := 78) C rfl h29 d_Mod_makes_97 ?_
              refine x_st (fun s30 hs30 => ?_)
              have hw := hw s30 hs30
              refine x_iload C d_Mod_makes_98 rfl ?_
              exact x_ireturn C d_Mod_makes_100 ⟨_, rfl, hw⟩
            refine x_if_ne (tgt := 66) C d_Mod_makes_59 (by decide) (fun c31 => ?_) (fun c31 => ?_)
            · have hw := hw.1 c31
              refine x_iload_n C d_Mod_makes_66 rfl ?_
              refine x_iconst (v := 1) C d_Mod_makes_67 rfl ?_
              refine x_icmp_ne (tgt := 75) C d_Mod_makes_68 (by decide) (fun c32 => ?_) (fun c32 => ?_)
              · have hw := hw.1 c32
                refine x_iconst (v := 0) C d_Mod_makes_75 rfl ?_
                exact x_wk (kJ24 0 hw) (And.intro rfl (And.intro rfl (And.intro rfl (And.intro rfl (trivial)))))
              · have hw := hw.2 c32
                refine x_iconst (v := 4) C d_Mod_makes_71 rfl ?_
                refine x_goto (tgt := 76) C d_Mod_makes_72 (by decide) ?_
                exact x_wk (kJ24 4 hw) (And.intro rfl (And.intro rfl (And.intro rfl (And.intro rfl (trivial)))))
            · have hw := hw.2 c31
              refine x_iconst (v := 2) C d_Mod_makes_62 rfl ?_
              refine x_goto (tgt := 76) C d_Mod_makes_63 (by decide) ?_
              exact x_wk (kJ24 2 hw) (And.intro rfl (And.intro rfl (And.intro rfl (And.intro rfl (trivial)))))
          · have hw := hw.2 c22
            refine x_iconst (v := (-1)) C d_Mod_makes_55 rfl ?_
            exact x_ireturn C d_Mod_makes_56 ⟨_, rfl, hw⟩
        refine x_if_ne (tgt := 38) C d_Mod_makes_30 (by decide) (fun c33 => ?_) (fun c33 => ?_)
        · have hw := hw.1 c33
          refine x_iload_n C d_Mod_makes_38 rfl ?_
          refine x_iconst (v := 1) C d_Mod_makes_39 rfl ?_
          refine x_icmp_ne (tgt := 47) C d_Mod_makes_40 (by decide) (fun c34 => ?_) (fun c34 => ?_)
          · have hw := hw.1 c34
            refine x_bipush (v := 50) C d_Mod_makes_47 rfl ?_
            exact x_wk (kJ19 50 hw) (And.intro rfl (And.intro rfl (And.intro rfl (And.intro rfl (trivial)))))
          · have hw := hw.2 c34
            refine x_iconst (v := 3) C d_Mod_makes_43 rfl ?_
            refine x_goto (tgt := 49) C d_Mod_makes_44 (by decide) ?_
            exact x_wk (kJ19 3 hw) (And.intro rfl (And.intro rfl (And.intro rfl (And.intro rfl (trivial)))))
        · have hw := hw.2 c33
          refine x_bipush (v := 9) C d_Mod_makes_33 rfl ?_
          refine x_goto (tgt := 49) C d_Mod_makes_35 (by decide) ?_
          exact x_wk (kJ19 9 hw) (And.intro rfl (And.intro rfl (And.intro rfl (And.intro rfl (trivial)))))
      refine x_icmp_ne (tgt := 28) C d_Mod_makes_20 (by decide) (fun c35 => ?_) (fun c35 => ?_)
      · have hw := hw.1 c35
        refine x_iconst (v := 0) C d_Mod_makes_28 rfl ?_
        exact x_wk (kJ17 0 hw) (And.intro rfl (And.intro rfl (And.intro rfl (And.intro rfl (trivial)))))
      · have hw := hw.2 c35
        refine x_bipush (v := 10) C d_Mod_makes_23 rfl ?_
        refine x_goto (tgt := 29) C d_Mod_makes_25 (by decide) ?_
        exact x_wk (kJ17 10 hw) (And.intro rfl (And.intro rfl (And.intro rfl (And.intro rfl (trivial)))))
def vc_Mod_change (x1 : Int32) (x2 : Int32) (s : St) (Q : Int32 → St → Prop) : Prop :=
    vc_Mod_isBody x1 s (fun b10 => (((bi b10) = 0 → Q (-1) s) ∧ (¬ (bi b10) = 0 → vc_Mod_isBody x2 s (fun b13 => (((bi b13) = 0 → Q (-1) s) ∧ (¬ (bi b13) = 0 → ((¬ x1 = x2 → vc_Mod_changes x1 x2 s (fun s17 => vc_Mod_placeOf x1 s17 (fun x18 => Q x18 s17))) ∧ (x1 = x2 → Q (-1) s))))))))
def rm_Mod_change : Room := { frames := 2, cells := 0, slots := 0, locals := 46 }
set_option maxHeartbeats 4000000 in
set_option maxRecDepth 20000 in
theorem m_Mod_change (g : Gx) (hg : gOk g) (x1 : Int32) (x2 : Int32)  (s : St) (Q : Int32 → St → Prop) (hw : vc_Mod_change x1 x2 s Q) : Mc g y_Mod_change b_Mod_change 3 (some FieldType.int) rm_Mod_change [.ref (ga g 82), .int x1, .int x2] s (fun v s' => ∃ r : Int32, v = some (.int r) ∧ Q r s') := by
  refine mc_ofV (j := 0) (L := [some (.ref (ga g 82)), some (.int x1), some (.int x2)]) hg (by decide) (Nat.le_of_ble_eq_true rfl) rfl ?_
  intro X hX C
  subst hX
  unfold vc_Mod_change at hw
  refine x_aload_n C d_Mod_change_0 rfl ?_
  refine x_iload_n C d_Mod_change_1 rfl ?_
  refine x_callV (As := [.int x1]) (rest := []) (p := 82) C (m_Mod_isBody (xg X) C.2.2.2.2.2.2.1 x1 s _ hw) cw_Mod_isBody ml_Mod_179 rfl (by decide) (by decide) rfl rfl rfl ⟨rfl, rfl, Nat.le_of_ble_eq_true rfl, Nat.le_of_ble_eq_true rfl⟩ ⟨Nat.zero_le _, Nat.zero_le _⟩ rfl (Nat.le_of_ble_eq_true rfl) d_Mod_change_2 ?_
  rintro _ _ ⟨b10, rfl, rfl, hw⟩
  show V X _ _ _ _ 5 [some (.ref (xa X 82)), some (.int x1), some (.int x2)] [.int (bi b10)]
  refine x_if_eq (tgt := 21) C d_Mod_change_5 (by decide) (fun c12 => ?_) (fun c12 => ?_)
  · have hw := hw.1 c12
    refine x_iconst (v := (-1)) C d_Mod_change_21 rfl ?_
    exact x_ireturn C d_Mod_change_22 ⟨_, rfl, hw⟩
  · have hw := hw.2 c12
    refine x_aload_n C d_Mod_change_8 rfl ?_
    refine x_iload_n C d_Mod_change_9 rfl ?_
    refine x_callV (As := [.int x2]) (rest := []) (p := 82) C (m_Mod_isBody (xg X) C.2.2.2.2.2.2.1 x2 s _ hw) cw_Mod_isBody ml_Mod_179 rfl (by decide) (by decide) rfl rfl rfl ⟨rfl, rfl, Nat.le_of_ble_eq_true rfl, Nat.le_of_ble_eq_true rfl⟩ ⟨Nat.zero_le _, Nat.zero_le _⟩ rfl (Nat.le_of_ble_eq_true rfl) d_Mod_change_10 ?_
    rintro _ _ ⟨b13, rfl, rfl, hw⟩
    show V X _ _ _ _ 13 [some (.ref (xa X 82)), some (.int x1), some (.int x2)] [.int (bi b13)]
    refine x_if_eq (tgt := 21) C d_Mod_change_13 (by decide) (fun c15 => ?_) (fun c15 => ?_)
    · have hw := hw.1 c15
      refine x_iconst (v := (-1)) C d_Mod_change_21 rfl ?_
      exact x_ireturn C d_Mod_change_22 ⟨_, rfl, hw⟩
    · have hw := hw.2 c15
      refine x_iload_n C d_Mod_change_16 rfl ?_
      refine x_iload_n C d_Mod_change_17 rfl ?_
      refine x_icmp_ne (tgt := 23) C d_Mod_change_18 (by decide) (fun c16 => ?_) (fun c16 => ?_)
      · have hw := hw.1 c16
        refine x_aload_n C d_Mod_change_23 rfl ?_
        refine x_iload_n C d_Mod_change_24 rfl ?_
        refine x_iload_n C d_Mod_change_25 rfl ?_
        refine x_callV (As := [.int x1, .int x2]) (rest := []) (p := 82) C (m_Mod_changes (xg X) C.2.2.2.2.2.2.1 x1 x2 s _ hw) cw_Mod_changes ml_Mod_182 rfl (by decide) (by decide) rfl rfl rfl ⟨rfl, rfl, Nat.le_of_ble_eq_true rfl, Nat.le_of_ble_eq_true rfl⟩ ⟨Nat.zero_le _, Nat.zero_le _⟩ rfl (Nat.le_of_ble_eq_true rfl) d_Mod_change_26 ?_
        rintro _ s17 ⟨rfl, hw⟩
        show V X _ _ _ _ 29 [some (.ref (xa X 82)), some (.int x1), some (.int x2)] []
        refine x_aload_n C d_Mod_change_29 rfl ?_
        refine x_iload_n C d_Mod_change_30 rfl ?_
        refine x_callV (As := [.int x1]) (rest := []) (p := 82) C (m_Mod_placeOf (xg X) C.2.2.2.2.2.2.1 x1 s17 _ hw) cw_Mod_placeOf ml_Mod_172 rfl (by decide) (by decide) rfl rfl rfl ⟨rfl, rfl, Nat.le_of_ble_eq_true rfl, Nat.le_of_ble_eq_true rfl⟩ ⟨Nat.zero_le _, Nat.zero_le _⟩ rfl (Nat.le_of_ble_eq_true rfl) d_Mod_change_31 ?_
        rintro _ _ ⟨x18, rfl, rfl, hw⟩
        show V X _ _ _ _ 34 [some (.ref (xa X 82)), some (.int x1), some (.int x2)] [.int x18]
        exact x_ireturn C d_Mod_change_34 ⟨_, rfl, hw⟩
      · have hw := hw.2 c16
        refine x_iconst (v := (-1)) C d_Mod_change_21 rfl ?_
        exact x_ireturn C d_Mod_change_22 ⟨_, rfl, hw⟩
def vc_Mod_set (x1 : Int32) (x2 : Int32) (s : St) (Q : Int32 → St → Prop) : Prop :=
    vc_Mod_isIn x1 0 2 (fun b10 => (((bi b10) = 0 → Q (-1) s) ∧ (¬ (bi b10) = 0 → (∃ J14 : Int32 → Prop, (∀ (x13 : Int32), J14 x13 → (∃ J16 : Int32 → Prop, (∀ (x15 : Int32), J16 x15 → vc_Mod_isIn x2 x13 x15 (fun b17 => ((¬ (bi b17) = 0 → (vp_in (3 + x1) 78 ∧ (∀ x21 : Int32, x21 = s 83 (Int32.toNatClampNeg (3 + x1)) → (vp_in (3 + x1) 78 ∧ (∀ s23 : St, s23 = wr s 83 (Int32.toNatClampNeg (3 + x1)) x2 → Q x21 s23))))) ∧ ((bi b17) = 0 → Q (-1) s)))) ∧ ((¬ x1 = 0 → ((¬ x1 = 1 → J16 999) ∧ (x1 = 1 → J16 60))) ∧ (x1 = 0 → J16 9)))) ∧ ((¬ x1 = 1 → J14 0) ∧ (x1 = 1 → J14 1))))))
def rm_Mod_set : Room := { frames := 1, cells := 0, slots := 0, locals := 22 }
set_option maxHeartbeats 4000000 in
set_option maxRecDepth 20000 in
theorem m_Mod_set (g : Gx) (hg : gOk g) (x1 : Int32) (x2 : Int32)  (s : St) (Q : Int32 → St → Prop) (hw : vc_Mod_set x1 x2 s Q) : Mc g y_Mod_set b_Mod_set 4 (some FieldType.int) rm_Mod_set [.ref (ga g 82), .int x1, .int x2] s (fun v s' => ∃ r : Int32, v = some (.int r) ∧ Q r s') := by
  refine mc_ofV (j := 1) (L := [some (.ref (ga g 82)), some (.int x1), some (.int x2), none]) hg (by decide) (Nat.le_of_ble_eq_true rfl) rfl ?_
  intro X hX C
  subst hX
  unfold vc_Mod_set at hw
  refine x_iload_n C d_Mod_set_0 rfl ?_
  refine x_iconst (v := 0) C d_Mod_set_1 rfl ?_
  refine x_iconst (v := 2) C d_Mod_set_2 rfl ?_
  refine x_callS (As := [.int x1, .int 0, .int 2]) (rest := []) C (m_Mod_isIn (xg X) C.2.2.2.2.2.2.1 x1 0 2 s _ hw) cw_Mod_isIn ml_Mod_55 rfl ⟨rfl, rfl, Nat.le_of_ble_eq_true rfl, Nat.le_of_ble_eq_true rfl⟩ ⟨Nat.zero_le _, Nat.zero_le _⟩ rfl (Nat.le_of_ble_eq_true rfl) d_Mod_set_3 ?_
  rintro _ _ ⟨b10, rfl, rfl, hw⟩
  show V X _ _ _ _ 6 [some (.ref (xa X 82)), some (.int x1), some (.int x2), none] [.int (bi b10)]
  refine x_if_eq (tgt := 48) C d_Mod_set_6 (by decide) (fun c12 => ?_) (fun c12 => ?_)
  · have hw := hw.1 c12
    refine x_iconst (v := (-1)) C d_Mod_set_48 rfl ?_
    exact x_ireturn C d_Mod_set_49 ⟨_, rfl, hw⟩
  · have hw := hw.2 c12
    refine x_iload_n C d_Mod_set_9 rfl ?_
    refine x_iload_n C d_Mod_set_10 rfl ?_
    refine x_iconst (v := 1) C d_Mod_set_11 rfl ?_
    obtain ⟨J14, hJ14, hw⟩ := hw
    have kJ14 : ∀ (x13 : Int32), J14 x13 → V X (xQ X (fun v s' => ∃ r : Int32, v = some (.int r) ∧ Q r s')) 0 0 s 20 [some (.ref (xa X 82)), some (.int x1), some (.int x2), none] [.int x13, .int x2] := by
      intro x13 hv
      have hw := hJ14 x13 hv
      refine x_iload_n C d_Mod_set_20 rfl ?_
      obtain ⟨J16, hJ16, hw⟩ := hw
      have kJ16 : ∀ (x15 : Int32), J16 x15 → V X (xQ X (fun v s' => ∃ r : Int32, v = some (.int r) ∧ Q r s')) 0 0 s 42 [some (.ref (xa X 82)), some (.int x1), some (.int x2), none] [.int x15, .int x13, .int x2] := by
        intro x15 hv
        have hw := hJ16 x15 hv
        refine x_callS (As := [.int x2, .int x13, .int x15]) (rest := []) C (m_Mod_isIn (xg X) C.2.2.2.2.2.2.1 x2 x13 x15 s _ hw) cw_Mod_isIn ml_Mod_55 rfl ⟨rfl, rfl, Nat.le_of_ble_eq_true rfl, Nat.le_of_ble_eq_true rfl⟩ ⟨Nat.zero_le _, Nat.zero_le _⟩ rfl (Nat.le_of_ble_eq_true rfl) d_Mod_set_42 ?_
        rintro _ _ ⟨b17, rfl, rfl, hw⟩
        show V X _ _ _ _ 45 [some (.ref (xa X 82)), some (.int x1), some (.int x2), none] [.int (bi b17)]
        refine x_if_ne (tgt := 50) C d_Mod_set_45 (by decide) (fun c19 => ?_) (fun c19 => ?_)
        · have hw := hw.1 c19
          refine x_aload_n C d_Mod_set_50 rfl ?_
          refine g_Mod_0 (p := 82) C rfl fl_Mod_9 d_Mod_set_51 ?_
          refine x_iconst (v := 3) C d_Mod_set_54 rfl ?_
          refine x_iload_n C d_Mod_set_55 rfl ?_
          refine x_iadd C d_Mod_set_56 ?_
          obtain ⟨h20, hw⟩ := hw
          refine x_iald (p := 83) (n := 78) C rfl h20 d_Mod_set_57 ?_
          refine x_nm (fun x21 hx21 => ?_)
          have hw := hw x21 hx21
          refine x_istore_n (L' := [some (.ref (xa X 82)), some (.int x1), some (.int x2), some (.int x21)]) C d_Mod_set_58 (Nat.le_of_ble_eq_true rfl) rfl ?_
          refine x_aload_n C d_Mod_set_59 rfl ?_
          refine g_Mod_0 (p := 82) C rfl fl_Mod_9 d_Mod_set_60 ?_
          refine x_iconst (v := 3) C d_Mod_set_63 rfl ?_
          refine x_iload_n C d_Mod_set_64 rfl ?_
          refine x_iadd C d_Mod_set_65 ?_
          refine x_iload_n C d_Mod_set_66 rfl ?_
          obtain ⟨h22, hw⟩ := hw
          refine x_iast (p := 83) (n := 78) C rfl h22 d_Mod_set_67 ?_
          refine x_st (fun s23 hs23 => ?_)
          have hw := hw s23 hs23
          refine x_iload_n C d_Mod_set_68 rfl ?_
          exact x_ireturn C d_Mod_set_69 ⟨_, rfl, hw⟩
        · have hw := hw.2 c19
          refine x_iconst (v := (-1)) C d_Mod_set_48 rfl ?_
          exact x_ireturn C d_Mod_set_49 ⟨_, rfl, hw⟩
      refine x_if_ne (tgt := 29) C d_Mod_set_21 (by decide) (fun c24 => ?_) (fun c24 => ?_)
      · have hw := hw.1 c24
        refine x_iload_n C d_Mod_set_29 rfl ?_
        refine x_iconst (v := 1) C d_Mod_set_30 rfl ?_
        refine x_icmp_ne (tgt := 39) C d_Mod_set_31 (by decide) (fun c25 => ?_) (fun c25 => ?_)
        · have hw := hw.1 c25
          refine x_sipush (v := 999) C d_Mod_set_39 rfl ?_
          exact x_wk (kJ16 999 hw) (And.intro rfl (And.intro rfl (And.intro rfl (trivial))))
        · have hw := hw.2 c25
          refine x_bipush (v := 60) C d_Mod_set_34 rfl ?_
          refine x_goto (tgt := 42) C d_Mod_set_36 (by decide) ?_
          exact x_wk (kJ16 60 hw) (And.intro rfl (And.intro rfl (And.intro rfl (trivial))))
      · have hw := hw.2 c24
        refine x_bipush (v := 9) C d_Mod_set_24 rfl ?_
        refine x_goto (tgt := 42) C d_Mod_set_26 (by decide) ?_
        exact x_wk (kJ16 9 hw) (And.intro rfl (And.intro rfl (And.intro rfl (trivial))))
    refine x_icmp_ne (tgt := 19) C d_Mod_set_12 (by decide) (fun c26 => ?_) (fun c26 => ?_)
    · have hw := hw.1 c26
      refine x_iconst (v := 0) C d_Mod_set_19 rfl ?_
      exact x_wk (kJ14 0 hw) (And.intro rfl (And.intro rfl (And.intro rfl (trivial))))
    · have hw := hw.2 c26
      refine x_iconst (v := 1) C d_Mod_set_15 rfl ?_
      refine x_goto (tgt := 20) C d_Mod_set_16 (by decide) ?_
      exact x_wk (kJ14 1 hw) (And.intro rfl (And.intro rfl (And.intro rfl (trivial))))
def vc_Mod_waits (x1 : Int32) (s : St) (Q : Int32 → St → Prop) : Prop :=
    vc_Mod_isIn x1 0 99 (fun b10 => ((¬ (bi b10) = 0 → (vp_in 2 78 ∧ ((((s 83 (Int32.toNatClampNeg 2)) + x1) ≤ 9999 → (vp_in 2 78 ∧ (vp_in 2 78 ∧ (∀ s17 : St, s17 = wr s 83 (Int32.toNatClampNeg 2) ((s 83 (Int32.toNatClampNeg 2)) + x1) → (vp_in 2 78 ∧ Q (s17 83 (Int32.toNatClampNeg 2)) s17))))) ∧ (¬ ((s 83 (Int32.toNatClampNeg 2)) + x1) ≤ 9999 → Q (-3) s)))) ∧ ((bi b10) = 0 → Q (-1) s)))
def rm_Mod_waits : Room := { frames := 1, cells := 0, slots := 0, locals := 22 }
set_option maxHeartbeats 4000000 in
set_option maxRecDepth 20000 in
theorem m_Mod_waits (g : Gx) (hg : gOk g) (x1 : Int32)  (s : St) (Q : Int32 → St → Prop) (hw : vc_Mod_waits x1 s Q) : Mc g y_Mod_waits b_Mod_waits 2 (some FieldType.int) rm_Mod_waits [.ref (ga g 82), .int x1] s (fun v s' => ∃ r : Int32, v = some (.int r) ∧ Q r s') := by
  refine mc_ofV (j := 0) (L := [some (.ref (ga g 82)), some (.int x1)]) hg (by decide) (Nat.le_of_ble_eq_true rfl) rfl ?_
  intro X hX C
  subst hX
  unfold vc_Mod_waits at hw
  refine x_iload_n C d_Mod_waits_0 rfl ?_
  refine x_iconst (v := 0) C d_Mod_waits_1 rfl ?_
  refine x_bipush (v := 99) C d_Mod_waits_2 rfl ?_
  refine x_callS (As := [.int x1, .int 0, .int 99]) (rest := []) C (m_Mod_isIn (xg X) C.2.2.2.2.2.2.1 x1 0 99 s _ hw) cw_Mod_isIn ml_Mod_55 rfl ⟨rfl, rfl, Nat.le_of_ble_eq_true rfl, Nat.le_of_ble_eq_true rfl⟩ ⟨Nat.zero_le _, Nat.zero_le _⟩ rfl (Nat.le_of_ble_eq_true rfl) d_Mod_waits_4 ?_
  rintro _ _ ⟨b10, rfl, rfl, hw⟩
  show V X _ _ _ _ 7 [some (.ref (xa X 82)), some (.int x1)] [.int (bi b10)]
  refine x_if_ne (tgt := 12) C d_Mod_waits_7 (by decide) (fun c12 => ?_) (fun c12 => ?_)
  · have hw := hw.1 c12
    refine x_aload_n C d_Mod_waits_12 rfl ?_
    refine g_Mod_0 (p := 82) C rfl fl_Mod_9 d_Mod_waits_13 ?_
    refine x_iconst (v := 2) C d_Mod_waits_16 rfl ?_
    obtain ⟨h13, hw⟩ := hw
    refine x_iald (p := 83) (n := 78) C rfl h13 d_Mod_waits_17 ?_
    refine x_iload_n C d_Mod_waits_18 rfl ?_
    refine x_iadd C d_Mod_waits_19 ?_
    refine x_sipush (v := 9999) C d_Mod_waits_20 rfl ?_
    refine x_icmp_le (tgt := 29) C d_Mod_waits_23 (by decide) (fun c14 => ?_) (fun c14 => ?_)
    · have hw := hw.1 c14
      refine x_aload_n C d_Mod_waits_29 rfl ?_
      refine g_Mod_0 (p := 82) C rfl fl_Mod_9 d_Mod_waits_30 ?_
      refine x_iconst (v := 2) C d_Mod_waits_33 rfl ?_
      refine x_dup2 C d_Mod_waits_34 rfl rfl ?_
      obtain ⟨h15, hw⟩ := hw
      refine x_iald (p := 83) (n := 78) C rfl h15 d_Mod_waits_35 ?_
      refine x_iload_n C d_Mod_waits_36 rfl ?_
      refine x_iadd C d_Mod_waits_37 ?_
      obtain ⟨h16, hw⟩ := hw
      refine x_iast (p := 83) (n := 78) C rfl h16 d_Mod_waits_38 ?_
      refine x_st (fun s17 hs17 => ?_)
      have hw := hw s17 hs17
      refine x_aload_n C d_Mod_waits_39 rfl ?_
      refine g_Mod_0 (p := 82) C rfl fl_Mod_9 d_Mod_waits_40 ?_
      refine x_iconst (v := 2) C d_Mod_waits_43 rfl ?_
      obtain ⟨h18, hw⟩ := hw
      refine x_iald (p := 83) (n := 78) C rfl h18 d_Mod_waits_44 ?_
      exact x_ireturn C d_Mod_waits_45 ⟨_, rfl, hw⟩
    · have hw := hw.2 c14
      refine x_bipush (v := (-3)) C d_Mod_waits_26 rfl ?_
      exact x_ireturn C d_Mod_waits_28 ⟨_, rfl, hw⟩
  · have hw := hw.2 c12
    refine x_iconst (v := (-1)) C d_Mod_waits_10 rfl ?_
    exact x_ireturn C d_Mod_waits_11 ⟨_, rfl, hw⟩
def vc_Mod_size (x1 : Int32) (x2 : Int32) (x3 : Int32) (x4 : Int32) (s : St) (Q : Int32 → Prop) : Prop :=
    vc_Mod_isBody x1 s (fun b10 => (((bi b10) = 0 → Q (-1)) ∧ (¬ (bi b10) = 0 → vc_Mod_isYard x2 s (fun b13 => (((bi b13) = 0 → Q (-1)) ∧ (¬ (bi b13) = 0 → vc_Mod_isIn x3 0 3 (fun b16 => (((bi b16) = 0 → Q (-1)) ∧ (¬ (bi b16) = 0 → vc_Mod_isIn x4 0 1 (fun b19 => (((bi b19) = 0 → Q (-1)) ∧ (¬ (bi b19) = 0 → (∃ J23 : Int32 → Prop, (∀ (x22 : Int32), J23 x22 → vc_Mod_sizeOf x1 x2 x3 x22 s (fun x24 => Q x24)) ∧ ((¬ x4 = 1 → J23 0) ∧ (x4 = 1 → J23 1)))))))))))))))
def rm_Mod_size : Room := { frames := 3, cells := 0, slots := 0, locals := 69 }
set_option maxHeartbeats 4000000 in
set_option maxRecDepth 20000 in
theorem m_Mod_size (g : Gx) (hg : gOk g) (x1 : Int32) (x2 : Int32) (x3 : Int32) (x4 : Int32)  (s : St) (Q : Int32 → Prop) (hw : vc_Mod_size x1 x2 x3 x4 s Q) : Mc g y_Mod_size b_Mod_size 5 (some FieldType.int) rm_Mod_size [.ref (ga g 82), .int x1, .int x2, .int x3, .int x4] s (fun v s' => ∃ r : Int32, v = some (.int r) ∧ s = s' ∧ Q r) := by
  refine mc_ofV (j := 0) (L := [some (.ref (ga g 82)), some (.int x1), some (.int x2), some (.int x3), some (.int x4)]) hg (by decide) (Nat.le_of_ble_eq_true rfl) rfl ?_
  intro X hX C
  subst hX
  unfold vc_Mod_size at hw
  refine x_aload_n C d_Mod_size_0 rfl ?_
  refine x_iload_n C d_Mod_size_1 rfl ?_
  refine x_callV (As := [.int x1]) (rest := []) (p := 82) C (m_Mod_isBody (xg X) C.2.2.2.2.2.2.1 x1 s _ hw) cw_Mod_isBody ml_Mod_179 rfl (by decide) (by decide) rfl rfl rfl ⟨rfl, rfl, Nat.le_of_ble_eq_true rfl, Nat.le_of_ble_eq_true rfl⟩ ⟨Nat.zero_le _, Nat.zero_le _⟩ rfl (Nat.le_of_ble_eq_true rfl) d_Mod_size_2 ?_
  rintro _ _ ⟨b10, rfl, rfl, hw⟩
  show V X _ _ _ _ 5 [some (.ref (xa X 82)), some (.int x1), some (.int x2), some (.int x3), some (.int x4)] [.int (bi b10)]
  refine x_if_eq (tgt := 56) C d_Mod_size_5 (by decide) (fun c12 => ?_) (fun c12 => ?_)
  · have hw := hw.1 c12
    refine x_iconst (v := (-1)) C d_Mod_size_56 rfl ?_
    exact x_ireturn C d_Mod_size_57 ⟨_, rfl, rfl, hw⟩
  · have hw := hw.2 c12
    refine x_aload_n C d_Mod_size_8 rfl ?_
    refine x_iload_n C d_Mod_size_9 rfl ?_
    refine x_callV (As := [.int x2]) (rest := []) (p := 82) C (m_Mod_isYard (xg X) C.2.2.2.2.2.2.1 x2 s _ hw) cw_Mod_isYard ml_Mod_200 rfl (by decide) (by decide) rfl rfl rfl ⟨rfl, rfl, Nat.le_of_ble_eq_true rfl, Nat.le_of_ble_eq_true rfl⟩ ⟨Nat.zero_le _, Nat.zero_le _⟩ rfl (Nat.le_of_ble_eq_true rfl) d_Mod_size_10 ?_
    rintro _ _ ⟨b13, rfl, rfl, hw⟩
    show V X _ _ _ _ 13 [some (.ref (xa X 82)), some (.int x1), some (.int x2), some (.int x3), some (.int x4)] [.int (bi b13)]
    refine x_if_eq (tgt := 56) C d_Mod_size_13 (by decide) (fun c15 => ?_) (fun c15 => ?_)
    · have hw := hw.1 c15
      refine x_iconst (v := (-1)) C d_Mod_size_56 rfl ?_
      exact x_ireturn C d_Mod_size_57 ⟨_, rfl, rfl, hw⟩
    · have hw := hw.2 c15
      refine x_iload_n C d_Mod_size_16 rfl ?_
      refine x_iconst (v := 0) C d_Mod_size_17 rfl ?_
      refine x_iconst (v := 3) C d_Mod_size_18 rfl ?_
      refine x_callS (As := [.int x3, .int 0, .int 3]) (rest := []) C (m_Mod_isIn (xg X) C.2.2.2.2.2.2.1 x3 0 3 s _ hw) cw_Mod_isIn ml_Mod_55 rfl ⟨rfl, rfl, Nat.le_of_ble_eq_true rfl, Nat.le_of_ble_eq_true rfl⟩ ⟨Nat.zero_le _, Nat.zero_le _⟩ rfl (Nat.le_of_ble_eq_true rfl) d_Mod_size_19 ?_
      rintro _ _ ⟨b16, rfl, rfl, hw⟩
      show V X _ _ _ _ 22 [some (.ref (xa X 82)), some (.int x1), some (.int x2), some (.int x3), some (.int x4)] [.int (bi b16)]
      refine x_if_eq (tgt := 56) C d_Mod_size_22 (by decide) (fun c18 => ?_) (fun c18 => ?_)
      · have hw := hw.1 c18
        refine x_iconst (v := (-1)) C d_Mod_size_56 rfl ?_
        exact x_ireturn C d_Mod_size_57 ⟨_, rfl, rfl, hw⟩
      · have hw := hw.2 c18
        refine x_iload C d_Mod_size_25 rfl ?_
        refine x_iconst (v := 0) C d_Mod_size_27 rfl ?_
        refine x_iconst (v := 1) C d_Mod_size_28 rfl ?_
        refine x_callS (As := [.int x4, .int 0, .int 1]) (rest := []) C (m_Mod_isIn (xg X) C.2.2.2.2.2.2.1 x4 0 1 s _ hw) cw_Mod_isIn ml_Mod_55 rfl ⟨rfl, rfl, Nat.le_of_ble_eq_true rfl, Nat.le_of_ble_eq_true rfl⟩ ⟨Nat.zero_le _, Nat.zero_le _⟩ rfl (Nat.le_of_ble_eq_true rfl) d_Mod_size_29 ?_
        rintro _ _ ⟨b19, rfl, rfl, hw⟩
        show V X _ _ _ _ 32 [some (.ref (xa X 82)), some (.int x1), some (.int x2), some (.int x3), some (.int x4)] [.int (bi b19)]
        refine x_if_eq (tgt := 56) C d_Mod_size_32 (by decide) (fun c21 => ?_) (fun c21 => ?_)
        · have hw := hw.1 c21
          refine x_iconst (v := (-1)) C d_Mod_size_56 rfl ?_
          exact x_ireturn C d_Mod_size_57 ⟨_, rfl, rfl, hw⟩
        · have hw := hw.2 c21
          refine x_aload_n C d_Mod_size_35 rfl ?_
          refine x_iload_n C d_Mod_size_36 rfl ?_
          refine x_iload_n C d_Mod_size_37 rfl ?_
          refine x_iload_n C d_Mod_size_38 rfl ?_
          refine x_iload C d_Mod_size_39 rfl ?_
          refine x_iconst (v := 1) C d_Mod_size_41 rfl ?_
          obtain ⟨J23, hJ23, hw⟩ := hw
          have kJ23 : ∀ (x22 : Int32), J23 x22 → V X (xQ X (fun v s' => ∃ r : Int32, v = some (.int r) ∧ s = s' ∧ Q r)) 0 0 s 50 [some (.ref (xa X 82)), some (.int x1), some (.int x2), some (.int x3), some (.int x4)] [.int x22, .int x3, .int x2, .int x1, .ref (xa X 82)] := by
            intro x22 hv
            have hw := hJ23 x22 hv
            refine x_callV (As := [.int x1, .int x2, .int x3, .int x22]) (rest := []) (p := 82) C (m_Mod_sizeOf (xg X) C.2.2.2.2.2.2.1 x1 x2 x3 x22 s _ hw) cw_Mod_sizeOf ml_Mod_76 rfl (by decide) (by decide) rfl rfl rfl ⟨rfl, rfl, Nat.le_of_ble_eq_true rfl, Nat.le_of_ble_eq_true rfl⟩ ⟨Nat.zero_le _, Nat.zero_le _⟩ rfl (Nat.le_of_ble_eq_true rfl) d_Mod_size_50 ?_
            rintro _ _ ⟨x24, rfl, rfl, hw⟩
            show V X _ _ _ _ 53 [some (.ref (xa X 82)), some (.int x1), some (.int x2), some (.int x3), some (.int x4)] [.int x24]
            refine x_goto (tgt := 57) C d_Mod_size_53 (by decide) ?_
            exact x_ireturn C d_Mod_size_57 ⟨_, rfl, rfl, hw⟩
          refine x_icmp_ne (tgt := 49) C d_Mod_size_42 (by decide) (fun c26 => ?_) (fun c26 => ?_)
          · have hw := hw.1 c26
            refine x_iconst (v := 0) C d_Mod_size_49 rfl ?_
            exact x_wk (kJ23 0 hw) (And.intro rfl (And.intro rfl (And.intro rfl (And.intro rfl (And.intro rfl (trivial))))))
          · have hw := hw.2 c26
            refine x_iconst (v := 1) C d_Mod_size_45 rfl ?_
            refine x_goto (tgt := 50) C d_Mod_size_46 (by decide) ?_
            exact x_wk (kJ23 1 hw) (And.intro rfl (And.intro rfl (And.intro rfl (And.intro rfl (And.intro rfl (trivial))))))
def vc_Mod_fits (x1 : Int32) (x2 : Int32) (s : St) (Q : Int32 → Prop) : Prop :=
    vc_Mod_isBody x1 s (fun b10 => (((bi b10) = 0 → Q (-1)) ∧ (¬ (bi b10) = 0 → vc_Mod_isYard x2 s (fun b13 => (((bi b13) = 0 → Q (-1)) ∧ (¬ (bi b13) = 0 → vc_Mod_hour  s (fun x16 => vc_Mod_fitsIn x1 x2 x16 s (fun x18 => Q x18))))))))
def rm_Mod_fits : Room := { frames := 5, cells := 0, slots := 0, locals := 115 }
set_option maxHeartbeats 4000000 in
set_option maxRecDepth 20000 in
theorem m_Mod_fits (g : Gx) (hg : gOk g) (x1 : Int32) (x2 : Int32)  (s : St) (Q : Int32 → Prop) (hw : vc_Mod_fits x1 x2 s Q) : Mc g y_Mod_fits b_Mod_fits 3 (some FieldType.int) rm_Mod_fits [.ref (ga g 82), .int x1, .int x2] s (fun v s' => ∃ r : Int32, v = some (.int r) ∧ s = s' ∧ Q r) := by
  refine mc_ofV (j := 0) (L := [some (.ref (ga g 82)), some (.int x1), some (.int x2)]) hg (by decide) (Nat.le_of_ble_eq_true rfl) rfl ?_
  intro X hX C
  subst hX
  unfold vc_Mod_fits at hw
  refine x_aload_n C d_Mod_fits_0 rfl ?_
  refine x_iload_n C d_Mod_fits_1 rfl ?_
  refine x_callV (As := [.int x1]) (rest := []) (p := 82) C (m_Mod_isBody (xg X) C.2.2.2.2.2.2.1 x1 s _ hw) cw_Mod_isBody ml_Mod_179 rfl (by decide) (by decide) rfl rfl rfl ⟨rfl, rfl, Nat.le_of_ble_eq_true rfl, Nat.le_of_ble_eq_true rfl⟩ ⟨Nat.zero_le _, Nat.zero_le _⟩ rfl (Nat.le_of_ble_eq_true rfl) d_Mod_fits_2 ?_
  rintro _ _ ⟨b10, rfl, rfl, hw⟩
  show V X _ _ _ _ 5 [some (.ref (xa X 82)), some (.int x1), some (.int x2)] [.int (bi b10)]
  refine x_if_eq (tgt := 29) C d_Mod_fits_5 (by decide) (fun c12 => ?_) (fun c12 => ?_)
  · have hw := hw.1 c12
    refine x_iconst (v := (-1)) C d_Mod_fits_29 rfl ?_
    exact x_ireturn C d_Mod_fits_30 ⟨_, rfl, rfl, hw⟩
  · have hw := hw.2 c12
    refine x_aload_n C d_Mod_fits_8 rfl ?_
    refine x_iload_n C d_Mod_fits_9 rfl ?_
    refine x_callV (As := [.int x2]) (rest := []) (p := 82) C (m_Mod_isYard (xg X) C.2.2.2.2.2.2.1 x2 s _ hw) cw_Mod_isYard ml_Mod_200 rfl (by decide) (by decide) rfl rfl rfl ⟨rfl, rfl, Nat.le_of_ble_eq_true rfl, Nat.le_of_ble_eq_true rfl⟩ ⟨Nat.zero_le _, Nat.zero_le _⟩ rfl (Nat.le_of_ble_eq_true rfl) d_Mod_fits_10 ?_
    rintro _ _ ⟨b13, rfl, rfl, hw⟩
    show V X _ _ _ _ 13 [some (.ref (xa X 82)), some (.int x1), some (.int x2)] [.int (bi b13)]
    refine x_if_eq (tgt := 29) C d_Mod_fits_13 (by decide) (fun c15 => ?_) (fun c15 => ?_)
    · have hw := hw.1 c15
      refine x_iconst (v := (-1)) C d_Mod_fits_29 rfl ?_
      exact x_ireturn C d_Mod_fits_30 ⟨_, rfl, rfl, hw⟩
    · have hw := hw.2 c15
      refine x_aload_n C d_Mod_fits_16 rfl ?_
      refine x_iload_n C d_Mod_fits_17 rfl ?_
      refine x_iload_n C d_Mod_fits_18 rfl ?_
      refine x_aload_n C d_Mod_fits_19 rfl ?_
      refine x_callV (As := []) (rest := [.int x2, .int x1, .ref (xa X 82)]) (p := 82) C (m_Mod_hour (xg X) C.2.2.2.2.2.2.1  s _ hw) cw_Mod_hour ml_Mod_203 rfl (by decide) (by decide) rfl rfl rfl ⟨rfl, rfl, Nat.le_of_ble_eq_true rfl, Nat.le_of_ble_eq_true rfl⟩ ⟨Nat.zero_le _, Nat.zero_le _⟩ rfl (Nat.le_of_ble_eq_true rfl) d_Mod_fits_20 ?_
      rintro _ _ ⟨x16, rfl, rfl, hw⟩
      show V X _ _ _ _ 23 [some (.ref (xa X 82)), some (.int x1), some (.int x2)] [.int x16, .int x2, .int x1, .ref (xa X 82)]
      refine x_callV (As := [.int x1, .int x2, .int x16]) (rest := []) (p := 82) C (m_Mod_fitsIn (xg X) C.2.2.2.2.2.2.1 x1 x2 x16 s _ hw) cw_Mod_fitsIn ml_Mod_94 rfl (by decide) (by decide) rfl rfl rfl ⟨rfl, rfl, Nat.le_of_ble_eq_true rfl, Nat.le_of_ble_eq_true rfl⟩ ⟨Nat.zero_le _, Nat.zero_le _⟩ rfl (Nat.le_of_ble_eq_true rfl) d_Mod_fits_23 ?_
      rintro _ _ ⟨x18, rfl, rfl, hw⟩
      show V X _ _ _ _ 26 [some (.ref (xa X 82)), some (.int x1), some (.int x2)] [.int x18]
      refine x_goto (tgt := 30) C d_Mod_fits_26 (by decide) ?_
      exact x_ireturn C d_Mod_fits_30 ⟨_, rfl, rfl, hw⟩
def vc_Mod_way (x1 : Int32) (x2 : Int32) (x3 : Int32) (s : St) (Q : Int32 → St → Prop) : Prop :=
    vc_Mod_isBody x1 s (fun b10 => (((bi b10) = 0 → Q (-1) s) ∧ (¬ (bi b10) = 0 → vc_Mod_isIn x2 0 1 (fun b13 => (((bi b13) = 0 → Q (-1) s) ∧ (¬ (bi b13) = 0 → vc_Mod_isIn x3 0 2 (fun b16 => ((¬ (bi b16) = 0 → (∃ J20 : Int32 → Prop, (∀ (x19 : Int32), J20 x19 → vc_Mod_wayAlone x1 x19 s (fun s21 => ((¬ x3 = 0 → ((¬ x3 = 1 → Q (s21 82 5) s21) ∧ (x3 = 1 → (vp_in 2 78 ∧ Q ((s21 82 4) - (s21 83 (Int32.toNatClampNeg 2))) s21)))) ∧ (x3 = 0 → Q (s21 82 6) s21)))) ∧ ((¬ x2 = 1 → J20 0) ∧ (x2 = 1 → J20 1)))) ∧ ((bi b16) = 0 → Q (-1) s)))))))))
def rm_Mod_way : Room := { frames := 7, cells := 0, slots := 0, locals := 163 }
set_option maxHeartbeats 4000000 in
set_option maxRecDepth 20000 in
theorem m_Mod_way (g : Gx) (hg : gOk g) (x1 : Int32) (x2 : Int32) (x3 : Int32)  (s : St) (Q : Int32 → St → Prop) (hw : vc_Mod_way x1 x2 x3 s Q) : Mc g y_Mod_way b_Mod_way 4 (some FieldType.int) rm_Mod_way [.ref (ga g 82), .int x1, .int x2, .int x3] s (fun v s' => ∃ r : Int32, v = some (.int r) ∧ Q r s') := by
  refine mc_ofV (j := 0) (L := [some (.ref (ga g 82)), some (.int x1), some (.int x2), some (.int x3)]) hg (by decide) (Nat.le_of_ble_eq_true rfl) rfl ?_
  intro X hX C
  subst hX
  unfold vc_Mod_way at hw
  refine x_aload_n C d_Mod_way_0 rfl ?_
  refine x_iload_n C d_Mod_way_1 rfl ?_
  refine x_callV (As := [.int x1]) (rest := []) (p := 82) C (m_Mod_isBody (xg X) C.2.2.2.2.2.2.1 x1 s _ hw) cw_Mod_isBody ml_Mod_179 rfl (by decide) (by decide) rfl rfl rfl ⟨rfl, rfl, Nat.le_of_ble_eq_true rfl, Nat.le_of_ble_eq_true rfl⟩ ⟨Nat.zero_le _, Nat.zero_le _⟩ rfl (Nat.le_of_ble_eq_true rfl) d_Mod_way_2 ?_
  rintro _ _ ⟨b10, rfl, rfl, hw⟩
  show V X _ _ _ _ 5 [some (.ref (xa X 82)), some (.int x1), some (.int x2), some (.int x3)] [.int (bi b10)]
  refine x_if_eq (tgt := 26) C d_Mod_way_5 (by decide) (fun c12 => ?_) (fun c12 => ?_)
  · have hw := hw.1 c12
    refine x_iconst (v := (-1)) C d_Mod_way_26 rfl ?_
    exact x_ireturn C d_Mod_way_27 ⟨_, rfl, hw⟩
  · have hw := hw.2 c12
    refine x_iload_n C d_Mod_way_8 rfl ?_
    refine x_iconst (v := 0) C d_Mod_way_9 rfl ?_
    refine x_iconst (v := 1) C d_Mod_way_10 rfl ?_
    refine x_callS (As := [.int x2, .int 0, .int 1]) (rest := []) C (m_Mod_isIn (xg X) C.2.2.2.2.2.2.1 x2 0 1 s _ hw) cw_Mod_isIn ml_Mod_55 rfl ⟨rfl, rfl, Nat.le_of_ble_eq_true rfl, Nat.le_of_ble_eq_true rfl⟩ ⟨Nat.zero_le _, Nat.zero_le _⟩ rfl (Nat.le_of_ble_eq_true rfl) d_Mod_way_11 ?_
    rintro _ _ ⟨b13, rfl, rfl, hw⟩
    show V X _ _ _ _ 14 [some (.ref (xa X 82)), some (.int x1), some (.int x2), some (.int x3)] [.int (bi b13)]
    refine x_if_eq (tgt := 26) C d_Mod_way_14 (by decide) (fun c15 => ?_) (fun c15 => ?_)
    · have hw := hw.1 c15
      refine x_iconst (v := (-1)) C d_Mod_way_26 rfl ?_
      exact x_ireturn C d_Mod_way_27 ⟨_, rfl, hw⟩
    · have hw := hw.2 c15
      refine x_iload_n C d_Mod_way_17 rfl ?_
      refine x_iconst (v := 0) C d_Mod_way_18 rfl ?_
      refine x_iconst (v := 2) C d_Mod_way_19 rfl ?_
      refine x_callS (As := [.int x3, .int 0, .int 2]) (rest := []) C (m_Mod_isIn (xg X) C.2.2.2.2.2.2.1 x3 0 2 s _ hw) cw_Mod_isIn ml_Mod_55 rfl ⟨rfl, rfl, Nat.le_of_ble_eq_true rfl, Nat.le_of_ble_eq_true rfl⟩ ⟨Nat.zero_le _, Nat.zero_le _⟩ rfl (Nat.le_of_ble_eq_true rfl) d_Mod_way_20 ?_
      rintro _ _ ⟨b16, rfl, rfl, hw⟩
      show V X _ _ _ _ 23 [some (.ref (xa X 82)), some (.int x1), some (.int x2), some (.int x3)] [.int (bi b16)]
      refine x_if_ne (tgt := 28) C d_Mod_way_23 (by decide) (fun c18 => ?_) (fun c18 => ?_)
      · have hw := hw.1 c18
        refine x_aload_n C d_Mod_way_28 rfl ?_
        refine x_iload_n C d_Mod_way_29 rfl ?_
        refine x_iload_n C d_Mod_way_30 rfl ?_
        refine x_iconst (v := 1) C d_Mod_way_31 rfl ?_
        obtain ⟨J20, hJ20, hw⟩ := hw
        have kJ20 : ∀ (x19 : Int32), J20 x19 → V X (xQ X (fun v s' => ∃ r : Int32, v = some (.int r) ∧ Q r s')) 0 0 s 40 [some (.ref (xa X 82)), some (.int x1), some (.int x2), some (.int x3)] [.int x19, .int x1, .ref (xa X 82)] := by
          intro x19 hv
          have hw := hJ20 x19 hv
          refine x_callV (As := [.int x1, .int x19]) (rest := []) (p := 82) C (m_Mod_wayAlone (xg X) C.2.2.2.2.2.2.1 x1 x19 s _ hw) cw_Mod_wayAlone ml_Mod_212 rfl (by decide) (by decide) rfl rfl rfl ⟨rfl, rfl, Nat.le_of_ble_eq_true rfl, Nat.le_of_ble_eq_true rfl⟩ ⟨Nat.zero_le _, Nat.zero_le _⟩ rfl (Nat.le_of_ble_eq_true rfl) d_Mod_way_40 ?_
          rintro _ s21 ⟨rfl, hw⟩
          show V X _ _ _ _ 43 [some (.ref (xa X 82)), some (.int x1), some (.int x2), some (.int x3)] []
          refine x_iload_n C d_Mod_way_43 rfl ?_
          refine x_if_ne (tgt := 54) C d_Mod_way_44 (by decide) (fun c22 => ?_) (fun c22 => ?_)
          · have hw := hw.1 c22
            refine x_iload_n C d_Mod_way_54 rfl ?_
            refine x_iconst (v := 1) C d_Mod_way_55 rfl ?_
            refine x_icmp_ne (tgt := 73) C d_Mod_way_56 (by decide) (fun c23 => ?_) (fun c23 => ?_)
            · have hw := hw.1 c23
              refine x_aload_n C d_Mod_way_73 rfl ?_
              refine g_Mod_5 (p := 82) C rfl fl_Mod_98 d_Mod_way_74 ?_
              exact x_ireturn C d_Mod_way_77 ⟨_, rfl, hw⟩
            · have hw := hw.2 c23
              refine x_aload_n C d_Mod_way_59 rfl ?_
              refine g_Mod_4 (p := 82) C rfl fl_Mod_91 d_Mod_way_60 ?_
              refine x_aload_n C d_Mod_way_63 rfl ?_
              refine g_Mod_0 (p := 82) C rfl fl_Mod_9 d_Mod_way_64 ?_
              refine x_iconst (v := 2) C d_Mod_way_67 rfl ?_
              obtain ⟨h24, hw⟩ := hw
              refine x_iald (p := 83) (n := 78) C rfl h24 d_Mod_way_68 ?_
              refine x_isub C d_Mod_way_69 ?_
              refine x_goto (tgt := 77) C d_Mod_way_70 (by decide) ?_
              exact x_ireturn C d_Mod_way_77 ⟨_, rfl, hw⟩
          · have hw := hw.2 c22
            refine x_aload_n C d_Mod_way_47 rfl ?_
            refine g_Mod_6 (p := 82) C rfl fl_Mod_87 d_Mod_way_48 ?_
            refine x_goto (tgt := 77) C d_Mod_way_51 (by decide) ?_
            exact x_ireturn C d_Mod_way_77 ⟨_, rfl, hw⟩
        refine x_icmp_ne (tgt := 39) C d_Mod_way_32 (by decide) (fun c25 => ?_) (fun c25 => ?_)
        · have hw := hw.1 c25
          refine x_iconst (v := 0) C d_Mod_way_39 rfl ?_
          exact x_wk (kJ20 0 hw) (And.intro rfl (And.intro rfl (And.intro rfl (And.intro rfl (trivial)))))
        · have hw := hw.2 c25
          refine x_iconst (v := 1) C d_Mod_way_35 rfl ?_
          refine x_goto (tgt := 40) C d_Mod_way_36 (by decide) ?_
          exact x_wk (kJ20 1 hw) (And.intro rfl (And.intro rfl (And.intro rfl (And.intro rfl (trivial)))))
      · have hw := hw.2 c18
        refine x_iconst (v := (-1)) C d_Mod_way_26 rfl ?_
        exact x_ireturn C d_Mod_way_27 ⟨_, rfl, hw⟩
def vc_Mod_posture (x1 : Int32) (s : St) (Q : Int32 → St → Prop) : Prop :=
    vc_Mod_isBody x1 s (fun b10 => ((¬ (bi b10) = 0 → vc_Mod_of x1 4 s (fun x13 => (∃ I19 : Nat → Int32 → Int32 → Int32 → St → Prop, (∃ n20, I19 n20 (-4) 1000000000 0 s) ∧ ∀ (nI19 : Nat) (x15 : Int32) (x16 : Int32) (x17 : Int32) (s18 : St), I19 nI19 x15 x16 x17 s18 → ((4 ≤ x17 → vc_Mod_atBody x1 4 (fun x22 => (vp_in x22 78 ∧ (∀ s25 : St, s25 = wr s18 83 (Int32.toNatClampNeg x22) x13 → Q x15 s25)))) ∧ (¬ 4 ≤ x17 → vc_Mod_atBody x1 4 (fun x26 => (vp_in x26 78 ∧ (∀ s29 : St, s29 = wr s18 83 (Int32.toNatClampNeg x26) x17 → vc_Mod_wayAlone x1 0 s29 (fun s30 => (∃ J33 : Int32 → Int32 → Prop, (∀ (x31 : Int32) (x32 : Int32), J33 x31 x32 → (∀ x34 : Int32, x34 = x17 + 1 → ∃ m35, m35 < nI19 ∧ I19 m35 x31 x32 x34 s30)) ∧ ((0 ≤ (s30 82 6) → J33 x15 x16) ∧ (¬ 0 ≤ (s30 82 6) → (((s30 82 5) < x16 → (∀ x38 : Int32, x38 = s30 82 5 → J33 x17 x38)) ∧ (¬ (s30 82 5) < x16 → J33 x15 x16)))))))))))))) ∧ ((bi b10) = 0 → Q (-1) s)))
def rm_Mod_posture : Room := { frames := 7, cells := 0, slots := 0, locals := 163 }
set_option maxHeartbeats 4000000 in
set_option maxRecDepth 20000 in
theorem m_Mod_posture (g : Gx) (hg : gOk g) (x1 : Int32)  (s : St) (Q : Int32 → St → Prop) (hw : vc_Mod_posture x1 s Q) : Mc g y_Mod_posture b_Mod_posture 6 (some FieldType.int) rm_Mod_posture [.ref (ga g 82), .int x1] s (fun v s' => ∃ r : Int32, v = some (.int r) ∧ Q r s') := by
  refine mc_ofV (j := 4) (L := [some (.ref (ga g 82)), some (.int x1), none, none, none, none]) hg (by decide) (Nat.le_of_ble_eq_true rfl) rfl ?_
  intro X hX C
  subst hX
  unfold vc_Mod_posture at hw
  refine x_aload_n C d_Mod_posture_0 rfl ?_
  refine x_iload_n C d_Mod_posture_1 rfl ?_
  refine x_callV (As := [.int x1]) (rest := []) (p := 82) C (m_Mod_isBody (xg X) C.2.2.2.2.2.2.1 x1 s _ hw) cw_Mod_isBody ml_Mod_179 rfl (by decide) (by decide) rfl rfl rfl ⟨rfl, rfl, Nat.le_of_ble_eq_true rfl, Nat.le_of_ble_eq_true rfl⟩ ⟨Nat.zero_le _, Nat.zero_le _⟩ rfl (Nat.le_of_ble_eq_true rfl) d_Mod_posture_2 ?_
  rintro _ _ ⟨b10, rfl, rfl, hw⟩
  show V X _ _ _ _ 5 [some (.ref (xa X 82)), some (.int x1), none, none, none, none] [.int (bi b10)]
  refine x_if_ne (tgt := 10) C d_Mod_posture_5 (by decide) (fun c12 => ?_) (fun c12 => ?_)
  · have hw := hw.1 c12
    refine x_aload_n C d_Mod_posture_10 rfl ?_
    refine x_iload_n C d_Mod_posture_11 rfl ?_
    refine x_iconst (v := 4) C d_Mod_posture_12 rfl ?_
    refine x_callV (As := [.int x1, .int 4]) (rest := []) (p := 82) C (m_Mod_of (xg X) C.2.2.2.2.2.2.1 x1 4 s _ hw) cw_Mod_of ml_Mod_73 rfl (by decide) (by decide) rfl rfl rfl ⟨rfl, rfl, Nat.le_of_ble_eq_true rfl, Nat.le_of_ble_eq_true rfl⟩ ⟨Nat.zero_le _, Nat.zero_le _⟩ rfl (Nat.le_of_ble_eq_true rfl) d_Mod_posture_13 ?_
    rintro _ _ ⟨x13, rfl, rfl, hw⟩
    show V X _ _ _ _ 16 [some (.ref (xa X 82)), some (.int x1), none, none, none, none] [.int x13]
    refine x_istore_n (L' := [some (.ref (xa X 82)), some (.int x1), some (.int x13), none, none, none]) C d_Mod_posture_16 (Nat.le_of_ble_eq_true rfl) rfl ?_
    refine x_bipush (v := (-4)) C d_Mod_posture_17 rfl ?_
    refine x_istore_n (L' := [some (.ref (xa X 82)), some (.int x1), some (.int x13), some (.int (-4)), none, none]) C d_Mod_posture_19 (Nat.le_of_ble_eq_true rfl) rfl ?_
    refine x_ldc (v := 1000000000) C d_Mod_posture_20 lc_Mod_216 ?_
    refine x_istore (L' := [some (.ref (xa X 82)), some (.int x1), some (.int x13), some (.int (-4)), some (.int 1000000000), none]) C d_Mod_posture_22 (Nat.le_of_ble_eq_true rfl) rfl ?_
    refine x_iconst (v := 0) C d_Mod_posture_24 rfl ?_
    refine x_istore (L' := [some (.ref (xa X 82)), some (.int x1), some (.int x13), some (.int (-4)), some (.int 1000000000), some (.int 0)]) C d_Mod_posture_25 (Nat.le_of_ble_eq_true rfl) rfl ?_
    obtain ⟨I19, ⟨n20, hn20⟩, hI19⟩ := hw
    have lI19 : ∀ (nI19 : Nat) (x15 : Int32) (x16 : Int32) (x17 : Int32) (s18 : St), I19 nI19 x15 x16 x17 s18 → V X (xQ X (fun v s' => ∃ r : Int32, v = some (.int r) ∧ Q r s')) 0 0 s18 27 [some (.ref (xa X 82)), some (.int x1), some (.int x13), some (.int x15), some (.int x16), some (.int x17)] [] := by
      intro nI19
      induction nI19 using Nat.strongRecOn with
      | ind nI19 ihI19 =>
        intro x15 x16 x17 s18 hv
        have hw := hI19 nI19 x15 x16 x17 s18 hv
        refine x_iload C d_Mod_posture_27 rfl ?_
        refine x_iconst (v := 4) C d_Mod_posture_29 rfl ?_
        refine x_icmp_ge (tgt := 85) C d_Mod_posture_30 (by decide) (fun c21 => ?_) (fun c21 => ?_)
        · have hw := hw.1 c21
          refine x_aload_n C d_Mod_posture_85 rfl ?_
          refine g_Mod_0 (p := 82) C rfl fl_Mod_9 d_Mod_posture_86 ?_
          refine x_iload_n C d_Mod_posture_89 rfl ?_
          refine x_iconst (v := 4) C d_Mod_posture_90 rfl ?_
          refine x_callS (As := [.int x1, .int 4]) (rest := [.ref (xa X 83)]) C (m_Mod_atBody (xg X) C.2.2.2.2.2.2.1 x1 4 s18 _ hw) cw_Mod_atBody ml_Mod_59 rfl ⟨rfl, rfl, Nat.le_of_ble_eq_true rfl, Nat.le_of_ble_eq_true rfl⟩ ⟨Nat.zero_le _, Nat.zero_le _⟩ rfl (Nat.le_of_ble_eq_true rfl) d_Mod_posture_91 ?_
          rintro _ _ ⟨x22, rfl, rfl, hw⟩
          show V X _ _ _ _ 94 [some (.ref (xa X 82)), some (.int x1), some (.int x13), some (.int x15), some (.int x16), some (.int x17)] [.int x22, .ref (xa X 83)]
          refine x_iload_n C d_Mod_posture_94 rfl ?_
          obtain ⟨h24, hw⟩ := hw
          refine x_iast (p := 83) (n := 78) C rfl h24 d_Mod_posture_95 ?_
          refine x_st (fun s25 hs25 => ?_)
          have hw := hw s25 hs25
          refine x_iload_n C d_Mod_posture_96 rfl ?_
          exact x_ireturn C d_Mod_posture_97 ⟨_, rfl, hw⟩
        · have hw := hw.2 c21
          refine x_aload_n C d_Mod_posture_33 rfl ?_
          refine g_Mod_0 (p := 82) C rfl fl_Mod_9 d_Mod_posture_34 ?_
          refine x_iload_n C d_Mod_posture_37 rfl ?_
          refine x_iconst (v := 4) C d_Mod_posture_38 rfl ?_
          refine x_callS (As := [.int x1, .int 4]) (rest := [.ref (xa X 83)]) C (m_Mod_atBody (xg X) C.2.2.2.2.2.2.1 x1 4 s18 _ hw) cw_Mod_atBody ml_Mod_59 rfl ⟨rfl, rfl, Nat.le_of_ble_eq_true rfl, Nat.le_of_ble_eq_true rfl⟩ ⟨Nat.zero_le _, Nat.zero_le _⟩ rfl (Nat.le_of_ble_eq_true rfl) d_Mod_posture_39 ?_
          rintro _ _ ⟨x26, rfl, rfl, hw⟩
          show V X _ _ _ _ 42 [some (.ref (xa X 82)), some (.int x1), some (.int x13), some (.int x15), some (.int x16), some (.int x17)] [.int x26, .ref (xa X 83)]
          refine x_iload C d_Mod_posture_42 rfl ?_
          obtain ⟨h28, hw⟩ := hw
          refine x_iast (p := 83) (n := 78) C rfl h28 d_Mod_posture_44 ?_
          refine x_st (fun s29 hs29 => ?_)
          have hw := hw s29 hs29
          refine x_aload_n C d_Mod_posture_45 rfl ?_
          refine x_iload_n C d_Mod_posture_46 rfl ?_
          refine x_iconst (v := 0) C d_Mod_posture_47 rfl ?_
          refine x_callV (As := [.int x1, .int 0]) (rest := []) (p := 82) C (m_Mod_wayAlone (xg X) C.2.2.2.2.2.2.1 x1 0 s29 _ hw) cw_Mod_wayAlone ml_Mod_212 rfl (by decide) (by decide) rfl rfl rfl ⟨rfl, rfl, Nat.le_of_ble_eq_true rfl, Nat.le_of_ble_eq_true rfl⟩ ⟨Nat.zero_le _, Nat.zero_le _⟩ rfl (Nat.le_of_ble_eq_true rfl) d_Mod_posture_48 ?_
          rintro _ s30 ⟨rfl, hw⟩
          show V X _ _ _ _ 51 [some (.ref (xa X 82)), some (.int x1), some (.int x13), some (.int x15), some (.int x16), some (.int x17)] []
          refine x_aload_n C d_Mod_posture_51 rfl ?_
          refine g_Mod_6 (p := 82) C rfl fl_Mod_87 d_Mod_posture_52 ?_
          obtain ⟨J33, hJ33, hw⟩ := hw
          have kJ33 : ∀ (x31 : Int32) (x32 : Int32), J33 x31 x32 → V X (xQ X (fun v s' => ∃ r : Int32, v = some (.int r) ∧ Q r s')) 0 0 s30 79 [some (.ref (xa X 82)), some (.int x1), some (.int x13), some (.int x31), some (.int x32), some (.int x17)] [] := by
            intro x31 x32 hv
            have hw := hJ33 x31 x32 hv
            obtain ⟨x34, hx34⟩ : ∃ z : Int32, z = x17 + 1 := ⟨_, rfl⟩
            refine x_iinc (v := x34) (L' := [some (.ref (xa X 82)), some (.int x1), some (.int x13), some (.int x31), some (.int x32), some (.int x34)]) C d_Mod_posture_79 (Nat.le_of_ble_eq_true rfl) rfl (by rw [hx34]; rfl) rfl ?_
            have hw := hw x34 hx34
            refine x_goto (tgt := 27) C d_Mod_posture_82 (by decide) ?_
            obtain ⟨m35, hm35, hw⟩ := hw
            exact x_wk (ihI19 m35 hm35 x31 x32 x34 s30 hw) (And.intro rfl (And.intro rfl (And.intro rfl (And.intro rfl (And.intro rfl (And.intro rfl (trivial)))))))
          refine x_if_ge (tgt := 79) C d_Mod_posture_55 (by decide) (fun c36 => ?_) (fun c36 => ?_)
          · have hw := hw.1 c36
            exact x_wk (kJ33 x15 x16 hw) (And.intro rfl (And.intro rfl (And.intro rfl (And.intro rfl (And.intro rfl (And.intro rfl (trivial)))))))
          · have hw := hw.2 c36
            refine x_aload_n C d_Mod_posture_58 rfl ?_
            refine g_Mod_5 (p := 82) C rfl fl_Mod_98 d_Mod_posture_59 ?_
            refine x_iload C d_Mod_posture_62 rfl ?_
            refine x_icmp_lt (tgt := 70) C d_Mod_posture_64 (by decide) (fun c37 => ?_) (fun c37 => ?_)
            · have hw := hw.1 c37
              refine x_iload C d_Mod_posture_70 rfl ?_
              refine x_istore_n (L' := [some (.ref (xa X 82)), some (.int x1), some (.int x13), some (.int x17), some (.int x16), some (.int x17)]) C d_Mod_posture_72 (Nat.le_of_ble_eq_true rfl) rfl ?_
              refine x_aload_n C d_Mod_posture_73 rfl ?_
              refine g_Mod_5 (p := 82) C rfl fl_Mod_98 d_Mod_posture_74 ?_
              refine x_nm (fun x38 hx38 => ?_)
              have hw := hw x38 hx38
              refine x_istore (L' := [some (.ref (xa X 82)), some (.int x1), some (.int x13), some (.int x17), some (.int x38), some (.int x17)]) C d_Mod_posture_77 (Nat.le_of_ble_eq_true rfl) rfl ?_
              exact x_wk (kJ33 x17 x38 hw) (And.intro rfl (And.intro rfl (And.intro rfl (And.intro rfl (And.intro rfl (And.intro rfl (trivial)))))))
            · have hw := hw.2 c37
              refine x_goto (tgt := 79) C d_Mod_posture_67 (by decide) ?_
              exact x_wk (kJ33 x15 x16 hw) (And.intro rfl (And.intro rfl (And.intro rfl (And.intro rfl (And.intro rfl (And.intro rfl (trivial)))))))
    exact x_wk (lI19 n20 (-4) 1000000000 0 s hn20) (And.intro rfl (And.intro rfl (And.intro rfl (And.intro rfl (And.intro rfl (And.intro rfl (trivial)))))))
  · have hw := hw.2 c12
    refine x_iconst (v := (-1)) C d_Mod_posture_8 rfl ?_
    exact x_ireturn C d_Mod_posture_9 ⟨_, rfl, hw⟩
def vc_Mod_lacks (x1 : Int32) (s : St) (Q : Int32 → Prop) : Prop :=
    vc_Mod_isBody x1 s (fun b10 => ((¬ (bi b10) = 0 → (∃ I15 : Nat → Int32 → Int32 → Prop, (∃ n16, I15 n16 0 0) ∧ ∀ (nI15 : Nat) (x13 : Int32) (x14 : Int32), I15 nI15 x13 x14 → (vp_in 0 78 ∧ (((s 83 (Int32.toNatClampNeg 0)) ≤ x14 → Q x13) ∧ (¬ (s 83 (Int32.toNatClampNeg 0)) ≤ x14 → vc_Mod_sizeNow x1 x14 1 s (fun x19 => vc_Mod_hour  s (fun x21 => vc_Mod_roomOf x14 x21 s (fun x23 => vc_Mod_most x13 (x19 - x23) (fun x25 => (∀ x27 : Int32, x27 = x14 + 1 → ∃ m28, m28 < nI15 ∧ I15 m28 x25 x27)))))))))) ∧ ((bi b10) = 0 → Q (-1))))
def rm_Mod_lacks : Room := { frames := 4, cells := 0, slots := 0, locals := 92 }
set_option maxHeartbeats 4000000 in
set_option maxRecDepth 20000 in
theorem m_Mod_lacks (g : Gx) (hg : gOk g) (x1 : Int32)  (s : St) (Q : Int32 → Prop) (hw : vc_Mod_lacks x1 s Q) : Mc g y_Mod_lacks b_Mod_lacks 4 (some FieldType.int) rm_Mod_lacks [.ref (ga g 82), .int x1] s (fun v s' => ∃ r : Int32, v = some (.int r) ∧ s = s' ∧ Q r) := by
  refine mc_ofV (j := 2) (L := [some (.ref (ga g 82)), some (.int x1), none, none]) hg (by decide) (Nat.le_of_ble_eq_true rfl) rfl ?_
  intro X hX C
  subst hX
  unfold vc_Mod_lacks at hw
  refine x_aload_n C d_Mod_lacks_0 rfl ?_
  refine x_iload_n C d_Mod_lacks_1 rfl ?_
  refine x_callV (As := [.int x1]) (rest := []) (p := 82) C (m_Mod_isBody (xg X) C.2.2.2.2.2.2.1 x1 s _ hw) cw_Mod_isBody ml_Mod_179 rfl (by decide) (by decide) rfl rfl rfl ⟨rfl, rfl, Nat.le_of_ble_eq_true rfl, Nat.le_of_ble_eq_true rfl⟩ ⟨Nat.zero_le _, Nat.zero_le _⟩ rfl (Nat.le_of_ble_eq_true rfl) d_Mod_lacks_2 ?_
  rintro _ _ ⟨b10, rfl, rfl, hw⟩
  show V X _ _ _ _ 5 [some (.ref (xa X 82)), some (.int x1), none, none] [.int (bi b10)]
  refine x_if_ne (tgt := 10) C d_Mod_lacks_5 (by decide) (fun c12 => ?_) (fun c12 => ?_)
  · have hw := hw.1 c12
    refine x_iconst (v := 0) C d_Mod_lacks_10 rfl ?_
    refine x_istore_n (L' := [some (.ref (xa X 82)), some (.int x1), some (.int 0), none]) C d_Mod_lacks_11 (Nat.le_of_ble_eq_true rfl) rfl ?_
    refine x_iconst (v := 0) C d_Mod_lacks_12 rfl ?_
    refine x_istore_n (L' := [some (.ref (xa X 82)), some (.int x1), some (.int 0), some (.int 0)]) C d_Mod_lacks_13 (Nat.le_of_ble_eq_true rfl) rfl ?_
    obtain ⟨I15, ⟨n16, hn16⟩, hI15⟩ := hw
    have lI15 : ∀ (nI15 : Nat) (x13 : Int32) (x14 : Int32), I15 nI15 x13 x14 → V X (xQ X (fun v s' => ∃ r : Int32, v = some (.int r) ∧ s = s' ∧ Q r)) 0 0 s 14 [some (.ref (xa X 82)), some (.int x1), some (.int x13), some (.int x14)] [] := by
      intro nI15
      induction nI15 using Nat.strongRecOn with
      | ind nI15 ihI15 =>
        intro x13 x14 hv
        have hw := hI15 nI15 x13 x14 hv
        refine x_iload_n C d_Mod_lacks_14 rfl ?_
        refine x_aload_n C d_Mod_lacks_15 rfl ?_
        refine g_Mod_0 (p := 82) C rfl fl_Mod_9 d_Mod_lacks_16 ?_
        refine x_iconst (v := 0) C d_Mod_lacks_19 rfl ?_
        obtain ⟨h17, hw⟩ := hw
        refine x_iald (p := 83) (n := 78) C rfl h17 d_Mod_lacks_20 ?_
        refine x_icmp_ge (tgt := 52) C d_Mod_lacks_21 (by decide) (fun c18 => ?_) (fun c18 => ?_)
        · have hw := hw.1 c18
          refine x_iload_n C d_Mod_lacks_52 rfl ?_
          exact x_ireturn C d_Mod_lacks_53 ⟨_, rfl, rfl, hw⟩
        · have hw := hw.2 c18
          refine x_iload_n C d_Mod_lacks_24 rfl ?_
          refine x_aload_n C d_Mod_lacks_25 rfl ?_
          refine x_iload_n C d_Mod_lacks_26 rfl ?_
          refine x_iload_n C d_Mod_lacks_27 rfl ?_
          refine x_iconst (v := 1) C d_Mod_lacks_28 rfl ?_
          refine x_callV (As := [.int x1, .int x14, .int 1]) (rest := [.int x13]) (p := 82) C (m_Mod_sizeNow (xg X) C.2.2.2.2.2.2.1 x1 x14 1 s _ hw) cw_Mod_sizeNow ml_Mod_80 rfl (by decide) (by decide) rfl rfl rfl ⟨rfl, rfl, Nat.le_of_ble_eq_true rfl, Nat.le_of_ble_eq_true rfl⟩ ⟨Nat.zero_le _, Nat.zero_le _⟩ rfl (Nat.le_of_ble_eq_true rfl) d_Mod_lacks_29 ?_
          rintro _ _ ⟨x19, rfl, rfl, hw⟩
          show V X _ _ _ _ 32 [some (.ref (xa X 82)), some (.int x1), some (.int x13), some (.int x14)] [.int x19, .int x13]
          refine x_aload_n C d_Mod_lacks_32 rfl ?_
          refine x_iload_n C d_Mod_lacks_33 rfl ?_
          refine x_aload_n C d_Mod_lacks_34 rfl ?_
          refine x_callV (As := []) (rest := [.int x14, .ref (xa X 82), .int x19, .int x13]) (p := 82) C (m_Mod_hour (xg X) C.2.2.2.2.2.2.1  s _ hw) cw_Mod_hour ml_Mod_203 rfl (by decide) (by decide) rfl rfl rfl ⟨rfl, rfl, Nat.le_of_ble_eq_true rfl, Nat.le_of_ble_eq_true rfl⟩ ⟨Nat.zero_le _, Nat.zero_le _⟩ rfl (Nat.le_of_ble_eq_true rfl) d_Mod_lacks_35 ?_
          rintro _ _ ⟨x21, rfl, rfl, hw⟩
          show V X _ _ _ _ 38 [some (.ref (xa X 82)), some (.int x1), some (.int x13), some (.int x14)] [.int x21, .int x14, .ref (xa X 82), .int x19, .int x13]
          refine x_callV (As := [.int x14, .int x21]) (rest := [.int x19, .int x13]) (p := 82) C (m_Mod_roomOf (xg X) C.2.2.2.2.2.2.1 x14 x21 s _ hw) cw_Mod_roomOf ml_Mod_84 rfl (by decide) (by decide) rfl rfl rfl ⟨rfl, rfl, Nat.le_of_ble_eq_true rfl, Nat.le_of_ble_eq_true rfl⟩ ⟨Nat.zero_le _, Nat.zero_le _⟩ rfl (Nat.le_of_ble_eq_true rfl) d_Mod_lacks_38 ?_
          rintro _ _ ⟨x23, rfl, rfl, hw⟩
          show V X _ _ _ _ 41 [some (.ref (xa X 82)), some (.int x1), some (.int x13), some (.int x14)] [.int x23, .int x19, .int x13]
          refine x_isub C d_Mod_lacks_41 ?_
          refine x_callS (As := [.int x13, .int (x19 - x23)]) (rest := []) C (m_Mod_most (xg X) C.2.2.2.2.2.2.1 x13 (x19 - x23) s _ hw) cw_Mod_most ml_Mod_66 rfl ⟨rfl, rfl, Nat.le_of_ble_eq_true rfl, Nat.le_of_ble_eq_true rfl⟩ ⟨Nat.zero_le _, Nat.zero_le _⟩ rfl (Nat.le_of_ble_eq_true rfl) d_Mod_lacks_42 ?_
          rintro _ _ ⟨x25, rfl, rfl, hw⟩
          show V X _ _ _ _ 45 [some (.ref (xa X 82)), some (.int x1), some (.int x13), some (.int x14)] [.int x25]
          refine x_istore_n (L' := [some (.ref (xa X 82)), some (.int x1), some (.int x25), some (.int x14)]) C d_Mod_lacks_45 (Nat.le_of_ble_eq_true rfl) rfl ?_
          obtain ⟨x27, hx27⟩ : ∃ z : Int32, z = x14 + 1 := ⟨_, rfl⟩
          refine x_iinc (v := x27) (L' := [some (.ref (xa X 82)), some (.int x1), some (.int x25), some (.int x27)]) C d_Mod_lacks_46 (Nat.le_of_ble_eq_true rfl) rfl (by rw [hx27]; rfl) rfl ?_
          have hw := hw x27 hx27
          refine x_goto (tgt := 14) C d_Mod_lacks_49 (by decide) ?_
          obtain ⟨m28, hm28, hw⟩ := hw
          exact x_wk (ihI15 m28 hm28 x25 x27 hw) (And.intro rfl (And.intro rfl (And.intro rfl (And.intro rfl (trivial)))))
    exact x_wk (lI15 n16 0 0 hn16) (And.intro rfl (And.intro rfl (And.intro rfl (And.intro rfl (trivial)))))
  · have hw := hw.2 c12
    refine x_iconst (v := (-1)) C d_Mod_lacks_8 rfl ?_
    exact x_ireturn C d_Mod_lacks_9 ⟨_, rfl, rfl, hw⟩
def vc_Mod_widest (x1 : Int32) (s : St) (Q : Int32 → St → Prop) : Prop :=
    vc_Mod_isBody x1 s (fun b10 => ((¬ (bi b10) = 0 → vc_Mod_of x1 0 s (fun x13 => (∃ I18 : Nat → Int32 → Int32 → St → Prop, (∃ n19, I18 n19 (-4) 10 s) ∧ ∀ (nI18 : Nat) (x15 : Int32) (x16 : Int32) (s17 : St), I18 nI18 x15 x16 s17 → ((50 < x16 → vc_Mod_atBody x1 0 (fun x21 => (vp_in x21 78 ∧ (∀ s24 : St, s24 = wr s17 83 (Int32.toNatClampNeg x21) x13 → Q x15 s24)))) ∧ (¬ 50 < x16 → vc_Mod_atBody x1 0 (fun x25 => (vp_in x25 78 ∧ (∀ s28 : St, s28 = wr s17 83 (Int32.toNatClampNeg x25) x16 → vc_Mod_wayAlone x1 0 s28 (fun s29 => (∃ J31 : Int32 → Prop, (∀ (x30 : Int32), J31 x30 → (∀ x32 : Int32, x32 = x16 + 1 → ∃ m33, m33 < nI18 ∧ I18 m33 x30 x32 s29)) ∧ ((0 ≤ (s29 82 6) → J31 x15) ∧ (¬ 0 ≤ (s29 82 6) → J31 x16)))))))))))) ∧ ((bi b10) = 0 → Q (-1) s)))
def rm_Mod_widest : Room := { frames := 7, cells := 0, slots := 0, locals := 163 }
set_option maxHeartbeats 4000000 in
set_option maxRecDepth 20000 in
theorem m_Mod_widest (g : Gx) (hg : gOk g) (x1 : Int32)  (s : St) (Q : Int32 → St → Prop) (hw : vc_Mod_widest x1 s Q) : Mc g y_Mod_widest b_Mod_widest 5 (some FieldType.int) rm_Mod_widest [.ref (ga g 82), .int x1] s (fun v s' => ∃ r : Int32, v = some (.int r) ∧ Q r s') := by
  refine mc_ofV (j := 3) (L := [some (.ref (ga g 82)), some (.int x1), none, none, none]) hg (by decide) (Nat.le_of_ble_eq_true rfl) rfl ?_
  intro X hX C
  subst hX
  unfold vc_Mod_widest at hw
  refine x_aload_n C d_Mod_widest_0 rfl ?_
  refine x_iload_n C d_Mod_widest_1 rfl ?_
  refine x_callV (As := [.int x1]) (rest := []) (p := 82) C (m_Mod_isBody (xg X) C.2.2.2.2.2.2.1 x1 s _ hw) cw_Mod_isBody ml_Mod_179 rfl (by decide) (by decide) rfl rfl rfl ⟨rfl, rfl, Nat.le_of_ble_eq_true rfl, Nat.le_of_ble_eq_true rfl⟩ ⟨Nat.zero_le _, Nat.zero_le _⟩ rfl (Nat.le_of_ble_eq_true rfl) d_Mod_widest_2 ?_
  rintro _ _ ⟨b10, rfl, rfl, hw⟩
  show V X _ _ _ _ 5 [some (.ref (xa X 82)), some (.int x1), none, none, none] [.int (bi b10)]
  refine x_if_ne (tgt := 10) C d_Mod_widest_5 (by decide) (fun c12 => ?_) (fun c12 => ?_)
  · have hw := hw.1 c12
    refine x_aload_n C d_Mod_widest_10 rfl ?_
    refine x_iload_n C d_Mod_widest_11 rfl ?_
    refine x_iconst (v := 0) C d_Mod_widest_12 rfl ?_
    refine x_callV (As := [.int x1, .int 0]) (rest := []) (p := 82) C (m_Mod_of (xg X) C.2.2.2.2.2.2.1 x1 0 s _ hw) cw_Mod_of ml_Mod_73 rfl (by decide) (by decide) rfl rfl rfl ⟨rfl, rfl, Nat.le_of_ble_eq_true rfl, Nat.le_of_ble_eq_true rfl⟩ ⟨Nat.zero_le _, Nat.zero_le _⟩ rfl (Nat.le_of_ble_eq_true rfl) d_Mod_widest_13 ?_
    rintro _ _ ⟨x13, rfl, rfl, hw⟩
    show V X _ _ _ _ 16 [some (.ref (xa X 82)), some (.int x1), none, none, none] [.int x13]
    refine x_istore_n (L' := [some (.ref (xa X 82)), some (.int x1), some (.int x13), none, none]) C d_Mod_widest_16 (Nat.le_of_ble_eq_true rfl) rfl ?_
    refine x_bipush (v := (-4)) C d_Mod_widest_17 rfl ?_
    refine x_istore_n (L' := [some (.ref (xa X 82)), some (.int x1), some (.int x13), some (.int (-4)), none]) C d_Mod_widest_19 (Nat.le_of_ble_eq_true rfl) rfl ?_
    refine x_bipush (v := 10) C d_Mod_widest_20 rfl ?_
    refine x_istore (L' := [some (.ref (xa X 82)), some (.int x1), some (.int x13), some (.int (-4)), some (.int 10)]) C d_Mod_widest_22 (Nat.le_of_ble_eq_true rfl) rfl ?_
    obtain ⟨I18, ⟨n19, hn19⟩, hI18⟩ := hw
    have lI18 : ∀ (nI18 : Nat) (x15 : Int32) (x16 : Int32) (s17 : St), I18 nI18 x15 x16 s17 → V X (xQ X (fun v s' => ∃ r : Int32, v = some (.int r) ∧ Q r s')) 0 0 s17 24 [some (.ref (xa X 82)), some (.int x1), some (.int x13), some (.int x15), some (.int x16)] [] := by
      intro nI18
      induction nI18 using Nat.strongRecOn with
      | ind nI18 ihI18 =>
        intro x15 x16 s17 hv
        have hw := hI18 nI18 x15 x16 s17 hv
        refine x_iload C d_Mod_widest_24 rfl ?_
        refine x_bipush (v := 50) C d_Mod_widest_26 rfl ?_
        refine x_icmp_gt (tgt := 69) C d_Mod_widest_28 (by decide) (fun c20 => ?_) (fun c20 => ?_)
        · have hw := hw.1 c20
          refine x_aload_n C d_Mod_widest_69 rfl ?_
          refine g_Mod_0 (p := 82) C rfl fl_Mod_9 d_Mod_widest_70 ?_
          refine x_iload_n C d_Mod_widest_73 rfl ?_
          refine x_iconst (v := 0) C d_Mod_widest_74 rfl ?_
          refine x_callS (As := [.int x1, .int 0]) (rest := [.ref (xa X 83)]) C (m_Mod_atBody (xg X) C.2.2.2.2.2.2.1 x1 0 s17 _ hw) cw_Mod_atBody ml_Mod_59 rfl ⟨rfl, rfl, Nat.le_of_ble_eq_true rfl, Nat.le_of_ble_eq_true rfl⟩ ⟨Nat.zero_le _, Nat.zero_le _⟩ rfl (Nat.le_of_ble_eq_true rfl) d_Mod_widest_75 ?_
          rintro _ _ ⟨x21, rfl, rfl, hw⟩
          show V X _ _ _ _ 78 [some (.ref (xa X 82)), some (.int x1), some (.int x13), some (.int x15), some (.int x16)] [.int x21, .ref (xa X 83)]
          refine x_iload_n C d_Mod_widest_78 rfl ?_
          obtain ⟨h23, hw⟩ := hw
          refine x_iast (p := 83) (n := 78) C rfl h23 d_Mod_widest_79 ?_
          refine x_st (fun s24 hs24 => ?_)
          have hw := hw s24 hs24
          refine x_iload_n C d_Mod_widest_80 rfl ?_
          exact x_ireturn C d_Mod_widest_81 ⟨_, rfl, hw⟩
        · have hw := hw.2 c20
          refine x_aload_n C d_Mod_widest_31 rfl ?_
          refine g_Mod_0 (p := 82) C rfl fl_Mod_9 d_Mod_widest_32 ?_
          refine x_iload_n C d_Mod_widest_35 rfl ?_
          refine x_iconst (v := 0) C d_Mod_widest_36 rfl ?_
          refine x_callS (As := [.int x1, .int 0]) (rest := [.ref (xa X 83)]) C (m_Mod_atBody (xg X) C.2.2.2.2.2.2.1 x1 0 s17 _ hw) cw_Mod_atBody ml_Mod_59 rfl ⟨rfl, rfl, Nat.le_of_ble_eq_true rfl, Nat.le_of_ble_eq_true rfl⟩ ⟨Nat.zero_le _, Nat.zero_le _⟩ rfl (Nat.le_of_ble_eq_true rfl) d_Mod_widest_37 ?_
          rintro _ _ ⟨x25, rfl, rfl, hw⟩
          show V X _ _ _ _ 40 [some (.ref (xa X 82)), some (.int x1), some (.int x13), some (.int x15), some (.int x16)] [.int x25, .ref (xa X 83)]
          refine x_iload C d_Mod_widest_40 rfl ?_
          obtain ⟨h27, hw⟩ := hw
          refine x_iast (p := 83) (n := 78) C rfl h27 d_Mod_widest_42 ?_
          refine x_st (fun s28 hs28 => ?_)
          have hw := hw s28 hs28
          refine x_aload_n C d_Mod_widest_43 rfl ?_
          refine x_iload_n C d_Mod_widest_44 rfl ?_
          refine x_iconst (v := 0) C d_Mod_widest_45 rfl ?_
          refine x_callV (As := [.int x1, .int 0]) (rest := []) (p := 82) C (m_Mod_wayAlone (xg X) C.2.2.2.2.2.2.1 x1 0 s28 _ hw) cw_Mod_wayAlone ml_Mod_212 rfl (by decide) (by decide) rfl rfl rfl ⟨rfl, rfl, Nat.le_of_ble_eq_true rfl, Nat.le_of_ble_eq_true rfl⟩ ⟨Nat.zero_le _, Nat.zero_le _⟩ rfl (Nat.le_of_ble_eq_true rfl) d_Mod_widest_46 ?_
          rintro _ s29 ⟨rfl, hw⟩
          show V X _ _ _ _ 49 [some (.ref (xa X 82)), some (.int x1), some (.int x13), some (.int x15), some (.int x16)] []
          refine x_aload_n C d_Mod_widest_49 rfl ?_
          refine g_Mod_6 (p := 82) C rfl fl_Mod_87 d_Mod_widest_50 ?_
          obtain ⟨J31, hJ31, hw⟩ := hw
          have kJ31 : ∀ (x30 : Int32), J31 x30 → V X (xQ X (fun v s' => ∃ r : Int32, v = some (.int r) ∧ Q r s')) 0 0 s29 62 [some (.ref (xa X 82)), some (.int x1), some (.int x13), some (.int x15), some (.int x16)] [.int x30] := by
            intro x30 hv
            have hw := hJ31 x30 hv
            refine x_istore_n (L' := [some (.ref (xa X 82)), some (.int x1), some (.int x13), some (.int x30), some (.int x16)]) C d_Mod_widest_62 (Nat.le_of_ble_eq_true rfl) rfl ?_
            obtain ⟨x32, hx32⟩ : ∃ z : Int32, z = x16 + 1 := ⟨_, rfl⟩
            refine x_iinc (v := x32) (L' := [some (.ref (xa X 82)), some (.int x1), some (.int x13), some (.int x30), some (.int x32)]) C d_Mod_widest_63 (Nat.le_of_ble_eq_true rfl) rfl (by rw [hx32]; rfl) rfl ?_
            have hw := hw x32 hx32
            refine x_goto (tgt := 24) C d_Mod_widest_66 (by decide) ?_
            obtain ⟨m33, hm33, hw⟩ := hw
            exact x_wk (ihI18 m33 hm33 x30 x32 s29 hw) (And.intro rfl (And.intro rfl (And.intro rfl (And.intro rfl (And.intro rfl (trivial))))))
          refine x_if_ge (tgt := 61) C d_Mod_widest_53 (by decide) (fun c34 => ?_) (fun c34 => ?_)
          · have hw := hw.1 c34
            refine x_iload_n C d_Mod_widest_61 rfl ?_
            exact x_wk (kJ31 x15 hw) (And.intro rfl (And.intro rfl (And.intro rfl (And.intro rfl (And.intro rfl (trivial))))))
          · have hw := hw.2 c34
            refine x_iload C d_Mod_widest_56 rfl ?_
            refine x_goto (tgt := 62) C d_Mod_widest_58 (by decide) ?_
            exact x_wk (kJ31 x16 hw) (And.intro rfl (And.intro rfl (And.intro rfl (And.intro rfl (And.intro rfl (trivial))))))
    exact x_wk (lI18 n19 (-4) 10 s hn19) (And.intro rfl (And.intro rfl (And.intro rfl (And.intro rfl (And.intro rfl (trivial))))))
  · have hw := hw.2 c12
    refine x_iconst (v := (-1)) C d_Mod_widest_8 rfl ?_
    exact x_ireturn C d_Mod_widest_9 ⟨_, rfl, hw⟩
def vc_Mod_go (x1 : Int32) (s : St) (Q : Int32 → St → Prop) : Prop :=
    vc_Mod_isIn x1 0 4 (fun b10 => ((¬ (bi b10) = 0 → (∀ s13 : St, s13 = wr s 82 7 0 → vc_Mod_goesThere  s13 (fun s14 => ((¬ x1 = 0 → ((¬ x1 = 1 → ((¬ x1 = 2 → ((¬ x1 = 3 → Q (s14 82 14) s14) ∧ (x1 = 3 → Q (s14 82 13) s14))) ∧ (x1 = 2 → Q (s14 82 10) s14))) ∧ (x1 = 1 → Q (s14 82 9) s14))) ∧ (x1 = 0 → Q (s14 82 8) s14))))) ∧ ((bi b10) = 0 → Q (-1) s)))
def rm_Mod_go : Room := { frames := 7, cells := 0, slots := 0, locals := 163 }
set_option maxHeartbeats 4000000 in
set_option maxRecDepth 20000 in
theorem m_Mod_go (g : Gx) (hg : gOk g) (x1 : Int32)  (s : St) (Q : Int32 → St → Prop) (hw : vc_Mod_go x1 s Q) : Mc g y_Mod_go b_Mod_go 2 (some FieldType.int) rm_Mod_go [.ref (ga g 82), .int x1] s (fun v s' => ∃ r : Int32, v = some (.int r) ∧ Q r s') := by
  refine mc_ofV (j := 0) (L := [some (.ref (ga g 82)), some (.int x1)]) hg (by decide) (Nat.le_of_ble_eq_true rfl) rfl ?_
  intro X hX C
  subst hX
  unfold vc_Mod_go at hw
  refine x_iload_n C d_Mod_go_0 rfl ?_
  refine x_iconst (v := 0) C d_Mod_go_1 rfl ?_
  refine x_iconst (v := 4) C d_Mod_go_2 rfl ?_
  refine x_callS (As := [.int x1, .int 0, .int 4]) (rest := []) C (m_Mod_isIn (xg X) C.2.2.2.2.2.2.1 x1 0 4 s _ hw) cw_Mod_isIn ml_Mod_55 rfl ⟨rfl, rfl, Nat.le_of_ble_eq_true rfl, Nat.le_of_ble_eq_true rfl⟩ ⟨Nat.zero_le _, Nat.zero_le _⟩ rfl (Nat.le_of_ble_eq_true rfl) d_Mod_go_3 ?_
  rintro _ _ ⟨b10, rfl, rfl, hw⟩
  show V X _ _ _ _ 6 [some (.ref (xa X 82)), some (.int x1)] [.int (bi b10)]
  refine x_if_ne (tgt := 11) C d_Mod_go_6 (by decide) (fun c12 => ?_) (fun c12 => ?_)
  · have hw := hw.1 c12
    refine x_aload_n C d_Mod_go_11 rfl ?_
    refine x_iconst (v := 0) C d_Mod_go_12 rfl ?_
    refine p_Mod_7 (p := 82) C rfl fl_Mod_112 d_Mod_go_13 ?_
    refine x_st (fun s13 hs13 => ?_)
    have hw := hw s13 hs13
    refine x_aload_n C d_Mod_go_16 rfl ?_
    refine x_callV (As := []) (rest := []) (p := 82) C (m_Mod_goesThere (xg X) C.2.2.2.2.2.2.1  s13 _ hw) cw_Mod_goesThere ml_Mod_136 rfl (by decide) (by decide) rfl rfl rfl ⟨rfl, rfl, Nat.le_of_ble_eq_true rfl, Nat.le_of_ble_eq_true rfl⟩ ⟨Nat.zero_le _, Nat.zero_le _⟩ rfl (Nat.le_of_ble_eq_true rfl) d_Mod_go_17 ?_
    rintro _ s14 ⟨rfl, hw⟩
    show V X _ _ _ _ 20 [some (.ref (xa X 82)), some (.int x1)] []
    refine x_iload_n C d_Mod_go_20 rfl ?_
    refine x_if_ne (tgt := 31) C d_Mod_go_21 (by decide) (fun c15 => ?_) (fun c15 => ?_)
    · have hw := hw.1 c15
      refine x_iload_n C d_Mod_go_31 rfl ?_
      refine x_iconst (v := 1) C d_Mod_go_32 rfl ?_
      refine x_icmp_ne (tgt := 43) C d_Mod_go_33 (by decide) (fun c16 => ?_) (fun c16 => ?_)
      · have hw := hw.1 c16
        refine x_iload_n C d_Mod_go_43 rfl ?_
        refine x_iconst (v := 2) C d_Mod_go_44 rfl ?_
        refine x_icmp_ne (tgt := 55) C d_Mod_go_45 (by decide) (fun c17 => ?_) (fun c17 => ?_)
        · have hw := hw.1 c17
          refine x_iload_n C d_Mod_go_55 rfl ?_
          refine x_iconst (v := 3) C d_Mod_go_56 rfl ?_
          refine x_icmp_ne (tgt := 67) C d_Mod_go_57 (by decide) (fun c18 => ?_) (fun c18 => ?_)
          · have hw := hw.1 c18
            refine x_aload_n C d_Mod_go_67 rfl ?_
            refine g_Mod_14 (p := 82) C rfl fl_Mod_133 d_Mod_go_68 ?_
            exact x_ireturn C d_Mod_go_71 ⟨_, rfl, hw⟩
          · have hw := hw.2 c18
            refine x_aload_n C d_Mod_go_60 rfl ?_
            refine g_Mod_13 (p := 82) C rfl fl_Mod_130 d_Mod_go_61 ?_
            refine x_goto (tgt := 71) C d_Mod_go_64 (by decide) ?_
            exact x_ireturn C d_Mod_go_71 ⟨_, rfl, hw⟩
        · have hw := hw.2 c17
          refine x_aload_n C d_Mod_go_48 rfl ?_
          refine g_Mod_10 (p := 82) C rfl fl_Mod_124 d_Mod_go_49 ?_
          refine x_goto (tgt := 71) C d_Mod_go_52 (by decide) ?_
          exact x_ireturn C d_Mod_go_71 ⟨_, rfl, hw⟩
      · have hw := hw.2 c16
        refine x_aload_n C d_Mod_go_36 rfl ?_
        refine g_Mod_9 (p := 82) C rfl fl_Mod_121 d_Mod_go_37 ?_
        refine x_goto (tgt := 71) C d_Mod_go_40 (by decide) ?_
        exact x_ireturn C d_Mod_go_71 ⟨_, rfl, hw⟩
    · have hw := hw.2 c15
      refine x_aload_n C d_Mod_go_24 rfl ?_
      refine g_Mod_8 (p := 82) C rfl fl_Mod_118 d_Mod_go_25 ?_
      refine x_goto (tgt := 71) C d_Mod_go_28 (by decide) ?_
      exact x_ireturn C d_Mod_go_71 ⟨_, rfl, hw⟩
  · have hw := hw.2 c12
    refine x_iconst (v := (-1)) C d_Mod_go_9 rfl ?_
    exact x_ireturn C d_Mod_go_10 ⟨_, rfl, hw⟩
def vc_Mod_back (x1 : Int32) (s : St) (Q : Int32 → St → Prop) : Prop :=
    vc_Mod_isIn x1 0 3 (fun b10 => ((¬ (bi b10) = 0 → (∀ s13 : St, s13 = wr s 82 7 0 → vc_Mod_goesThereAndBack  s13 (fun s14 => ((¬ x1 = 0 → ((¬ x1 = 1 → ((¬ x1 = 2 → Q (s14 82 15) s14) ∧ (x1 = 2 → (∃ J19 : Int32 → Prop, (∀ (x18 : Int32), J19 x18 → Q (((s14 82 8) &&& ((s14 82 11) ^^^ (-1))) &&& x18) s14) ∧ ((0 ≤ (s14 82 12) → J19 ((1 <<< ((s14 82 12) &&& 31)) ^^^ (-1))) ∧ (¬ 0 ≤ (s14 82 12) → J19 (-1))))))) ∧ (x1 = 1 → Q (s14 82 12) s14))) ∧ (x1 = 0 → Q (s14 82 11) s14))))) ∧ ((bi b10) = 0 → Q (-1) s)))
def rm_Mod_back : Room := { frames := 8, cells := 0, slots := 0, locals := 185 }
set_option maxHeartbeats 4000000 in
set_option maxRecDepth 20000 in
theorem m_Mod_back (g : Gx) (hg : gOk g) (x1 : Int32)  (s : St) (Q : Int32 → St → Prop) (hw : vc_Mod_back x1 s Q) : Mc g y_Mod_back b_Mod_back 2 (some FieldType.int) rm_Mod_back [.ref (ga g 82), .int x1] s (fun v s' => ∃ r : Int32, v = some (.int r) ∧ Q r s') := by
  refine mc_ofV (j := 0) (L := [some (.ref (ga g 82)), some (.int x1)]) hg (by decide) (Nat.le_of_ble_eq_true rfl) rfl ?_
  intro X hX C
  subst hX
  unfold vc_Mod_back at hw
  refine x_iload_n C d_Mod_back_0 rfl ?_
  refine x_iconst (v := 0) C d_Mod_back_1 rfl ?_
  refine x_iconst (v := 3) C d_Mod_back_2 rfl ?_
  refine x_callS (As := [.int x1, .int 0, .int 3]) (rest := []) C (m_Mod_isIn (xg X) C.2.2.2.2.2.2.1 x1 0 3 s _ hw) cw_Mod_isIn ml_Mod_55 rfl ⟨rfl, rfl, Nat.le_of_ble_eq_true rfl, Nat.le_of_ble_eq_true rfl⟩ ⟨Nat.zero_le _, Nat.zero_le _⟩ rfl (Nat.le_of_ble_eq_true rfl) d_Mod_back_3 ?_
  rintro _ _ ⟨b10, rfl, rfl, hw⟩
  show V X _ _ _ _ 6 [some (.ref (xa X 82)), some (.int x1)] [.int (bi b10)]
  refine x_if_ne (tgt := 11) C d_Mod_back_6 (by decide) (fun c12 => ?_) (fun c12 => ?_)
  · have hw := hw.1 c12
    refine x_aload_n C d_Mod_back_11 rfl ?_
    refine x_iconst (v := 0) C d_Mod_back_12 rfl ?_
    refine p_Mod_7 (p := 82) C rfl fl_Mod_112 d_Mod_back_13 ?_
    refine x_st (fun s13 hs13 => ?_)
    have hw := hw s13 hs13
    refine x_aload_n C d_Mod_back_16 rfl ?_
    refine x_callV (As := []) (rest := []) (p := 82) C (m_Mod_goesThereAndBack (xg X) C.2.2.2.2.2.2.1  s13 _ hw) cw_Mod_goesThereAndBack ml_Mod_148 rfl (by decide) (by decide) rfl rfl rfl ⟨rfl, rfl, Nat.le_of_ble_eq_true rfl, Nat.le_of_ble_eq_true rfl⟩ ⟨Nat.zero_le _, Nat.zero_le _⟩ rfl (Nat.le_of_ble_eq_true rfl) d_Mod_back_17 ?_
    rintro _ s14 ⟨rfl, hw⟩
    show V X _ _ _ _ 20 [some (.ref (xa X 82)), some (.int x1)] []
    refine x_iload_n C d_Mod_back_20 rfl ?_
    refine x_if_ne (tgt := 31) C d_Mod_back_21 (by decide) (fun c15 => ?_) (fun c15 => ?_)
    · have hw := hw.1 c15
      refine x_iload_n C d_Mod_back_31 rfl ?_
      refine x_iconst (v := 1) C d_Mod_back_32 rfl ?_
      refine x_icmp_ne (tgt := 43) C d_Mod_back_33 (by decide) (fun c16 => ?_) (fun c16 => ?_)
      · have hw := hw.1 c16
        refine x_iload_n C d_Mod_back_43 rfl ?_
        refine x_iconst (v := 2) C d_Mod_back_44 rfl ?_
        refine x_icmp_ne (tgt := 82) C d_Mod_back_45 (by decide) (fun c17 => ?_) (fun c17 => ?_)
        · have hw := hw.1 c17
          refine x_aload_n C d_Mod_back_82 rfl ?_
          refine g_Mod_15 (p := 82) C rfl fl_Mod_145 d_Mod_back_83 ?_
          exact x_ireturn C d_Mod_back_86 ⟨_, rfl, hw⟩
        · have hw := hw.2 c17
          refine x_aload_n C d_Mod_back_48 rfl ?_
          refine g_Mod_8 (p := 82) C rfl fl_Mod_118 d_Mod_back_49 ?_
          refine x_aload_n C d_Mod_back_52 rfl ?_
          refine g_Mod_11 (p := 82) C rfl fl_Mod_139 d_Mod_back_53 ?_
          refine x_iconst (v := (-1)) C d_Mod_back_56 rfl ?_
          refine x_ixor C d_Mod_back_57 ?_
          refine x_iand C d_Mod_back_58 ?_
          refine x_aload_n C d_Mod_back_59 rfl ?_
          refine g_Mod_12 (p := 82) C rfl fl_Mod_142 d_Mod_back_60 ?_
          obtain ⟨J19, hJ19, hw⟩ := hw
          have kJ19 : ∀ (x18 : Int32), J19 x18 → V X (xQ X (fun v s' => ∃ r : Int32, v = some (.int r) ∧ Q r s')) 0 0 s14 78 [some (.ref (xa X 82)), some (.int x1)] [.int x18, .int ((s14 82 8) &&& ((s14 82 11) ^^^ (-1)))] := by
            intro x18 hv
            have hw := hJ19 x18 hv
            refine x_iand C d_Mod_back_78 ?_
            refine x_goto (tgt := 86) C d_Mod_back_79 (by decide) ?_
            exact x_ireturn C d_Mod_back_86 ⟨_, rfl, hw⟩
          refine x_if_ge (tgt := 70) C d_Mod_back_63 (by decide) (fun c20 => ?_) (fun c20 => ?_)
          · have hw := hw.1 c20
            refine x_iconst (v := 1) C d_Mod_back_70 rfl ?_
            refine x_aload_n C d_Mod_back_71 rfl ?_
            refine g_Mod_12 (p := 82) C rfl fl_Mod_142 d_Mod_back_72 ?_
            refine x_ishl C d_Mod_back_75 ?_
            refine x_iconst (v := (-1)) C d_Mod_back_76 rfl ?_
            refine x_ixor C d_Mod_back_77 ?_
            exact x_wk (kJ19 ((1 <<< ((s14 82 12) &&& 31)) ^^^ (-1)) hw) (And.intro rfl (And.intro rfl (trivial)))
          · have hw := hw.2 c20
            refine x_iconst (v := (-1)) C d_Mod_back_66 rfl ?_
            refine x_goto (tgt := 78) C d_Mod_back_67 (by decide) ?_
            exact x_wk (kJ19 (-1) hw) (And.intro rfl (And.intro rfl (trivial)))
      · have hw := hw.2 c16
        refine x_aload_n C d_Mod_back_36 rfl ?_
        refine g_Mod_12 (p := 82) C rfl fl_Mod_142 d_Mod_back_37 ?_
        refine x_goto (tgt := 86) C d_Mod_back_40 (by decide) ?_
        exact x_ireturn C d_Mod_back_86 ⟨_, rfl, hw⟩
    · have hw := hw.2 c15
      refine x_aload_n C d_Mod_back_24 rfl ?_
      refine g_Mod_11 (p := 82) C rfl fl_Mod_139 d_Mod_back_25 ?_
      refine x_goto (tgt := 86) C d_Mod_back_28 (by decide) ?_
      exact x_ireturn C d_Mod_back_86 ⟨_, rfl, hw⟩
  · have hw := hw.2 c12
    refine x_iconst (v := (-1)) C d_Mod_back_9 rfl ?_
    exact x_ireturn C d_Mod_back_10 ⟨_, rfl, hw⟩
def vc_Mod_help (x1 : Int32) (s : St) (Q : Int32 → St → Prop) : Prop :=
    vc_Mod_isBody x1 s (fun b10 => ((¬ (bi b10) = 0 → (∀ s13 : St, s13 = wr s 82 7 0 → vc_Mod_lines  s13 (fun s14 => vc_Mod_placeOf x1 s14 (fun x15 => vc_Mod_pulled 0 x15 s14 (fun x17 => (∃ J20 : Int32 → Prop, (∀ (x19 : Int32), J20 x19 → Q (x17 + x19) s14) ∧ (((s14 82 18) ≤ (x15 + 1) → J20 0) ∧ (¬ (s14 82 18) ≤ (x15 + 1) → (vp_in (x15 + 1) 6 ∧ vc_Mod_of (s14 87 (Int32.toNatClampNeg (x15 + 1))) 3 s14 (fun x23 => J20 (x23 / 3))))))))))) ∧ ((bi b10) = 0 → Q (-1) s)))
def rm_Mod_help : Room := { frames := 3, cells := 0, slots := 0, locals := 67 }
set_option maxHeartbeats 4000000 in
set_option maxRecDepth 20000 in
theorem m_Mod_help (g : Gx) (hg : gOk g) (x1 : Int32)  (s : St) (Q : Int32 → St → Prop) (hw : vc_Mod_help x1 s Q) : Mc g y_Mod_help b_Mod_help 3 (some FieldType.int) rm_Mod_help [.ref (ga g 82), .int x1] s (fun v s' => ∃ r : Int32, v = some (.int r) ∧ Q r s') := by
  refine mc_ofV (j := 1) (L := [some (.ref (ga g 82)), some (.int x1), none]) hg (by decide) (Nat.le_of_ble_eq_true rfl) rfl ?_
  intro X hX C
  subst hX
  unfold vc_Mod_help at hw
  refine x_aload_n C d_Mod_help_0 rfl ?_
  refine x_iload_n C d_Mod_help_1 rfl ?_
  refine x_callV (As := [.int x1]) (rest := []) (p := 82) C (m_Mod_isBody (xg X) C.2.2.2.2.2.2.1 x1 s _ hw) cw_Mod_isBody ml_Mod_179 rfl (by decide) (by decide) rfl rfl rfl ⟨rfl, rfl, Nat.le_of_ble_eq_true rfl, Nat.le_of_ble_eq_true rfl⟩ ⟨Nat.zero_le _, Nat.zero_le _⟩ rfl (Nat.le_of_ble_eq_true rfl) d_Mod_help_2 ?_
  rintro _ _ ⟨b10, rfl, rfl, hw⟩
  show V X _ _ _ _ 5 [some (.ref (xa X 82)), some (.int x1), none] [.int (bi b10)]
  refine x_if_ne (tgt := 10) C d_Mod_help_5 (by decide) (fun c12 => ?_) (fun c12 => ?_)
  · have hw := hw.1 c12
    refine x_aload_n C d_Mod_help_10 rfl ?_
    refine x_iconst (v := 0) C d_Mod_help_11 rfl ?_
    refine p_Mod_7 (p := 82) C rfl fl_Mod_112 d_Mod_help_12 ?_
    refine x_st (fun s13 hs13 => ?_)
    have hw := hw s13 hs13
    refine x_aload_n C d_Mod_help_15 rfl ?_
    refine x_callV (As := []) (rest := []) (p := 82) C (m_Mod_lines (xg X) C.2.2.2.2.2.2.1  s13 _ hw) cw_Mod_lines ml_Mod_115 rfl (by decide) (by decide) rfl rfl rfl ⟨rfl, rfl, Nat.le_of_ble_eq_true rfl, Nat.le_of_ble_eq_true rfl⟩ ⟨Nat.zero_le _, Nat.zero_le _⟩ rfl (Nat.le_of_ble_eq_true rfl) d_Mod_help_16 ?_
    rintro _ s14 ⟨rfl, hw⟩
    show V X _ _ _ _ 19 [some (.ref (xa X 82)), some (.int x1), none] []
    refine x_aload_n C d_Mod_help_19 rfl ?_
    refine x_iload_n C d_Mod_help_20 rfl ?_
    refine x_callV (As := [.int x1]) (rest := []) (p := 82) C (m_Mod_placeOf (xg X) C.2.2.2.2.2.2.1 x1 s14 _ hw) cw_Mod_placeOf ml_Mod_172 rfl (by decide) (by decide) rfl rfl rfl ⟨rfl, rfl, Nat.le_of_ble_eq_true rfl, Nat.le_of_ble_eq_true rfl⟩ ⟨Nat.zero_le _, Nat.zero_le _⟩ rfl (Nat.le_of_ble_eq_true rfl) d_Mod_help_21 ?_
    rintro _ _ ⟨x15, rfl, rfl, hw⟩
    show V X _ _ _ _ 24 [some (.ref (xa X 82)), some (.int x1), none] [.int x15]
    refine x_istore_n (L' := [some (.ref (xa X 82)), some (.int x1), some (.int x15)]) C d_Mod_help_24 (Nat.le_of_ble_eq_true rfl) rfl ?_
    refine x_aload_n C d_Mod_help_25 rfl ?_
    refine x_iconst (v := 0) C d_Mod_help_26 rfl ?_
    refine x_iload_n C d_Mod_help_27 rfl ?_
    refine x_callV (As := [.int 0, .int x15]) (rest := []) (p := 82) C (m_Mod_pulled (xg X) C.2.2.2.2.2.2.1 0 x15 s14 _ hw) cw_Mod_pulled ml_Mod_127 rfl (by decide) (by decide) rfl rfl rfl ⟨rfl, rfl, Nat.le_of_ble_eq_true rfl, Nat.le_of_ble_eq_true rfl⟩ ⟨Nat.zero_le _, Nat.zero_le _⟩ rfl (Nat.le_of_ble_eq_true rfl) d_Mod_help_28 ?_
    rintro _ _ ⟨x17, rfl, rfl, hw⟩
    show V X _ _ _ _ 31 [some (.ref (xa X 82)), some (.int x1), some (.int x15)] [.int x17]
    refine x_iload_n C d_Mod_help_31 rfl ?_
    refine x_iconst (v := 1) C d_Mod_help_32 rfl ?_
    refine x_iadd C d_Mod_help_33 ?_
    refine x_aload_n C d_Mod_help_34 rfl ?_
    refine g_Mod_18 (p := 82) C rfl fl_Mod_109 d_Mod_help_35 ?_
    obtain ⟨J20, hJ20, hw⟩ := hw
    have kJ20 : ∀ (x19 : Int32), J20 x19 → V X (xQ X (fun v s' => ∃ r : Int32, v = some (.int r) ∧ Q r s')) 0 0 s14 60 [some (.ref (xa X 82)), some (.int x1), some (.int x15)] [.int x19, .int x17] := by
      intro x19 hv
      have hw := hJ20 x19 hv
      refine x_iadd C d_Mod_help_60 ?_
      exact x_ireturn C d_Mod_help_61 ⟨_, rfl, hw⟩
    refine x_icmp_ge (tgt := 59) C d_Mod_help_38 (by decide) (fun c21 => ?_) (fun c21 => ?_)
    · have hw := hw.1 c21
      refine x_iconst (v := 0) C d_Mod_help_59 rfl ?_
      exact x_wk (kJ20 0 hw) (And.intro rfl (And.intro rfl (And.intro rfl (trivial))))
    · have hw := hw.2 c21
      refine x_aload_n C d_Mod_help_41 rfl ?_
      refine x_aload_n C d_Mod_help_42 rfl ?_
      refine g_Mod_17 (p := 82) C rfl fl_Mod_22 d_Mod_help_43 ?_
      refine x_iload_n C d_Mod_help_46 rfl ?_
      refine x_iconst (v := 1) C d_Mod_help_47 rfl ?_
      refine x_iadd C d_Mod_help_48 ?_
      obtain ⟨h22, hw⟩ := hw
      refine x_iald (p := 87) (n := 6) C rfl h22 d_Mod_help_49 ?_
      refine x_iconst (v := 3) C d_Mod_help_50 rfl ?_
      refine x_callV (As := [.int (s14 87 (Int32.toNatClampNeg (x15 + 1))), .int 3]) (rest := [.int x17]) (p := 82) C (m_Mod_of (xg X) C.2.2.2.2.2.2.1 (s14 87 (Int32.toNatClampNeg (x15 + 1))) 3 s14 _ hw) cw_Mod_of ml_Mod_73 rfl (by decide) (by decide) rfl rfl rfl ⟨rfl, rfl, Nat.le_of_ble_eq_true rfl, Nat.le_of_ble_eq_true rfl⟩ ⟨Nat.zero_le _, Nat.zero_le _⟩ rfl (Nat.le_of_ble_eq_true rfl) d_Mod_help_51 ?_
      rintro _ _ ⟨x23, rfl, rfl, hw⟩
      show V X _ _ _ _ 54 [some (.ref (xa X 82)), some (.int x1), some (.int x15)] [.int x23, .int x17]
      refine x_iconst (v := 3) C d_Mod_help_54 rfl ?_
      refine x_idiv C d_Mod_help_55 (by decide) ?_
      refine x_goto (tgt := 60) C d_Mod_help_56 (by decide) ?_
      exact x_wk (kJ20 (x23 / 3) hw) (And.intro rfl (And.intro rfl (And.intro rfl (trivial))))
  · have hw := hw.2 c12
    refine x_iconst (v := (-1)) C d_Mod_help_8 rfl ?_
    exact x_ireturn C d_Mod_help_9 ⟨_, rfl, hw⟩
def vc_Mod_eachOrder : Nat → Int32 → Int32 → St → (St → Prop) → Prop
  | 0, _, _, _, _ => False
  | d + 1, x1, x2, s, Q =>
    ((¬ x2 = 0 → (∃ I13 : Nat → Int32 → St → Prop, (∃ n14, I13 n14 0 s) ∧ ∀ (nI13 : Nat) (x11 : Int32) (s12 : St), I13 nI13 x11 s12 → (vp_in 1 78 ∧ (((s12 83 (Int32.toNatClampNeg 1)) ≤ x11 → Q s12) ∧ (¬ (s12 83 (Int32.toNatClampNeg 1)) ≤ x11 → (∃ J18 : St → Prop, (∀ (s17 : St), J18 s17 → (∀ x19 : Int32, x19 = x11 + 1 → ∃ m20, m20 < nI13 ∧ I13 m20 x19 s17)) ∧ ((¬ ((x2 >>> (x11 &&& 31)) &&& 1) = 0 → (vp_in (72 + x1) 78 ∧ (∀ s23 : St, s23 = wr s12 83 (Int32.toNatClampNeg (72 + x1)) x11 → vc_Mod_eachOrder d (x1 + 1) (x2 &&& ((1 <<< (x11 &&& 31)) ^^^ (-1))) s23 (fun s24 => J18 s24)))) ∧ (((x2 >>> (x11 &&& 31)) &&& 1) = 0 → J18 s12)))))))) ∧ (x2 = 0 → vc_Mod_goesThereAndBack  s (fun s25 => vc_Mod_bits (s25 82 11) (fun x26 => ((x26 < (s25 82 23) → Q s25) ∧ (¬ x26 < (s25 82 23) → (∃ J29 : Prop, (J29 → (∀ s30 : St, s30 = wr s25 82 23 x26 → (∀ s31 : St, s31 = wr s30 82 24 (s30 82 15) → (∃ I34 : Nat → Int32 → St → Prop, (∃ n35, I34 n35 0 s31) ∧ ∀ (nI34 : Nat) (x32 : Int32) (s33 : St), I34 nI34 x32 s33 → ((6 ≤ x32 → Q s33) ∧ (¬ 6 ≤ x32 → (vp_in (72 + x32) 78 ∧ (vp_in x32 6 ∧ (∀ s39 : St, s39 = wr s33 89 (Int32.toNatClampNeg x32) (s33 83 (Int32.toNatClampNeg (72 + x32))) → (∀ x40 : Int32, x40 = x32 + 1 → ∃ m41, m41 < nI34 ∧ I34 m41 x40 s39)))))))))) ∧ ((¬ x26 = (s25 82 23) → J29) ∧ (x26 = (s25 82 23) → (((s25 82 15) < (s25 82 24) → J29) ∧ (¬ (s25 82 15) < (s25 82 24) → Q s25)))))))))))
def rm_Mod_eachOrder (d : Nat) : Room := { frames := 8 + d, cells := 0, slots := 0, locals := 185 + d * 24 }
set_option maxHeartbeats 4000000 in
set_option maxRecDepth 20000 in
theorem m_Mod_eachOrder (g : Gx) (hg : gOk g) : ∀ (d : Nat) (x1 : Int32) (x2 : Int32)  (s : St) (Q : St → Prop) (hw : vc_Mod_eachOrder d x1 x2 s Q), Mc g y_Mod_eachOrder b_Mod_eachOrder 5 (none) (rm_Mod_eachOrder d) [.ref (ga g 82), .int x1, .int x2] s (fun v s' => v = none ∧ Q s')
  | 0, x1, x2, s, Q, hw => hw.elim
  | d + 1, x1, x2, s, Q, hw => by
    refine mc_ofV (j := 2) (L := [some (.ref (ga g 82)), some (.int x1), some (.int x2), none, none]) hg (by decide) (Nat.le_of_ble_eq_true rfl) rfl ?_
    intro X hX C
    subst hX
    simp only [vc_Mod_eachOrder] at hw
    refine x_iload_n C d_Mod_eachOrder_0 rfl ?_
    refine x_if_ne (tgt := 91) C d_Mod_eachOrder_1 (by decide) (fun c10 => ?_) (fun c10 => ?_)
    · have hw := hw.1 c10
      refine x_iconst (v := 0) C d_Mod_eachOrder_91 rfl ?_
      refine x_istore_n (L' := [some (.ref (xa X 82)), some (.int x1), some (.int x2), some (.int 0), none]) C d_Mod_eachOrder_92 (Nat.le_of_ble_eq_true rfl) rfl ?_
      obtain ⟨I13, ⟨n14, hn14⟩, hI13⟩ := hw
      have lI13 : ∀ (nI13 : Nat) (x11 : Int32) (s12 : St), I13 nI13 x11 s12 → V X (xQ X (fun v s' => v = none ∧ Q s')) 0 0 s12 93 [some (.ref (xa X 82)), some (.int x1), some (.int x2), some (.int x11), none] [] := by
        intro nI13
        induction nI13 using Nat.strongRecOn with
        | ind nI13 ihI13 =>
          intro x11 s12 hv
          have hw := hI13 nI13 x11 s12 hv
          refine x_iload_n C d_Mod_eachOrder_93 rfl ?_
          refine x_aload_n C d_Mod_eachOrder_94 rfl ?_
          refine g_Mod_0 (p := 82) C rfl fl_Mod_9 d_Mod_eachOrder_95 ?_
          refine x_iconst (v := 1) C d_Mod_eachOrder_98 rfl ?_
          obtain ⟨h15, hw⟩ := hw
          refine x_iald (p := 83) (n := 78) C rfl h15 d_Mod_eachOrder_99 ?_
          refine x_icmp_ge (tgt := 144) C d_Mod_eachOrder_100 (by decide) (fun c16 => ?_) (fun c16 => ?_)
          · have hw := hw.1 c16
            exact x_return C d_Mod_eachOrder_144 ⟨rfl, hw⟩
          · have hw := hw.2 c16
            refine x_iload_n C d_Mod_eachOrder_103 rfl ?_
            refine x_iload_n C d_Mod_eachOrder_104 rfl ?_
            refine x_ishr C d_Mod_eachOrder_105 ?_
            refine x_iconst (v := 1) C d_Mod_eachOrder_106 rfl ?_
            refine x_iand C d_Mod_eachOrder_107 ?_
            obtain ⟨J18, hJ18, hw⟩ := hw
            have kJ18 : ∀ (s17 : St), J18 s17 → V X (xQ X (fun v s' => v = none ∧ Q s')) 0 0 s17 138 [some (.ref (xa X 82)), some (.int x1), some (.int x2), some (.int x11), none] [] := by
              intro s17 hv
              have hw := hJ18 s17 hv
              obtain ⟨x19, hx19⟩ : ∃ z : Int32, z = x11 + 1 := ⟨_, rfl⟩
              refine x_iinc (v := x19) (L' := [some (.ref (xa X 82)), some (.int x1), some (.int x2), some (.int x19), none]) C d_Mod_eachOrder_138 (Nat.le_of_ble_eq_true rfl) rfl (by rw [hx19]; rfl) rfl ?_
              have hw := hw x19 hx19
              refine x_goto (tgt := 93) C d_Mod_eachOrder_141 (by decide) ?_
              obtain ⟨m20, hm20, hw⟩ := hw
              exact x_wk (ihI13 m20 hm20 x19 s17 hw) (And.intro rfl (And.intro rfl (And.intro rfl (And.intro rfl (trivial)))))
            refine x_if_ne (tgt := 114) C d_Mod_eachOrder_108 (by decide) (fun c21 => ?_) (fun c21 => ?_)
            · have hw := hw.1 c21
              refine x_aload_n C d_Mod_eachOrder_114 rfl ?_
              refine g_Mod_0 (p := 82) C rfl fl_Mod_9 d_Mod_eachOrder_115 ?_
              refine x_bipush (v := 72) C d_Mod_eachOrder_118 rfl ?_
              refine x_iload_n C d_Mod_eachOrder_120 rfl ?_
              refine x_iadd C d_Mod_eachOrder_121 ?_
              refine x_iload_n C d_Mod_eachOrder_122 rfl ?_
              obtain ⟨h22, hw⟩ := hw
              refine x_iast (p := 83) (n := 78) C rfl h22 d_Mod_eachOrder_123 ?_
              refine x_st (fun s23 hs23 => ?_)
              have hw := hw s23 hs23
              refine x_aload_n C d_Mod_eachOrder_124 rfl ?_
              refine x_iload_n C d_Mod_eachOrder_125 rfl ?_
              refine x_iconst (v := 1) C d_Mod_eachOrder_126 rfl ?_
              refine x_iadd C d_Mod_eachOrder_127 ?_
              refine x_iload_n C d_Mod_eachOrder_128 rfl ?_
              refine x_iconst (v := 1) C d_Mod_eachOrder_129 rfl ?_
              refine x_iload_n C d_Mod_eachOrder_130 rfl ?_
              refine x_ishl C d_Mod_eachOrder_131 ?_
              refine x_iconst (v := (-1)) C d_Mod_eachOrder_132 rfl ?_
              refine x_ixor C d_Mod_eachOrder_133 ?_
              refine x_iand C d_Mod_eachOrder_134 ?_
              refine x_callV (As := [.int (x1 + 1), .int (x2 &&& ((1 <<< (x11 &&& 31)) ^^^ (-1)))]) (rest := []) (p := 82) C (m_Mod_eachOrder (xg X) C.2.2.2.2.2.2.1 d (x1 + 1) (x2 &&& ((1 <<< (x11 &&& 31)) ^^^ (-1))) s23 _ hw) cw_Mod_eachOrder ml_Mod_223 rfl (by decide) (by decide) rfl rfl rfl ⟨rfl, rfl, by simp only [rm_Mod_eachOrder, rm_Mod_eachOrder] <;> omega, by simp only [rm_Mod_eachOrder, rm_Mod_eachOrder] <;> omega⟩ ⟨Nat.zero_le _, Nat.zero_le _⟩ rfl (Nat.le_of_ble_eq_true rfl) d_Mod_eachOrder_135 ?_
              rintro _ s24 ⟨rfl, hw⟩
              show V X _ _ _ _ 138 [some (.ref (xa X 82)), some (.int x1), some (.int x2), some (.int x11), none] []
              exact x_wk (kJ18 s24 hw) (And.intro rfl (And.intro rfl (And.intro rfl (And.intro rfl (trivial)))))
            · have hw := hw.2 c21
              refine x_goto (tgt := 138) C d_Mod_eachOrder_111 (by decide) ?_
              exact x_wk (kJ18 s12 hw) (And.intro rfl (And.intro rfl (And.intro rfl (And.intro rfl (trivial)))))
      exact x_wk (lI13 n14 0 s hn14) (And.intro rfl (And.intro rfl (And.intro rfl (And.intro rfl (trivial)))))
    · have hw := hw.2 c10
      refine x_aload_n C d_Mod_eachOrder_4 rfl ?_
      refine x_callV (As := []) (rest := []) (p := 82) C (m_Mod_goesThereAndBack (xg X) C.2.2.2.2.2.2.1  s _ hw) cw_Mod_goesThereAndBack ml_Mod_148 rfl (by decide) (by decide) rfl rfl rfl ⟨rfl, rfl, by simp only [rm_Mod_eachOrder, rm_Mod_goesThereAndBack] <;> omega, by simp only [rm_Mod_eachOrder, rm_Mod_goesThereAndBack] <;> omega⟩ ⟨Nat.zero_le _, Nat.zero_le _⟩ rfl (Nat.le_of_ble_eq_true rfl) d_Mod_eachOrder_5 ?_
      rintro _ s25 ⟨rfl, hw⟩
      show V X _ _ _ _ 8 [some (.ref (xa X 82)), some (.int x1), some (.int x2), none, none] []
      refine x_aload_n C d_Mod_eachOrder_8 rfl ?_
      refine g_Mod_11 (p := 82) C rfl fl_Mod_139 d_Mod_eachOrder_9 ?_
      refine x_callS (As := [.int (s25 82 11)]) (rest := []) C (m_Mod_bits (xg X) C.2.2.2.2.2.2.1 (s25 82 11) s25 _ hw) cw_Mod_bits ml_Mod_151 rfl ⟨rfl, rfl, by simp only [rm_Mod_eachOrder, rm_Mod_bits] <;> omega, by simp only [rm_Mod_eachOrder, rm_Mod_bits] <;> omega⟩ ⟨Nat.zero_le _, Nat.zero_le _⟩ rfl (Nat.le_of_ble_eq_true rfl) d_Mod_eachOrder_12 ?_
      rintro _ _ ⟨x26, rfl, rfl, hw⟩
      show V X _ _ _ _ 15 [some (.ref (xa X 82)), some (.int x1), some (.int x2), none, none] [.int x26]
      refine x_istore_n (L' := [some (.ref (xa X 82)), some (.int x1), some (.int x2), some (.int x26), none]) C d_Mod_eachOrder_15 (Nat.le_of_ble_eq_true rfl) rfl ?_
      refine x_iload_n C d_Mod_eachOrder_16 rfl ?_
      refine x_aload_n C d_Mod_eachOrder_17 rfl ?_
      refine g_Mod_23 (p := 82) C rfl fl_Mod_217 d_Mod_eachOrder_18 ?_
      refine x_icmp_lt (tgt := 43) C d_Mod_eachOrder_21 (by decide) (fun c28 => ?_) (fun c28 => ?_)
      · have hw := hw.1 c28
        exact x_return C d_Mod_eachOrder_43 ⟨rfl, hw⟩
      · have hw := hw.2 c28
        refine x_iload_n C d_Mod_eachOrder_24 rfl ?_
        refine x_aload_n C d_Mod_eachOrder_25 rfl ?_
        refine g_Mod_23 (p := 82) C rfl fl_Mod_217 d_Mod_eachOrder_26 ?_
        obtain ⟨J29, hJ29, hw⟩ := hw
        have kJ29 : J29 → V X (xQ X (fun v s' => v = none ∧ Q s')) 0 0 s25 44 [some (.ref (xa X 82)), some (.int x1), some (.int x2), some (.int x26), none] [] := by
          intro  hv
          have hw := hJ29  hv
          refine x_aload_n C d_Mod_eachOrder_44 rfl ?_
          refine x_iload_n C d_Mod_eachOrder_45 rfl ?_
          refine p_Mod_23 (p := 82) C rfl fl_Mod_217 d_Mod_eachOrder_46 ?_
          refine x_st (fun s30 hs30 => ?_)
          have hw := hw s30 hs30
          refine x_aload_n C d_Mod_eachOrder_49 rfl ?_
          refine x_aload_n C d_Mod_eachOrder_50 rfl ?_
          refine g_Mod_15 (p := 82) C rfl fl_Mod_145 d_Mod_eachOrder_51 ?_
          refine p_Mod_24 (p := 82) C rfl fl_Mod_220 d_Mod_eachOrder_54 ?_
          refine x_st (fun s31 hs31 => ?_)
          have hw := hw s31 hs31
          refine x_iconst (v := 0) C d_Mod_eachOrder_57 rfl ?_
          refine x_istore (L' := [some (.ref (xa X 82)), some (.int x1), some (.int x2), some (.int x26), some (.int 0)]) C d_Mod_eachOrder_58 (Nat.le_of_ble_eq_true rfl) rfl ?_
          obtain ⟨I34, ⟨n35, hn35⟩, hI34⟩ := hw
          have lI34 : ∀ (nI34 : Nat) (x32 : Int32) (s33 : St), I34 nI34 x32 s33 → V X (xQ X (fun v s' => v = none ∧ Q s')) 0 0 s33 60 [some (.ref (xa X 82)), some (.int x1), some (.int x2), some (.int x26), some (.int x32)] [] := by
            intro nI34
            induction nI34 using Nat.strongRecOn with
            | ind nI34 ihI34 =>
              intro x32 s33 hv
              have hw := hI34 nI34 x32 s33 hv
              refine x_iload C d_Mod_eachOrder_60 rfl ?_
              refine x_bipush (v := 6) C d_Mod_eachOrder_62 rfl ?_
              refine x_icmp_ge (tgt := 90) C d_Mod_eachOrder_64 (by decide) (fun c36 => ?_) (fun c36 => ?_)
              · have hw := hw.1 c36
                exact x_return C d_Mod_eachOrder_90 ⟨rfl, hw⟩
              · have hw := hw.2 c36
                refine x_aload_n C d_Mod_eachOrder_67 rfl ?_
                refine g_Mod_25 (p := 82) C rfl fl_Mod_28 d_Mod_eachOrder_68 ?_
                refine x_iload C d_Mod_eachOrder_71 rfl ?_
                refine x_aload_n C d_Mod_eachOrder_73 rfl ?_
                refine g_Mod_0 (p := 82) C rfl fl_Mod_9 d_Mod_eachOrder_74 ?_
                refine x_bipush (v := 72) C d_Mod_eachOrder_77 rfl ?_
                refine x_iload C d_Mod_eachOrder_79 rfl ?_
                refine x_iadd C d_Mod_eachOrder_81 ?_
                obtain ⟨h37, hw⟩ := hw
                refine x_iald (p := 83) (n := 78) C rfl h37 d_Mod_eachOrder_82 ?_
                obtain ⟨h38, hw⟩ := hw
                refine x_iast (p := 89) (n := 6) C rfl h38 d_Mod_eachOrder_83 ?_
                refine x_st (fun s39 hs39 => ?_)
                have hw := hw s39 hs39
                obtain ⟨x40, hx40⟩ : ∃ z : Int32, z = x32 + 1 := ⟨_, rfl⟩
                refine x_iinc (v := x40) (L' := [some (.ref (xa X 82)), some (.int x1), some (.int x2), some (.int x26), some (.int x40)]) C d_Mod_eachOrder_84 (Nat.le_of_ble_eq_true rfl) rfl (by rw [hx40]; rfl) rfl ?_
                have hw := hw x40 hx40
                refine x_goto (tgt := 60) C d_Mod_eachOrder_87 (by decide) ?_
                obtain ⟨m41, hm41, hw⟩ := hw
                exact x_wk (ihI34 m41 hm41 x40 s39 hw) (And.intro rfl (And.intro rfl (And.intro rfl (And.intro rfl (And.intro rfl (trivial))))))
          exact x_wk (lI34 n35 0 s31 hn35) (And.intro rfl (And.intro rfl (And.intro rfl (And.intro rfl (And.intro rfl (trivial))))))
        refine x_icmp_ne (tgt := 44) C d_Mod_eachOrder_29 (by decide) (fun c42 => ?_) (fun c42 => ?_)
        · have hw := hw.1 c42
          exact x_wk (kJ29  hw) (And.intro rfl (And.intro rfl (And.intro rfl (And.intro rfl (trivial)))))
        · have hw := hw.2 c42
          refine x_aload_n C d_Mod_eachOrder_32 rfl ?_
          refine g_Mod_15 (p := 82) C rfl fl_Mod_145 d_Mod_eachOrder_33 ?_
          refine x_aload_n C d_Mod_eachOrder_36 rfl ?_
          refine g_Mod_24 (p := 82) C rfl fl_Mod_220 d_Mod_eachOrder_37 ?_
          refine x_icmp_lt (tgt := 44) C d_Mod_eachOrder_40 (by decide) (fun c43 => ?_) (fun c43 => ?_)
          · have hw := hw.1 c43
            exact x_wk (kJ29  hw) (And.intro rfl (And.intro rfl (And.intro rfl (And.intro rfl (trivial)))))
          · have hw := hw.2 c43
            exact x_return C d_Mod_eachOrder_43 ⟨rfl, hw⟩
def vc_Mod_order (x1 : Int32) (s : St) (Q : Int32 → St → Prop) : Prop :=
    (((-1) ≤ x1 → vc_Mod_copies 83 78 85 78 s (fun s11 => (∀ s12 : St, s12 = wr s11 82 7 0 → (∀ s13 : St, s13 = wr s12 82 23 (-1) → (∀ s14 : St, s14 = wr s13 82 24 1000000000 → (vp_in 1 78 ∧ vc_Mod_eachOrder 8 0 ((1 <<< ((s14 83 (Int32.toNatClampNeg 1)) &&& 31)) - 1) s14 (fun s16 => vc_Mod_copies 85 78 83 78 s16 (fun s17 => ((0 ≤ x1 → (vp_in 1 78 ∧ (((s17 83 (Int32.toNatClampNeg 1)) ≤ x1 → Q (-4) s17) ∧ (¬ (s17 83 (Int32.toNatClampNeg 1)) ≤ x1 → (vp_in x1 6 ∧ Q (s17 89 (Int32.toNatClampNeg x1)) s17))))) ∧ (¬ 0 ≤ x1 → Q (s17 82 23) s17)))))))))) ∧ (¬ (-1) ≤ x1 → Q (-1) s))
def rm_Mod_order : Room := { frames := 17, cells := 0, slots := 0, locals := 401 }
set_option maxHeartbeats 4000000 in
set_option maxRecDepth 20000 in
theorem m_Mod_order (g : Gx) (hg : gOk g) (x1 : Int32)  (s : St) (Q : Int32 → St → Prop) (hw : vc_Mod_order x1 s Q) : Mc g y_Mod_order b_Mod_order 2 (some FieldType.int) rm_Mod_order [.ref (ga g 82), .int x1] s (fun v s' => ∃ r : Int32, v = some (.int r) ∧ Q r s') := by
  refine mc_ofV (j := 0) (L := [some (.ref (ga g 82)), some (.int x1)]) hg (by decide) (Nat.le_of_ble_eq_true rfl) rfl ?_
  intro X hX C
  subst hX
  unfold vc_Mod_order at hw
  refine x_iload_n C d_Mod_order_0 rfl ?_
  refine x_iconst (v := (-1)) C d_Mod_order_1 rfl ?_
  refine x_icmp_ge (tgt := 7) C d_Mod_order_2 (by decide) (fun c10 => ?_) (fun c10 => ?_)
  · have hw := hw.1 c10
    refine x_aload_n C d_Mod_order_7 rfl ?_
    refine g_Mod_0 (p := 82) C rfl fl_Mod_9 d_Mod_order_8 ?_
    refine x_aload_n C d_Mod_order_11 rfl ?_
    refine g_Mod_2 (p := 82) C rfl fl_Mod_16 d_Mod_order_12 ?_
    refine x_callS (As := [.ref (xa X 83), .ref (xa X 85)]) (rest := []) C (m_Mod_copies (xg X) C.2.2.2.2.2.2.1 83 78 85 78 rfl rfl s _ hw) cw_Mod_copies ml_Mod_193 rfl ⟨rfl, rfl, Nat.le_of_ble_eq_true rfl, Nat.le_of_ble_eq_true rfl⟩ ⟨Nat.zero_le _, Nat.zero_le _⟩ rfl (Nat.le_of_ble_eq_true rfl) d_Mod_order_15 ?_
    rintro _ s11 ⟨rfl, hw⟩
    show V X _ _ _ _ 18 [some (.ref (xa X 82)), some (.int x1)] []
    refine x_aload_n C d_Mod_order_18 rfl ?_
    refine x_iconst (v := 0) C d_Mod_order_19 rfl ?_
    refine p_Mod_7 (p := 82) C rfl fl_Mod_112 d_Mod_order_20 ?_
    refine x_st (fun s12 hs12 => ?_)
    have hw := hw s12 hs12
    refine x_aload_n C d_Mod_order_23 rfl ?_
    refine x_iconst (v := (-1)) C d_Mod_order_24 rfl ?_
    refine p_Mod_23 (p := 82) C rfl fl_Mod_217 d_Mod_order_25 ?_
    refine x_st (fun s13 hs13 => ?_)
    have hw := hw s13 hs13
    refine x_aload_n C d_Mod_order_28 rfl ?_
    refine x_ldc (v := 1000000000) C d_Mod_order_29 lc_Mod_216 ?_
    refine p_Mod_24 (p := 82) C rfl fl_Mod_220 d_Mod_order_31 ?_
    refine x_st (fun s14 hs14 => ?_)
    have hw := hw s14 hs14
    refine x_aload_n C d_Mod_order_34 rfl ?_
    refine x_iconst (v := 0) C d_Mod_order_35 rfl ?_
    refine x_iconst (v := 1) C d_Mod_order_36 rfl ?_
    refine x_aload_n C d_Mod_order_37 rfl ?_
    refine g_Mod_0 (p := 82) C rfl fl_Mod_9 d_Mod_order_38 ?_
    refine x_iconst (v := 1) C d_Mod_order_41 rfl ?_
    obtain ⟨h15, hw⟩ := hw
    refine x_iald (p := 83) (n := 78) C rfl h15 d_Mod_order_42 ?_
    refine x_ishl C d_Mod_order_43 ?_
    refine x_iconst (v := 1) C d_Mod_order_44 rfl ?_
    refine x_isub C d_Mod_order_45 ?_
    refine x_callV (As := [.int 0, .int ((1 <<< ((s14 83 (Int32.toNatClampNeg 1)) &&& 31)) - 1)]) (rest := []) (p := 82) C (m_Mod_eachOrder (xg X) C.2.2.2.2.2.2.1 8 0 ((1 <<< ((s14 83 (Int32.toNatClampNeg 1)) &&& 31)) - 1) s14 _ hw) cw_Mod_eachOrder ml_Mod_223 rfl (by decide) (by decide) rfl rfl rfl ⟨rfl, rfl, Nat.le_of_ble_eq_true rfl, Nat.le_of_ble_eq_true rfl⟩ ⟨Nat.zero_le _, Nat.zero_le _⟩ rfl (Nat.le_of_ble_eq_true rfl) d_Mod_order_46 ?_
    rintro _ s16 ⟨rfl, hw⟩
    show V X _ _ _ _ 49 [some (.ref (xa X 82)), some (.int x1)] []
    refine x_aload_n C d_Mod_order_49 rfl ?_
    refine g_Mod_2 (p := 82) C rfl fl_Mod_16 d_Mod_order_50 ?_
    refine x_aload_n C d_Mod_order_53 rfl ?_
    refine g_Mod_0 (p := 82) C rfl fl_Mod_9 d_Mod_order_54 ?_
    refine x_callS (As := [.ref (xa X 85), .ref (xa X 83)]) (rest := []) C (m_Mod_copies (xg X) C.2.2.2.2.2.2.1 85 78 83 78 rfl rfl s16 _ hw) cw_Mod_copies ml_Mod_193 rfl ⟨rfl, rfl, Nat.le_of_ble_eq_true rfl, Nat.le_of_ble_eq_true rfl⟩ ⟨Nat.zero_le _, Nat.zero_le _⟩ rfl (Nat.le_of_ble_eq_true rfl) d_Mod_order_57 ?_
    rintro _ s17 ⟨rfl, hw⟩
    show V X _ _ _ _ 60 [some (.ref (xa X 82)), some (.int x1)] []
    refine x_iload_n C d_Mod_order_60 rfl ?_
    refine x_if_ge (tgt := 71) C d_Mod_order_61 (by decide) (fun c18 => ?_) (fun c18 => ?_)
    · have hw := hw.1 c18
      refine x_iload_n C d_Mod_order_71 rfl ?_
      refine x_aload_n C d_Mod_order_72 rfl ?_
      refine g_Mod_0 (p := 82) C rfl fl_Mod_9 d_Mod_order_73 ?_
      refine x_iconst (v := 1) C d_Mod_order_76 rfl ?_
      obtain ⟨h19, hw⟩ := hw
      refine x_iald (p := 83) (n := 78) C rfl h19 d_Mod_order_77 ?_
      refine x_icmp_ge (tgt := 90) C d_Mod_order_78 (by decide) (fun c20 => ?_) (fun c20 => ?_)
      · have hw := hw.1 c20
        refine x_bipush (v := (-4)) C d_Mod_order_90 rfl ?_
        exact x_ireturn C d_Mod_order_92 ⟨_, rfl, hw⟩
      · have hw := hw.2 c20
        refine x_aload_n C d_Mod_order_81 rfl ?_
        refine g_Mod_25 (p := 82) C rfl fl_Mod_28 d_Mod_order_82 ?_
        refine x_iload_n C d_Mod_order_85 rfl ?_
        obtain ⟨h21, hw⟩ := hw
        refine x_iald (p := 89) (n := 6) C rfl h21 d_Mod_order_86 ?_
        refine x_goto (tgt := 92) C d_Mod_order_87 (by decide) ?_
        exact x_ireturn C d_Mod_order_92 ⟨_, rfl, hw⟩
    · have hw := hw.2 c18
      refine x_aload_n C d_Mod_order_64 rfl ?_
      refine g_Mod_23 (p := 82) C rfl fl_Mod_217 d_Mod_order_65 ?_
      refine x_goto (tgt := 92) C d_Mod_order_68 (by decide) ?_
      exact x_ireturn C d_Mod_order_92 ⟨_, rfl, hw⟩
  · have hw := hw.2 c10
    refine x_iconst (v := (-1)) C d_Mod_order_5 rfl ?_
    exact x_ireturn C d_Mod_order_6 ⟨_, rfl, hw⟩
def vc_Mod_stays  (s : St) (Q : Int32 → St → Prop) : Prop :=
    (∃ I13 : Nat → Int32 → Int32 → St → Prop, (∃ n14, I13 n14 (-4) 0 s) ∧ ∀ (nI13 : Nat) (x10 : Int32) (x11 : Int32) (s12 : St), I13 nI13 x10 x11 s12 → (vp_in 1 78 ∧ (((1 <<< ((s12 83 (Int32.toNatClampNeg 1)) &&& 31)) ≤ x11 → (∀ s17 : St, s17 = wr s12 82 7 0 → Q x10 s17)) ∧ (¬ (1 <<< ((s12 83 (Int32.toNatClampNeg 1)) &&& 31)) ≤ x11 → (∃ J20 : Int32 → St → Prop, (∀ (x18 : Int32) (s19 : St), J20 x18 s19 → (∀ x21 : Int32, x21 = x11 + 1 → ∃ m22, m22 < nI13 ∧ I13 m22 x18 x21 s19)) ∧ (∃ J23 : Prop, (J23 → (∀ s24 : St, s24 = wr s12 82 7 x11 → vc_Mod_areAllBack  s24 (fun b25 s26 => (((bi b25) = 0 → J20 x10 s26) ∧ (¬ (bi b25) = 0 → J20 x11 s26))))) ∧ ((x10 < 0 → J23) ∧ (¬ x10 < 0 → vc_Mod_bits x11 (fun x29 => vc_Mod_bits x10 (fun x31 => ((x29 < x31 → J23) ∧ (¬ x29 < x31 → J20 x10 s12))))))))))))
def rm_Mod_stays : Room := { frames := 9, cells := 0, slots := 0, locals := 205 }
set_option maxHeartbeats 4000000 in
set_option maxRecDepth 20000 in
theorem m_Mod_stays (g : Gx) (hg : gOk g)   (s : St) (Q : Int32 → St → Prop) (hw : vc_Mod_stays  s Q) : Mc g y_Mod_stays b_Mod_stays 3 (some FieldType.int) rm_Mod_stays [.ref (ga g 82)] s (fun v s' => ∃ r : Int32, v = some (.int r) ∧ Q r s') := by
  refine mc_ofV (j := 2) (L := [some (.ref (ga g 82)), none, none]) hg (by decide) (Nat.le_of_ble_eq_true rfl) rfl ?_
  intro X hX C
  subst hX
  unfold vc_Mod_stays at hw
  refine x_bipush (v := (-4)) C d_Mod_stays_0 rfl ?_
  refine x_istore_n (L' := [some (.ref (xa X 82)), some (.int (-4)), none]) C d_Mod_stays_2 (Nat.le_of_ble_eq_true rfl) rfl ?_
  refine x_iconst (v := 0) C d_Mod_stays_3 rfl ?_
  refine x_istore_n (L' := [some (.ref (xa X 82)), some (.int (-4)), some (.int 0)]) C d_Mod_stays_4 (Nat.le_of_ble_eq_true rfl) rfl ?_
  obtain ⟨I13, ⟨n14, hn14⟩, hI13⟩ := hw
  have lI13 : ∀ (nI13 : Nat) (x10 : Int32) (x11 : Int32) (s12 : St), I13 nI13 x10 x11 s12 → V X (xQ X (fun v s' => ∃ r : Int32, v = some (.int r) ∧ Q r s')) 0 0 s12 5 [some (.ref (xa X 82)), some (.int x10), some (.int x11)] [] := by
    intro nI13
    induction nI13 using Nat.strongRecOn with
    | ind nI13 ihI13 =>
      intro x10 x11 s12 hv
      have hw := hI13 nI13 x10 x11 s12 hv
      refine x_iload_n C d_Mod_stays_5 rfl ?_
      refine x_iconst (v := 1) C d_Mod_stays_6 rfl ?_
      refine x_aload_n C d_Mod_stays_7 rfl ?_
      refine g_Mod_0 (p := 82) C rfl fl_Mod_9 d_Mod_stays_8 ?_
      refine x_iconst (v := 1) C d_Mod_stays_11 rfl ?_
      obtain ⟨h15, hw⟩ := hw
      refine x_iald (p := 83) (n := 78) C rfl h15 d_Mod_stays_12 ?_
      refine x_ishl C d_Mod_stays_13 ?_
      refine x_icmp_ge (tgt := 55) C d_Mod_stays_14 (by decide) (fun c16 => ?_) (fun c16 => ?_)
      · have hw := hw.1 c16
        refine x_aload_n C d_Mod_stays_55 rfl ?_
        refine x_iconst (v := 0) C d_Mod_stays_56 rfl ?_
        refine p_Mod_7 (p := 82) C rfl fl_Mod_112 d_Mod_stays_57 ?_
        refine x_st (fun s17 hs17 => ?_)
        have hw := hw s17 hs17
        refine x_iload_n C d_Mod_stays_60 rfl ?_
        exact x_ireturn C d_Mod_stays_61 ⟨_, rfl, hw⟩
      · have hw := hw.2 c16
        refine x_iload_n C d_Mod_stays_17 rfl ?_
        obtain ⟨J20, hJ20, hw⟩ := hw
        have kJ20 : ∀ (x18 : Int32) (s19 : St), J20 x18 s19 → V X (xQ X (fun v s' => ∃ r : Int32, v = some (.int r) ∧ Q r s')) 0 0 s19 49 [some (.ref (xa X 82)), some (.int x18), some (.int x11)] [] := by
          intro x18 s19 hv
          have hw := hJ20 x18 s19 hv
          obtain ⟨x21, hx21⟩ : ∃ z : Int32, z = x11 + 1 := ⟨_, rfl⟩
          refine x_iinc (v := x21) (L' := [some (.ref (xa X 82)), some (.int x18), some (.int x21)]) C d_Mod_stays_49 (Nat.le_of_ble_eq_true rfl) rfl (by rw [hx21]; rfl) rfl ?_
          have hw := hw x21 hx21
          refine x_goto (tgt := 5) C d_Mod_stays_52 (by decide) ?_
          obtain ⟨m22, hm22, hw⟩ := hw
          exact x_wk (ihI13 m22 hm22 x18 x21 s19 hw) (And.intro rfl (And.intro rfl (And.intro rfl (trivial))))
        obtain ⟨J23, hJ23, hw⟩ := hw
        have kJ23 : J23 → V X (xQ X (fun v s' => ∃ r : Int32, v = some (.int r) ∧ Q r s')) 0 0 s12 35 [some (.ref (xa X 82)), some (.int x10), some (.int x11)] [] := by
          intro  hv
          have hw := hJ23  hv
          refine x_aload_n C d_Mod_stays_35 rfl ?_
          refine x_iload_n C d_Mod_stays_36 rfl ?_
          refine p_Mod_7 (p := 82) C rfl fl_Mod_112 d_Mod_stays_37 ?_
          refine x_st (fun s24 hs24 => ?_)
          have hw := hw s24 hs24
          refine x_aload_n C d_Mod_stays_40 rfl ?_
          refine x_callV (As := []) (rest := []) (p := 82) C (m_Mod_areAllBack (xg X) C.2.2.2.2.2.2.1  s24 _ hw) cw_Mod_areAllBack ml_Mod_226 rfl (by decide) (by decide) rfl rfl rfl ⟨rfl, rfl, Nat.le_of_ble_eq_true rfl, Nat.le_of_ble_eq_true rfl⟩ ⟨Nat.zero_le _, Nat.zero_le _⟩ rfl (Nat.le_of_ble_eq_true rfl) d_Mod_stays_41 ?_
          rintro _ s26 ⟨b25, rfl, hw⟩
          show V X _ _ _ _ 44 [some (.ref (xa X 82)), some (.int x10), some (.int x11)] [.int (bi b25)]
          refine x_if_eq (tgt := 49) C d_Mod_stays_44 (by decide) (fun c27 => ?_) (fun c27 => ?_)
          · have hw := hw.1 c27
            exact x_wk (kJ20 x10 s26 hw) (And.intro rfl (And.intro rfl (And.intro rfl (trivial))))
          · have hw := hw.2 c27
            refine x_iload_n C d_Mod_stays_47 rfl ?_
            refine x_istore_n (L' := [some (.ref (xa X 82)), some (.int x11), some (.int x11)]) C d_Mod_stays_48 (Nat.le_of_ble_eq_true rfl) rfl ?_
            exact x_wk (kJ20 x11 s26 hw) (And.intro rfl (And.intro rfl (And.intro rfl (trivial))))
        refine x_if_lt (tgt := 35) C d_Mod_stays_18 (by decide) (fun c28 => ?_) (fun c28 => ?_)
        · have hw := hw.1 c28
          exact x_wk (kJ23  hw) (And.intro rfl (And.intro rfl (And.intro rfl (trivial))))
        · have hw := hw.2 c28
          refine x_iload_n C d_Mod_stays_21 rfl ?_
          refine x_callS (As := [.int x11]) (rest := []) C (m_Mod_bits (xg X) C.2.2.2.2.2.2.1 x11 s12 _ hw) cw_Mod_bits ml_Mod_151 rfl ⟨rfl, rfl, Nat.le_of_ble_eq_true rfl, Nat.le_of_ble_eq_true rfl⟩ ⟨Nat.zero_le _, Nat.zero_le _⟩ rfl (Nat.le_of_ble_eq_true rfl) d_Mod_stays_22 ?_
          rintro _ _ ⟨x29, rfl, rfl, hw⟩
          show V X _ _ _ _ 25 [some (.ref (xa X 82)), some (.int x10), some (.int x11)] [.int x29]
          refine x_iload_n C d_Mod_stays_25 rfl ?_
          refine x_callS (As := [.int x10]) (rest := [.int x29]) C (m_Mod_bits (xg X) C.2.2.2.2.2.2.1 x10 s12 _ hw) cw_Mod_bits ml_Mod_151 rfl ⟨rfl, rfl, Nat.le_of_ble_eq_true rfl, Nat.le_of_ble_eq_true rfl⟩ ⟨Nat.zero_le _, Nat.zero_le _⟩ rfl (Nat.le_of_ble_eq_true rfl) d_Mod_stays_26 ?_
          rintro _ _ ⟨x31, rfl, rfl, hw⟩
          show V X _ _ _ _ 29 [some (.ref (xa X 82)), some (.int x10), some (.int x11)] [.int x31, .int x29]
          refine x_icmp_lt (tgt := 35) C d_Mod_stays_29 (by decide) (fun c33 => ?_) (fun c33 => ?_)
          · have hw := hw.1 c33
            exact x_wk (kJ23  hw) (And.intro rfl (And.intro rfl (And.intro rfl (trivial))))
          · have hw := hw.2 c33
            refine x_goto (tgt := 49) C d_Mod_stays_32 (by decide) ?_
            exact x_wk (kJ20 x10 s12 hw) (And.intro rfl (And.intro rfl (And.intro rfl (trivial))))
  exact x_wk (lI13 n14 (-4) 0 s hn14) (And.intro rfl (And.intro rfl (And.intro rfl (trivial))))
