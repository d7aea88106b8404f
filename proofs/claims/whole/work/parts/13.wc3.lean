theorem d_Brt_makes_0 : decode b_Brt_makes 0 = .ok (.aload_n 0, 1) := by decide +kernel
theorem d_Brt_makes_1 : decode b_Brt_makes 1 = .ok (.getfield 10, 3) := by decide +kernel
theorem d_Brt_makes_4 : decode b_Brt_makes 4 = .ok (.getfield 127, 3) := by decide +kernel
theorem d_Brt_makes_7 : decode b_Brt_makes 7 = .ok (.iload_n 1, 1) := by decide +kernel
theorem d_Brt_makes_8 : decode b_Brt_makes 8 = .ok (.iload_n 2, 1) := by decide +kernel
theorem d_Brt_makes_9 : decode b_Brt_makes 9 = .ok (.invokevirtual 169, 3) := by decide +kernel
theorem d_Brt_makes_12 : decode b_Brt_makes 12 = .ok (.istore 4, 2) := by decide +kernel
theorem d_Brt_makes_14 : decode b_Brt_makes 14 = .ok (.aload_n 0, 1) := by decide +kernel
theorem d_Brt_makes_15 : decode b_Brt_makes 15 = .ok (.getfield 10, 3) := by decide +kernel
theorem d_Brt_makes_18 : decode b_Brt_makes 18 = .ok (.getfield 127, 3) := by decide +kernel
theorem d_Brt_makes_21 : decode b_Brt_makes 21 = .ok (.iload_n 1, 1) := by decide +kernel
theorem d_Brt_makes_22 : decode b_Brt_makes 22 = .ok (.iload_n 2, 1) := by decide +kernel
theorem d_Brt_makes_23 : decode b_Brt_makes 23 = .ok (.iload_n 3, 1) := by decide +kernel
theorem d_Brt_makes_24 : decode b_Brt_makes 24 = .ok (.invokevirtual 172, 3) := by decide +kernel
theorem d_Brt_makes_27 : decode b_Brt_makes 27 = .ok (.ifCond .ne 5, 3) := by decide +kernel
theorem d_Brt_makes_30 : decode b_Brt_makes 30 = .ok (.iconst (-1), 1) := by decide +kernel
theorem d_Brt_makes_31 : decode b_Brt_makes 31 = .ok (.ireturn, 1) := by decide +kernel
theorem d_Brt_makes_32 : decode b_Brt_makes 32 = .ok (.aload_n 0, 1) := by decide +kernel
theorem d_Brt_makes_33 : decode b_Brt_makes 33 = .ok (.getfield 32, 3) := by decide +kernel
theorem d_Brt_makes_36 : decode b_Brt_makes 36 = .ok (.invokevirtual 89, 3) := by decide +kernel
theorem d_Brt_makes_39 : decode b_Brt_makes 39 = .ok (.iload 4, 2) := by decide +kernel
theorem d_Brt_makes_41 : decode b_Brt_makes 41 = .ok (.ireturn, 1) := by decide +kernel
theorem d_Brt_change_0 : decode b_Brt_change 0 = .ok (.aload_n 0, 1) := by decide +kernel
theorem d_Brt_change_1 : decode b_Brt_change 1 = .ok (.getfield 10, 3) := by decide +kernel
theorem d_Brt_change_4 : decode b_Brt_change 4 = .ok (.getfield 127, 3) := by decide +kernel
theorem d_Brt_change_7 : decode b_Brt_change 7 = .ok (.iload_n 1, 1) := by decide +kernel
theorem d_Brt_change_8 : decode b_Brt_change 8 = .ok (.iload_n 2, 1) := by decide +kernel
theorem d_Brt_change_9 : decode b_Brt_change 9 = .ok (.invokevirtual 175, 3) := by decide +kernel
theorem d_Brt_change_12 : decode b_Brt_change 12 = .ok (.ifCond .ne 5, 3) := by decide +kernel
theorem d_Brt_change_15 : decode b_Brt_change 15 = .ok (.iconst (-1), 1) := by decide +kernel
theorem d_Brt_change_16 : decode b_Brt_change 16 = .ok (.ireturn, 1) := by decide +kernel
theorem d_Brt_change_17 : decode b_Brt_change 17 = .ok (.aload_n 0, 1) := by decide +kernel
theorem d_Brt_change_18 : decode b_Brt_change 18 = .ok (.getfield 32, 3) := by decide +kernel
theorem d_Brt_change_21 : decode b_Brt_change 21 = .ok (.invokevirtual 89, 3) := by decide +kernel
theorem d_Brt_change_24 : decode b_Brt_change 24 = .ok (.aload_n 0, 1) := by decide +kernel
theorem d_Brt_change_25 : decode b_Brt_change 25 = .ok (.getfield 10, 3) := by decide +kernel
theorem d_Brt_change_28 : decode b_Brt_change 28 = .ok (.getfield 127, 3) := by decide +kernel
theorem d_Brt_change_31 : decode b_Brt_change 31 = .ok (.iload_n 1, 1) := by decide +kernel
theorem d_Brt_change_32 : decode b_Brt_change 32 = .ok (.invokevirtual 149, 3) := by decide +kernel
theorem d_Brt_change_35 : decode b_Brt_change 35 = .ok (.ireturn, 1) := by decide +kernel
theorem d_Brt_set_0 : decode b_Brt_set 0 = .ok (.aload_n 0, 1) := by decide +kernel
theorem d_Brt_set_1 : decode b_Brt_set 1 = .ok (.getfield 10, 3) := by decide +kernel
theorem d_Brt_set_4 : decode b_Brt_set 4 = .ok (.iload_n 1, 1) := by decide +kernel
theorem d_Brt_set_5 : decode b_Brt_set 5 = .ok (.invokevirtual 179, 3) := by decide +kernel
theorem d_Brt_set_8 : decode b_Brt_set 8 = .ok (.istore_n 3, 1) := by decide +kernel
theorem d_Brt_set_9 : decode b_Brt_set 9 = .ok (.aload_n 0, 1) := by decide +kernel
theorem d_Brt_set_10 : decode b_Brt_set 10 = .ok (.getfield 10, 3) := by decide +kernel
theorem d_Brt_set_13 : decode b_Brt_set 13 = .ok (.iload_n 1, 1) := by decide +kernel
theorem d_Brt_set_14 : decode b_Brt_set 14 = .ok (.iload_n 2, 1) := by decide +kernel
theorem d_Brt_set_15 : decode b_Brt_set 15 = .ok (.invokevirtual 182, 3) := by decide +kernel
theorem d_Brt_set_18 : decode b_Brt_set 18 = .ok (.ifCond .ne 5, 3) := by decide +kernel
theorem d_Brt_set_21 : decode b_Brt_set 21 = .ok (.iconst (-1), 1) := by decide +kernel
theorem d_Brt_set_22 : decode b_Brt_set 22 = .ok (.ireturn, 1) := by decide +kernel
theorem d_Brt_set_23 : decode b_Brt_set 23 = .ok (.aload_n 0, 1) := by decide +kernel
theorem d_Brt_set_24 : decode b_Brt_set 24 = .ok (.getfield 32, 3) := by decide +kernel
theorem d_Brt_set_27 : decode b_Brt_set 27 = .ok (.invokevirtual 89, 3) := by decide +kernel
theorem d_Brt_set_30 : decode b_Brt_set 30 = .ok (.iload_n 3, 1) := by decide +kernel
theorem d_Brt_set_31 : decode b_Brt_set 31 = .ok (.ireturn, 1) := by decide +kernel
theorem d_Brt_waits_0 : decode b_Brt_waits 0 = .ok (.iload_n 1, 1) := by decide +kernel
theorem d_Brt_waits_1 : decode b_Brt_waits 1 = .ok (.iconst 0, 1) := by decide +kernel
theorem d_Brt_waits_2 : decode b_Brt_waits 2 = .ok (.bipush 99, 2) := by decide +kernel
theorem d_Brt_waits_4 : decode b_Brt_waits 4 = .ok (.invokestatic 185, 3) := by decide +kernel
theorem d_Brt_waits_7 : decode b_Brt_waits 7 = .ok (.ifCond .ne 5, 3) := by decide +kernel
theorem d_Brt_waits_10 : decode b_Brt_waits 10 = .ok (.iconst (-1), 1) := by decide +kernel
theorem d_Brt_waits_11 : decode b_Brt_waits 11 = .ok (.ireturn, 1) := by decide +kernel
theorem d_Brt_waits_12 : decode b_Brt_waits 12 = .ok (.aload_n 0, 1) := by decide +kernel
theorem d_Brt_waits_13 : decode b_Brt_waits 13 = .ok (.getfield 10, 3) := by decide +kernel
theorem d_Brt_waits_16 : decode b_Brt_waits 16 = .ok (.iload_n 1, 1) := by decide +kernel
theorem d_Brt_waits_17 : decode b_Brt_waits 17 = .ok (.invokevirtual 188, 3) := by decide +kernel
theorem d_Brt_waits_20 : decode b_Brt_waits 20 = .ok (.ifCond .ne 6, 3) := by decide +kernel
theorem d_Brt_waits_23 : decode b_Brt_waits 23 = .ok (.bipush (-3), 2) := by decide +kernel
theorem d_Brt_waits_25 : decode b_Brt_waits 25 = .ok (.ireturn, 1) := by decide +kernel
theorem d_Brt_waits_26 : decode b_Brt_waits 26 = .ok (.aload_n 0, 1) := by decide +kernel
theorem d_Brt_waits_27 : decode b_Brt_waits 27 = .ok (.getfield 32, 3) := by decide +kernel
theorem d_Brt_waits_30 : decode b_Brt_waits 30 = .ok (.invokevirtual 89, 3) := by decide +kernel
theorem d_Brt_waits_33 : decode b_Brt_waits 33 = .ok (.aload_n 0, 1) := by decide +kernel
theorem d_Brt_waits_34 : decode b_Brt_waits 34 = .ok (.getfield 10, 3) := by decide +kernel
theorem d_Brt_waits_37 : decode b_Brt_waits 37 = .ok (.getfield 111, 3) := by decide +kernel
theorem d_Brt_waits_40 : decode b_Brt_waits 40 = .ok (.ireturn, 1) := by decide +kernel
theorem d_Brt_size_0 : decode b_Brt_size 0 = .ok (.aload_n 0, 1) := by decide +kernel
theorem d_Brt_size_1 : decode b_Brt_size 1 = .ok (.getfield 10, 3) := by decide +kernel
theorem d_Brt_size_4 : decode b_Brt_size 4 = .ok (.iload_n 1, 1) := by decide +kernel
theorem d_Brt_size_5 : decode b_Brt_size 5 = .ok (.iload_n 2, 1) := by decide +kernel
theorem d_Brt_size_6 : decode b_Brt_size 6 = .ok (.invokevirtual 191, 3) := by decide +kernel
theorem d_Brt_size_9 : decode b_Brt_size 9 = .ok (.ifCond .eq 22, 3) := by decide +kernel
theorem d_Brt_size_12 : decode b_Brt_size 12 = .ok (.iload_n 3, 1) := by decide +kernel
theorem d_Brt_size_13 : decode b_Brt_size 13 = .ok (.iconst 0, 1) := by decide +kernel
theorem d_Brt_size_14 : decode b_Brt_size 14 = .ok (.iconst 3, 1) := by decide +kernel
theorem d_Brt_size_15 : decode b_Brt_size 15 = .ok (.invokestatic 185, 3) := by decide +kernel
theorem d_Brt_size_18 : decode b_Brt_size 18 = .ok (.ifCond .eq 13, 3) := by decide +kernel
theorem d_Brt_size_21 : decode b_Brt_size 21 = .ok (.iload 4, 2) := by decide +kernel
theorem d_Brt_size_23 : decode b_Brt_size 23 = .ok (.iconst 0, 1) := by decide +kernel
theorem d_Brt_size_24 : decode b_Brt_size 24 = .ok (.iconst 1, 1) := by decide +kernel
theorem d_Brt_size_25 : decode b_Brt_size 25 = .ok (.invokestatic 185, 3) := by decide +kernel
theorem d_Brt_size_28 : decode b_Brt_size 28 = .ok (.ifCond .ne 5, 3) := by decide +kernel
theorem d_Brt_size_31 : decode b_Brt_size 31 = .ok (.iconst (-1), 1) := by decide +kernel
theorem d_Brt_size_32 : decode b_Brt_size 32 = .ok (.ireturn, 1) := by decide +kernel
theorem d_Brt_size_33 : decode b_Brt_size 33 = .ok (.aload_n 0, 1) := by decide +kernel
theorem d_Brt_size_34 : decode b_Brt_size 34 = .ok (.getfield 10, 3) := by decide +kernel
theorem d_Brt_size_37 : decode b_Brt_size 37 = .ok (.getfield 127, 3) := by decide +kernel
theorem d_Brt_size_40 : decode b_Brt_size 40 = .ok (.iload_n 1, 1) := by decide +kernel
theorem d_Brt_size_41 : decode b_Brt_size 41 = .ok (.iload_n 3, 1) := by decide +kernel
theorem d_Brt_size_42 : decode b_Brt_size 42 = .ok (.iload 4, 2) := by decide +kernel
theorem d_Brt_size_44 : decode b_Brt_size 44 = .ok (.iconst 1, 1) := by decide +kernel
theorem d_Brt_size_45 : decode b_Brt_size 45 = .ok (.if_icmp .ne 7, 3) := by decide +kernel
theorem d_Brt_size_48 : decode b_Brt_size 48 = .ok (.iconst 1, 1) := by decide +kernel
theorem d_Brt_size_49 : decode b_Brt_size 49 = .ok (.goto 4, 3) := by decide +kernel
theorem d_Brt_size_52 : decode b_Brt_size 52 = .ok (.iconst 0, 1) := by decide +kernel
theorem d_Brt_size_53 : decode b_Brt_size 53 = .ok (.invokevirtual 194, 3) := by decide +kernel
theorem d_Brt_size_56 : decode b_Brt_size 56 = .ok (.aload_n 0, 1) := by decide +kernel
theorem d_Brt_size_57 : decode b_Brt_size 57 = .ok (.getfield 10, 3) := by decide +kernel
theorem d_Brt_size_60 : decode b_Brt_size 60 = .ok (.getfield 92, 3) := by decide +kernel
theorem d_Brt_size_63 : decode b_Brt_size 63 = .ok (.iload_n 3, 1) := by decide +kernel
theorem d_Brt_size_64 : decode b_Brt_size 64 = .ok (.invokevirtual 198, 3) := by decide +kernel
theorem d_Brt_size_67 : decode b_Brt_size 67 = .ok (.iload_n 2, 1) := by decide +kernel
theorem d_Brt_size_68 : decode b_Brt_size 68 = .ok (.iaload, 1) := by decide +kernel
theorem d_Brt_size_69 : decode b_Brt_size 69 = .ok (.iadd, 1) := by decide +kernel
theorem d_Brt_size_70 : decode b_Brt_size 70 = .ok (.ireturn, 1) := by decide +kernel
theorem d_Brt_fits_0 : decode b_Brt_fits 0 = .ok (.aload_n 0, 1) := by decide +kernel
theorem d_Brt_fits_1 : decode b_Brt_fits 1 = .ok (.getfield 10, 3) := by decide +kernel
theorem d_Brt_fits_4 : decode b_Brt_fits 4 = .ok (.iload_n 1, 1) := by decide +kernel
theorem d_Brt_fits_5 : decode b_Brt_fits 5 = .ok (.iload_n 2, 1) := by decide +kernel
theorem d_Brt_fits_6 : decode b_Brt_fits 6 = .ok (.invokevirtual 191, 3) := by decide +kernel
theorem d_Brt_fits_9 : decode b_Brt_fits 9 = .ok (.ifCond .eq 15, 3) := by decide +kernel
theorem d_Brt_fits_12 : decode b_Brt_fits 12 = .ok (.aload_n 0, 1) := by decide +kernel
theorem d_Brt_fits_13 : decode b_Brt_fits 13 = .ok (.getfield 10, 3) := by decide +kernel
theorem d_Brt_fits_16 : decode b_Brt_fits 16 = .ok (.iload_n 1, 1) := by decide +kernel
theorem d_Brt_fits_17 : decode b_Brt_fits 17 = .ok (.iload_n 2, 1) := by decide +kernel
theorem d_Brt_fits_18 : decode b_Brt_fits 18 = .ok (.invokevirtual 202, 3) := by decide +kernel
theorem d_Brt_fits_21 : decode b_Brt_fits 21 = .ok (.goto 4, 3) := by decide +kernel
theorem d_Brt_fits_24 : decode b_Brt_fits 24 = .ok (.iconst (-1), 1) := by decide +kernel
theorem d_Brt_fits_25 : decode b_Brt_fits 25 = .ok (.ireturn, 1) := by decide +kernel
theorem d_Brt_way_0 : decode b_Brt_way 0 = .ok (.aload_n 0, 1) := by decide +kernel
theorem d_Brt_way_1 : decode b_Brt_way 1 = .ok (.getfield 10, 3) := by decide +kernel
theorem d_Brt_way_4 : decode b_Brt_way 4 = .ok (.getfield 127, 3) := by decide +kernel
theorem d_Brt_way_7 : decode b_Brt_way 7 = .ok (.iload_n 1, 1) := by decide +kernel
theorem d_Brt_way_8 : decode b_Brt_way 8 = .ok (.invokevirtual 131, 3) := by decide +kernel
theorem d_Brt_way_11 : decode b_Brt_way 11 = .ok (.ifCond .eq 12, 3) := by decide +kernel
theorem d_Brt_way_14 : decode b_Brt_way 14 = .ok (.iload_n 2, 1) := by decide +kernel
theorem d_Brt_way_15 : decode b_Brt_way 15 = .ok (.iconst 0, 1) := by decide +kernel
theorem d_Brt_way_16 : decode b_Brt_way 16 = .ok (.iconst 1, 1) := by decide +kernel
theorem d_Brt_way_17 : decode b_Brt_way 17 = .ok (.invokestatic 185, 3) := by decide +kernel
theorem d_Brt_way_20 : decode b_Brt_way 20 = .ok (.ifCond .ne 5, 3) := by decide +kernel
theorem d_Brt_way_23 : decode b_Brt_way 23 = .ok (.iconst (-1), 1) := by decide +kernel
theorem d_Brt_way_24 : decode b_Brt_way 24 = .ok (.ireturn, 1) := by decide +kernel
theorem d_Brt_way_25 : decode b_Brt_way 25 = .ok (.aload_n 0, 1) := by decide +kernel
theorem d_Brt_way_26 : decode b_Brt_way 26 = .ok (.getfield 25, 3) := by decide +kernel
theorem d_Brt_way_29 : decode b_Brt_way 29 = .ok (.aload_n 0, 1) := by decide +kernel
theorem d_Brt_way_30 : decode b_Brt_way 30 = .ok (.getfield 10, 3) := by decide +kernel
theorem d_Brt_way_33 : decode b_Brt_way 33 = .ok (.iload_n 1, 1) := by decide +kernel
theorem d_Brt_way_34 : decode b_Brt_way 34 = .ok (.iload_n 2, 1) := by decide +kernel
theorem d_Brt_way_35 : decode b_Brt_way 35 = .ok (.iconst 1, 1) := by decide +kernel
theorem d_Brt_way_36 : decode b_Brt_way 36 = .ok (.if_icmp .ne 7, 3) := by decide +kernel
theorem d_Brt_way_39 : decode b_Brt_way 39 = .ok (.iconst 1, 1) := by decide +kernel
theorem d_Brt_way_40 : decode b_Brt_way 40 = .ok (.goto 4, 3) := by decide +kernel
theorem d_Brt_way_43 : decode b_Brt_way 43 = .ok (.iconst 0, 1) := by decide +kernel
theorem d_Brt_way_44 : decode b_Brt_way 44 = .ok (.invokevirtual 205, 3) := by decide +kernel
theorem d_Brt_way_47 : decode b_Brt_way 47 = .ok (.astore 4, 2) := by decide +kernel
theorem d_Brt_way_49 : decode b_Brt_way 49 = .ok (.iload_n 3, 1) := by decide +kernel
theorem d_Brt_way_50 : decode b_Brt_way 50 = .ok (.tableswitch 52 0 2 #[26, 32, 46], 26) := by decide +kernel
theorem d_Brt_way_76 : decode b_Brt_way 76 = .ok (.aload 4, 2) := by decide +kernel
theorem d_Brt_way_78 : decode b_Brt_way 78 = .ok (.getfield 209, 3) := by decide +kernel
theorem d_Brt_way_81 : decode b_Brt_way 81 = .ok (.ireturn, 1) := by decide +kernel
theorem d_Brt_way_82 : decode b_Brt_way 82 = .ok (.aload 4, 2) := by decide +kernel
theorem d_Brt_way_84 : decode b_Brt_way 84 = .ok (.getfield 214, 3) := by decide +kernel
theorem d_Brt_way_87 : decode b_Brt_way 87 = .ok (.aload_n 0, 1) := by decide +kernel
theorem d_Brt_way_88 : decode b_Brt_way 88 = .ok (.getfield 10, 3) := by decide +kernel
theorem d_Brt_way_91 : decode b_Brt_way 91 = .ok (.getfield 111, 3) := by decide +kernel
theorem d_Brt_way_94 : decode b_Brt_way 94 = .ok (.isub, 1) := by decide +kernel
theorem d_Brt_way_95 : decode b_Brt_way 95 = .ok (.ireturn, 1) := by decide +kernel
theorem d_Brt_way_96 : decode b_Brt_way 96 = .ok (.aload 4, 2) := by decide +kernel
theorem d_Brt_way_98 : decode b_Brt_way 98 = .ok (.getfield 215, 3) := by decide +kernel
theorem d_Brt_way_101 : decode b_Brt_way 101 = .ok (.ireturn, 1) := by decide +kernel
theorem d_Brt_way_102 : decode b_Brt_way 102 = .ok (.iconst (-1), 1) := by decide +kernel
theorem d_Brt_way_103 : decode b_Brt_way 103 = .ok (.ireturn, 1) := by decide +kernel
theorem d_Brt_posture_0 : decode b_Brt_posture 0 = .ok (.aload_n 0, 1) := by decide +kernel
theorem d_Brt_posture_1 : decode b_Brt_posture 1 = .ok (.getfield 10, 3) := by decide +kernel
theorem d_Brt_posture_4 : decode b_Brt_posture 4 = .ok (.getfield 127, 3) := by decide +kernel
theorem d_Brt_posture_7 : decode b_Brt_posture 7 = .ok (.iload_n 1, 1) := by decide +kernel
theorem d_Brt_posture_8 : decode b_Brt_posture 8 = .ok (.invokevirtual 131, 3) := by decide +kernel
theorem d_Brt_posture_11 : decode b_Brt_posture 11 = .ok (.ifCond .ne 5, 3) := by decide +kernel
theorem d_Brt_posture_14 : decode b_Brt_posture 14 = .ok (.iconst (-1), 1) := by decide +kernel
theorem d_Brt_posture_15 : decode b_Brt_posture 15 = .ok (.ireturn, 1) := by decide +kernel
theorem d_Brt_posture_16 : decode b_Brt_posture 16 = .ok (.aload_n 0, 1) := by decide +kernel
theorem d_Brt_posture_17 : decode b_Brt_posture 17 = .ok (.getfield 19, 3) := by decide +kernel
theorem d_Brt_posture_20 : decode b_Brt_posture 20 = .ok (.aload_n 0, 1) := by decide +kernel
theorem d_Brt_posture_21 : decode b_Brt_posture 21 = .ok (.getfield 10, 3) := by decide +kernel
theorem d_Brt_posture_24 : decode b_Brt_posture 24 = .ok (.invokevirtual 72, 3) := by decide +kernel
theorem d_Brt_posture_27 : decode b_Brt_posture 27 = .ok (.bipush (-4), 2) := by decide +kernel
theorem d_Brt_posture_29 : decode b_Brt_posture 29 = .ok (.istore_n 2, 1) := by decide +kernel
theorem d_Brt_posture_30 : decode b_Brt_posture 30 = .ok (.ldc 218, 2) := by decide +kernel
theorem d_Brt_posture_32 : decode b_Brt_posture 32 = .ok (.istore_n 3, 1) := by decide +kernel
theorem d_Brt_posture_33 : decode b_Brt_posture 33 = .ok (.iconst 0, 1) := by decide +kernel
theorem d_Brt_posture_34 : decode b_Brt_posture 34 = .ok (.istore 4, 2) := by decide +kernel
theorem d_Brt_posture_36 : decode b_Brt_posture 36 = .ok (.iload 4, 2) := by decide +kernel
theorem d_Brt_posture_38 : decode b_Brt_posture 38 = .ok (.iconst 4, 1) := by decide +kernel
theorem d_Brt_posture_39 : decode b_Brt_posture 39 = .ok (.if_icmp .ge 66, 3) := by decide +kernel
theorem d_Brt_posture_42 : decode b_Brt_posture 42 = .ok (.aload_n 0, 1) := by decide +kernel
theorem d_Brt_posture_43 : decode b_Brt_posture 43 = .ok (.getfield 19, 3) := by decide +kernel
theorem d_Brt_posture_46 : decode b_Brt_posture 46 = .ok (.getfield 127, 3) := by decide +kernel
theorem d_Brt_posture_49 : decode b_Brt_posture 49 = .ok (.getfield 146, 3) := by decide +kernel
theorem d_Brt_posture_52 : decode b_Brt_posture 52 = .ok (.iload_n 1, 1) := by decide +kernel
theorem d_Brt_posture_53 : decode b_Brt_posture 53 = .ok (.iload 4, 2) := by decide +kernel
theorem d_Brt_posture_55 : decode b_Brt_posture 55 = .ok (.iastore, 1) := by decide +kernel
theorem d_Brt_posture_56 : decode b_Brt_posture 56 = .ok (.aload_n 0, 1) := by decide +kernel
theorem d_Brt_posture_57 : decode b_Brt_posture 57 = .ok (.getfield 25, 3) := by decide +kernel
theorem d_Brt_posture_60 : decode b_Brt_posture 60 = .ok (.aload_n 0, 1) := by decide +kernel
theorem d_Brt_posture_61 : decode b_Brt_posture 61 = .ok (.getfield 19, 3) := by decide +kernel
theorem d_Brt_posture_64 : decode b_Brt_posture 64 = .ok (.iload_n 1, 1) := by decide +kernel
theorem d_Brt_posture_65 : decode b_Brt_posture 65 = .ok (.iconst 0, 1) := by decide +kernel
theorem d_Brt_posture_66 : decode b_Brt_posture 66 = .ok (.invokevirtual 205, 3) := by decide +kernel
theorem d_Brt_posture_69 : decode b_Brt_posture 69 = .ok (.astore 5, 2) := by decide +kernel
theorem d_Brt_posture_71 : decode b_Brt_posture 71 = .ok (.aload 5, 2) := by decide +kernel
theorem d_Brt_posture_73 : decode b_Brt_posture 73 = .ok (.getfield 219, 3) := by decide +kernel
theorem d_Brt_posture_76 : decode b_Brt_posture 76 = .ok (.bipush (-4), 2) := by decide +kernel
theorem d_Brt_posture_78 : decode b_Brt_posture 78 = .ok (.if_icmp .ne 21, 3) := by decide +kernel
theorem d_Brt_posture_81 : decode b_Brt_posture 81 = .ok (.aload 5, 2) := by decide +kernel
theorem d_Brt_posture_83 : decode b_Brt_posture 83 = .ok (.getfield 215, 3) := by decide +kernel
theorem d_Brt_posture_86 : decode b_Brt_posture 86 = .ok (.iload_n 3, 1) := by decide +kernel
theorem d_Brt_posture_87 : decode b_Brt_posture 87 = .ok (.if_icmp .ge 12, 3) := by decide +kernel
theorem d_Brt_posture_90 : decode b_Brt_posture 90 = .ok (.aload 5, 2) := by decide +kernel
theorem d_Brt_posture_92 : decode b_Brt_posture 92 = .ok (.getfield 215, 3) := by decide +kernel
theorem d_Brt_posture_95 : decode b_Brt_posture 95 = .ok (.istore_n 3, 1) := by decide +kernel
theorem d_Brt_posture_96 : decode b_Brt_posture 96 = .ok (.iload 4, 2) := by decide +kernel
theorem d_Brt_posture_98 : decode b_Brt_posture 98 = .ok (.istore_n 2, 1) := by decide +kernel
theorem d_Brt_posture_99 : decode b_Brt_posture 99 = .ok (.iinc 4 1, 3) := by decide +kernel
theorem d_Brt_posture_102 : decode b_Brt_posture 102 = .ok (.goto (-66), 3) := by decide +kernel
theorem d_Brt_posture_105 : decode b_Brt_posture 105 = .ok (.iload_n 2, 1) := by decide +kernel
theorem d_Brt_posture_106 : decode b_Brt_posture 106 = .ok (.ireturn, 1) := by decide +kernel
theorem d_Brt_lacks_0 : decode b_Brt_lacks 0 = .ok (.aload_n 0, 1) := by decide +kernel
theorem d_Brt_lacks_1 : decode b_Brt_lacks 1 = .ok (.getfield 10, 3) := by decide +kernel
theorem d_Brt_lacks_4 : decode b_Brt_lacks 4 = .ok (.getfield 127, 3) := by decide +kernel
theorem d_Brt_lacks_7 : decode b_Brt_lacks 7 = .ok (.iload_n 1, 1) := by decide +kernel
theorem d_Brt_lacks_8 : decode b_Brt_lacks 8 = .ok (.invokevirtual 131, 3) := by decide +kernel
theorem d_Brt_lacks_11 : decode b_Brt_lacks 11 = .ok (.ifCond .ne 5, 3) := by decide +kernel
theorem d_Brt_lacks_14 : decode b_Brt_lacks 14 = .ok (.iconst (-1), 1) := by decide +kernel
theorem d_Brt_lacks_15 : decode b_Brt_lacks 15 = .ok (.ireturn, 1) := by decide +kernel
theorem d_Brt_lacks_16 : decode b_Brt_lacks 16 = .ok (.iconst 0, 1) := by decide +kernel
theorem d_Brt_lacks_17 : decode b_Brt_lacks 17 = .ok (.istore_n 2, 1) := by decide +kernel
theorem d_Brt_lacks_18 : decode b_Brt_lacks 18 = .ok (.iconst 0, 1) := by decide +kernel
theorem d_Brt_lacks_19 : decode b_Brt_lacks 19 = .ok (.istore_n 3, 1) := by decide +kernel
theorem d_Brt_lacks_20 : decode b_Brt_lacks 20 = .ok (.iload_n 3, 1) := by decide +kernel
theorem d_Brt_lacks_21 : decode b_Brt_lacks 21 = .ok (.aload_n 0, 1) := by decide +kernel
theorem d_Brt_lacks_22 : decode b_Brt_lacks 22 = .ok (.getfield 10, 3) := by decide +kernel
theorem d_Brt_lacks_25 : decode b_Brt_lacks 25 = .ok (.getfield 92, 3) := by decide +kernel
theorem d_Brt_lacks_28 : decode b_Brt_lacks 28 = .ok (.getfield 166, 3) := by decide +kernel
theorem d_Brt_lacks_31 : decode b_Brt_lacks 31 = .ok (.if_icmp .ge 23, 3) := by decide +kernel
theorem d_Brt_lacks_34 : decode b_Brt_lacks 34 = .ok (.iload_n 2, 1) := by decide +kernel
theorem d_Brt_lacks_35 : decode b_Brt_lacks 35 = .ok (.aload_n 0, 1) := by decide +kernel
theorem d_Brt_lacks_36 : decode b_Brt_lacks 36 = .ok (.getfield 10, 3) := by decide +kernel
theorem d_Brt_lacks_39 : decode b_Brt_lacks 39 = .ok (.iload_n 1, 1) := by decide +kernel
theorem d_Brt_lacks_40 : decode b_Brt_lacks 40 = .ok (.iload_n 3, 1) := by decide +kernel
theorem d_Brt_lacks_41 : decode b_Brt_lacks 41 = .ok (.invokevirtual 222, 3) := by decide +kernel
theorem d_Brt_lacks_44 : decode b_Brt_lacks 44 = .ok (.invokestatic 225, 3) := by decide +kernel
theorem d_Brt_lacks_47 : decode b_Brt_lacks 47 = .ok (.istore_n 2, 1) := by decide +kernel
theorem d_Brt_lacks_48 : decode b_Brt_lacks 48 = .ok (.iinc 3 1, 3) := by decide +kernel
theorem d_Brt_lacks_51 : decode b_Brt_lacks 51 = .ok (.goto (-31), 3) := by decide +kernel
theorem d_Brt_lacks_54 : decode b_Brt_lacks 54 = .ok (.iload_n 2, 1) := by decide +kernel
theorem d_Brt_lacks_55 : decode b_Brt_lacks 55 = .ok (.ireturn, 1) := by decide +kernel
theorem d_Brt_widest_0 : decode b_Brt_widest 0 = .ok (.aload_n 0, 1) := by decide +kernel
theorem d_Brt_widest_1 : decode b_Brt_widest 1 = .ok (.getfield 10, 3) := by decide +kernel
theorem d_Brt_widest_4 : decode b_Brt_widest 4 = .ok (.getfield 127, 3) := by decide +kernel
theorem d_Brt_widest_7 : decode b_Brt_widest 7 = .ok (.iload_n 1, 1) := by decide +kernel
theorem d_Brt_widest_8 : decode b_Brt_widest 8 = .ok (.invokevirtual 131, 3) := by decide +kernel
theorem d_Brt_widest_11 : decode b_Brt_widest 11 = .ok (.ifCond .ne 5, 3) := by decide +kernel
theorem d_Brt_widest_14 : decode b_Brt_widest 14 = .ok (.iconst (-1), 1) := by decide +kernel
theorem d_Brt_widest_15 : decode b_Brt_widest 15 = .ok (.ireturn, 1) := by decide +kernel
theorem d_Brt_widest_16 : decode b_Brt_widest 16 = .ok (.aload_n 0, 1) := by decide +kernel
theorem d_Brt_widest_17 : decode b_Brt_widest 17 = .ok (.getfield 19, 3) := by decide +kernel
theorem d_Brt_widest_20 : decode b_Brt_widest 20 = .ok (.aload_n 0, 1) := by decide +kernel
theorem d_Brt_widest_21 : decode b_Brt_widest 21 = .ok (.getfield 10, 3) := by decide +kernel
theorem d_Brt_widest_24 : decode b_Brt_widest 24 = .ok (.invokevirtual 72, 3) := by decide +kernel
theorem d_Brt_widest_27 : decode b_Brt_widest 27 = .ok (.bipush 50, 2) := by decide +kernel
theorem d_Brt_widest_29 : decode b_Brt_widest 29 = .ok (.istore_n 2, 1) := by decide +kernel
theorem d_Brt_widest_30 : decode b_Brt_widest 30 = .ok (.iload_n 2, 1) := by decide +kernel
theorem d_Brt_widest_31 : decode b_Brt_widest 31 = .ok (.bipush 10, 2) := by decide +kernel
theorem d_Brt_widest_33 : decode b_Brt_widest 33 = .ok (.if_icmp .lt 45, 3) := by decide +kernel
theorem d_Brt_widest_36 : decode b_Brt_widest 36 = .ok (.aload_n 0, 1) := by decide +kernel
theorem d_Brt_widest_37 : decode b_Brt_widest 37 = .ok (.getfield 19, 3) := by decide +kernel
theorem d_Brt_widest_40 : decode b_Brt_widest 40 = .ok (.getfield 127, 3) := by decide +kernel
theorem d_Brt_widest_43 : decode b_Brt_widest 43 = .ok (.getfield 134, 3) := by decide +kernel
theorem d_Brt_widest_46 : decode b_Brt_widest 46 = .ok (.iload_n 1, 1) := by decide +kernel
theorem d_Brt_widest_47 : decode b_Brt_widest 47 = .ok (.iload_n 2, 1) := by decide +kernel
theorem d_Brt_widest_48 : decode b_Brt_widest 48 = .ok (.iastore, 1) := by decide +kernel
theorem d_Brt_widest_49 : decode b_Brt_widest 49 = .ok (.aload_n 0, 1) := by decide +kernel
theorem d_Brt_widest_50 : decode b_Brt_widest 50 = .ok (.getfield 25, 3) := by decide +kernel
theorem d_Brt_widest_53 : decode b_Brt_widest 53 = .ok (.aload_n 0, 1) := by decide +kernel
theorem d_Brt_widest_54 : decode b_Brt_widest 54 = .ok (.getfield 19, 3) := by decide +kernel
theorem d_Brt_widest_57 : decode b_Brt_widest 57 = .ok (.iload_n 1, 1) := by decide +kernel
theorem d_Brt_widest_58 : decode b_Brt_widest 58 = .ok (.iconst 0, 1) := by decide +kernel
theorem d_Brt_widest_59 : decode b_Brt_widest 59 = .ok (.invokevirtual 205, 3) := by decide +kernel
theorem d_Brt_widest_62 : decode b_Brt_widest 62 = .ok (.getfield 219, 3) := by decide +kernel
theorem d_Brt_widest_65 : decode b_Brt_widest 65 = .ok (.bipush (-4), 2) := by decide +kernel
theorem d_Brt_widest_67 : decode b_Brt_widest 67 = .ok (.if_icmp .ne 5, 3) := by decide +kernel
theorem d_Brt_widest_70 : decode b_Brt_widest 70 = .ok (.iload_n 2, 1) := by decide +kernel
theorem d_Brt_widest_71 : decode b_Brt_widest 71 = .ok (.ireturn, 1) := by decide +kernel
theorem d_Brt_widest_72 : decode b_Brt_widest 72 = .ok (.iinc 2 (-1), 3) := by decide +kernel
theorem d_Brt_widest_75 : decode b_Brt_widest 75 = .ok (.goto (-45), 3) := by decide +kernel
theorem d_Brt_widest_78 : decode b_Brt_widest 78 = .ok (.bipush (-4), 2) := by decide +kernel
theorem d_Brt_widest_80 : decode b_Brt_widest 80 = .ok (.ireturn, 1) := by decide +kernel
theorem d_Brt_allGo_0 : decode b_Brt_allGo 0 = .ok (.aload_n 0, 1) := by decide +kernel
theorem d_Brt_allGo_1 : decode b_Brt_allGo 1 = .ok (.getfield 25, 3) := by decide +kernel
theorem d_Brt_allGo_4 : decode b_Brt_allGo 4 = .ok (.getfield 336, 3) := by decide +kernel
theorem d_Brt_allGo_7 : decode b_Brt_allGo 7 = .ok (.aload_n 0, 1) := by decide +kernel
theorem d_Brt_allGo_8 : decode b_Brt_allGo 8 = .ok (.getfield 10, 3) := by decide +kernel
theorem d_Brt_allGo_11 : decode b_Brt_allGo 11 = .ok (.aload_n 0, 1) := by decide +kernel
theorem d_Brt_allGo_12 : decode b_Brt_allGo 12 = .ok (.getfield 10, 3) := by decide +kernel
theorem d_Brt_allGo_15 : decode b_Brt_allGo 15 = .ok (.getfield 127, 3) := by decide +kernel
theorem d_Brt_allGo_18 : decode b_Brt_allGo 18 = .ok (.getfield 249, 3) := by decide +kernel
theorem d_Brt_allGo_21 : decode b_Brt_allGo 21 = .ok (.aload_n 0, 1) := by decide +kernel
theorem d_Brt_allGo_22 : decode b_Brt_allGo 22 = .ok (.getfield 10, 3) := by decide +kernel
theorem d_Brt_allGo_25 : decode b_Brt_allGo 25 = .ok (.getfield 127, 3) := by decide +kernel
theorem d_Brt_allGo_28 : decode b_Brt_allGo 28 = .ok (.getfield 250, 3) := by decide +kernel
theorem d_Brt_allGo_31 : decode b_Brt_allGo 31 = .ok (.iconst 0, 1) := by decide +kernel
theorem d_Brt_allGo_32 : decode b_Brt_allGo 32 = .ok (.aload_n 0, 1) := by decide +kernel
theorem d_Brt_allGo_33 : decode b_Brt_allGo 33 = .ok (.getfield 10, 3) := by decide +kernel
theorem d_Brt_allGo_36 : decode b_Brt_allGo 36 = .ok (.getfield 111, 3) := by decide +kernel
theorem d_Brt_allGo_39 : decode b_Brt_allGo 39 = .ok (.invokevirtual 398, 3) := by decide +kernel
theorem d_Brt_allGo_42 : decode b_Brt_allGo 42 = .ok (.aload_n 0, 1) := by decide +kernel
theorem d_Brt_allGo_43 : decode b_Brt_allGo 43 = .ok (.getfield 25, 3) := by decide +kernel
theorem d_Brt_allGo_46 : decode b_Brt_allGo 46 = .ok (.getfield 336, 3) := by decide +kernel
theorem d_Brt_allGo_49 : decode b_Brt_allGo 49 = .ok (.areturn, 1) := by decide +kernel
theorem d_Brt_go_0 : decode b_Brt_go 0 = .ok (.iload_n 1, 1) := by decide +kernel
theorem d_Brt_go_1 : decode b_Brt_go 1 = .ok (.iconst 0, 1) := by decide +kernel
theorem d_Brt_go_2 : decode b_Brt_go 2 = .ok (.iconst 4, 1) := by decide +kernel
theorem d_Brt_go_3 : decode b_Brt_go 3 = .ok (.invokestatic 185, 3) := by decide +kernel
theorem d_Brt_go_6 : decode b_Brt_go 6 = .ok (.ifCond .ne 5, 3) := by decide +kernel
theorem d_Brt_go_9 : decode b_Brt_go 9 = .ok (.iconst (-1), 1) := by decide +kernel
theorem d_Brt_go_10 : decode b_Brt_go 10 = .ok (.ireturn, 1) := by decide +kernel
theorem d_Brt_go_11 : decode b_Brt_go 11 = .ok (.aload_n 0, 1) := by decide +kernel
theorem d_Brt_go_12 : decode b_Brt_go 12 = .ok (.invokevirtual 230, 3) := by decide +kernel
theorem d_Brt_go_15 : decode b_Brt_go 15 = .ok (.astore_n 2, 1) := by decide +kernel
theorem d_Brt_go_16 : decode b_Brt_go 16 = .ok (.iload_n 1, 1) := by decide +kernel
theorem d_Brt_go_17 : decode b_Brt_go 17 = .ok (.tableswitch 51 0 3 #[31, 36, 41, 46], 31) := by decide +kernel
theorem d_Brt_go_48 : decode b_Brt_go 48 = .ok (.aload_n 2, 1) := by decide +kernel
theorem d_Brt_go_49 : decode b_Brt_go 49 = .ok (.getfield 234, 3) := by decide +kernel
theorem d_Brt_go_52 : decode b_Brt_go 52 = .ok (.ireturn, 1) := by decide +kernel
theorem d_Brt_go_53 : decode b_Brt_go 53 = .ok (.aload_n 2, 1) := by decide +kernel
theorem d_Brt_go_54 : decode b_Brt_go 54 = .ok (.getfield 219, 3) := by decide +kernel
theorem d_Brt_go_57 : decode b_Brt_go 57 = .ok (.ireturn, 1) := by decide +kernel
theorem d_Brt_go_58 : decode b_Brt_go 58 = .ok (.aload_n 2, 1) := by decide +kernel
theorem d_Brt_go_59 : decode b_Brt_go 59 = .ok (.getfield 209, 3) := by decide +kernel
theorem d_Brt_go_62 : decode b_Brt_go 62 = .ok (.ireturn, 1) := by decide +kernel
theorem d_Brt_go_63 : decode b_Brt_go 63 = .ok (.aload_n 2, 1) := by decide +kernel
theorem d_Brt_go_64 : decode b_Brt_go 64 = .ok (.getfield 214, 3) := by decide +kernel
theorem d_Brt_go_67 : decode b_Brt_go 67 = .ok (.ireturn, 1) := by decide +kernel
theorem d_Brt_go_68 : decode b_Brt_go 68 = .ok (.aload_n 2, 1) := by decide +kernel
theorem d_Brt_go_69 : decode b_Brt_go 69 = .ok (.getfield 215, 3) := by decide +kernel
theorem d_Brt_go_72 : decode b_Brt_go 72 = .ok (.ireturn, 1) := by decide +kernel
theorem d_Brt_allReturn_0 : decode b_Brt_allReturn 0 = .ok (.aload_n 0, 1) := by decide +kernel
theorem d_Brt_allReturn_1 : decode b_Brt_allReturn 1 = .ok (.getfield 25, 3) := by decide +kernel
theorem d_Brt_allReturn_4 : decode b_Brt_allReturn 4 = .ok (.aload_n 1, 1) := by decide +kernel
theorem d_Brt_allReturn_5 : decode b_Brt_allReturn 5 = .ok (.aload_n 1, 1) := by decide +kernel
theorem d_Brt_allReturn_6 : decode b_Brt_allReturn 6 = .ok (.getfield 127, 3) := by decide +kernel
theorem d_Brt_allReturn_9 : decode b_Brt_allReturn 9 = .ok (.getfield 249, 3) := by decide +kernel
theorem d_Brt_allReturn_12 : decode b_Brt_allReturn 12 = .ok (.aload_n 1, 1) := by decide +kernel
theorem d_Brt_allReturn_13 : decode b_Brt_allReturn 13 = .ok (.getfield 127, 3) := by decide +kernel
theorem d_Brt_allReturn_16 : decode b_Brt_allReturn 16 = .ok (.getfield 250, 3) := by decide +kernel
theorem d_Brt_allReturn_19 : decode b_Brt_allReturn 19 = .ok (.aload_n 1, 1) := by decide +kernel
theorem d_Brt_allReturn_20 : decode b_Brt_allReturn 20 = .ok (.getfield 111, 3) := by decide +kernel
theorem d_Brt_allReturn_23 : decode b_Brt_allReturn 23 = .ok (.invokevirtual 402, 3) := by decide +kernel
theorem d_Brt_allReturn_26 : decode b_Brt_allReturn 26 = .ok (.ireturn, 1) := by decide +kernel
theorem d_Brt_back_0 : decode b_Brt_back 0 = .ok (.iload_n 1, 1) := by decide +kernel
theorem d_Brt_back_1 : decode b_Brt_back 1 = .ok (.iconst 0, 1) := by decide +kernel
theorem d_Brt_back_2 : decode b_Brt_back 2 = .ok (.iconst 3, 1) := by decide +kernel
theorem d_Brt_back_3 : decode b_Brt_back 3 = .ok (.invokestatic 185, 3) := by decide +kernel
theorem d_Brt_back_6 : decode b_Brt_back 6 = .ok (.ifCond .ne 5, 3) := by decide +kernel
theorem d_Brt_back_9 : decode b_Brt_back 9 = .ok (.iconst (-1), 1) := by decide +kernel
theorem d_Brt_back_10 : decode b_Brt_back 10 = .ok (.ireturn, 1) := by decide +kernel
theorem d_Brt_back_11 : decode b_Brt_back 11 = .ok (.aload_n 0, 1) := by decide +kernel
theorem d_Brt_back_12 : decode b_Brt_back 12 = .ok (.aload_n 0, 1) := by decide +kernel
theorem d_Brt_back_13 : decode b_Brt_back 13 = .ok (.getfield 10, 3) := by decide +kernel
theorem d_Brt_back_16 : decode b_Brt_back 16 = .ok (.invokevirtual 237, 3) := by decide +kernel
theorem d_Brt_back_19 : decode b_Brt_back 19 = .ok (.pop, 1) := by decide +kernel
theorem d_Brt_back_20 : decode b_Brt_back 20 = .ok (.iload_n 1, 1) := by decide +kernel
theorem d_Brt_back_21 : decode b_Brt_back 21 = .ok (.tableswitch 57 0 2 #[27, 38, 49], 27) := by decide +kernel
theorem d_Brt_back_48 : decode b_Brt_back 48 = .ok (.aload_n 0, 1) := by decide +kernel
theorem d_Brt_back_49 : decode b_Brt_back 49 = .ok (.getfield 25, 3) := by decide +kernel
theorem d_Brt_back_52 : decode b_Brt_back 52 = .ok (.getfield 241, 3) := by decide +kernel
theorem d_Brt_back_55 : decode b_Brt_back 55 = .ok (.getfield 234, 3) := by decide +kernel
theorem d_Brt_back_58 : decode b_Brt_back 58 = .ok (.ireturn, 1) := by decide +kernel
theorem d_Brt_back_59 : decode b_Brt_back 59 = .ok (.aload_n 0, 1) := by decide +kernel
theorem d_Brt_back_60 : decode b_Brt_back 60 = .ok (.getfield 25, 3) := by decide +kernel
theorem d_Brt_back_63 : decode b_Brt_back 63 = .ok (.getfield 241, 3) := by decide +kernel
theorem d_Brt_back_66 : decode b_Brt_back 66 = .ok (.getfield 219, 3) := by decide +kernel
theorem d_Brt_back_69 : decode b_Brt_back 69 = .ok (.ireturn, 1) := by decide +kernel
theorem d_Brt_back_70 : decode b_Brt_back 70 = .ok (.aload_n 0, 1) := by decide +kernel
theorem d_Brt_back_71 : decode b_Brt_back 71 = .ok (.getfield 25, 3) := by decide +kernel
theorem d_Brt_back_74 : decode b_Brt_back 74 = .ok (.invokevirtual 245, 3) := by decide +kernel
theorem d_Brt_back_77 : decode b_Brt_back 77 = .ok (.ireturn, 1) := by decide +kernel
theorem d_Brt_back_78 : decode b_Brt_back 78 = .ok (.aload_n 0, 1) := by decide +kernel
theorem d_Brt_back_79 : decode b_Brt_back 79 = .ok (.getfield 25, 3) := by decide +kernel
theorem d_Brt_back_82 : decode b_Brt_back 82 = .ok (.getfield 241, 3) := by decide +kernel
theorem d_Brt_back_85 : decode b_Brt_back 85 = .ok (.getfield 214, 3) := by decide +kernel
theorem d_Brt_back_88 : decode b_Brt_back 88 = .ok (.ireturn, 1) := by decide +kernel
theorem d_Brt_help_0 : decode b_Brt_help 0 = .ok (.aload_n 0, 1) := by decide +kernel
theorem d_Brt_help_1 : decode b_Brt_help 1 = .ok (.getfield 10, 3) := by decide +kernel
theorem d_Brt_help_4 : decode b_Brt_help 4 = .ok (.getfield 127, 3) := by decide +kernel
theorem d_Brt_help_7 : decode b_Brt_help 7 = .ok (.astore_n 2, 1) := by decide +kernel
theorem d_Brt_help_8 : decode b_Brt_help 8 = .ok (.aload_n 2, 1) := by decide +kernel
theorem d_Brt_help_9 : decode b_Brt_help 9 = .ok (.iload_n 1, 1) := by decide +kernel
theorem d_Brt_help_10 : decode b_Brt_help 10 = .ok (.invokevirtual 131, 3) := by decide +kernel
theorem d_Brt_help_13 : decode b_Brt_help 13 = .ok (.ifCond .ne 5, 3) := by decide +kernel
theorem d_Brt_help_16 : decode b_Brt_help 16 = .ok (.iconst (-1), 1) := by decide +kernel
theorem d_Brt_help_17 : decode b_Brt_help 17 = .ok (.ireturn, 1) := by decide +kernel
theorem d_Brt_help_18 : decode b_Brt_help 18 = .ok (.aload_n 2, 1) := by decide +kernel
theorem d_Brt_help_19 : decode b_Brt_help 19 = .ok (.iload_n 1, 1) := by decide +kernel
theorem d_Brt_help_20 : decode b_Brt_help 20 = .ok (.invokevirtual 149, 3) := by decide +kernel
theorem d_Brt_help_23 : decode b_Brt_help 23 = .ok (.istore_n 3, 1) := by decide +kernel
theorem d_Brt_help_24 : decode b_Brt_help 24 = .ok (.iconst 0, 1) := by decide +kernel
theorem d_Brt_help_25 : decode b_Brt_help 25 = .ok (.istore 4, 2) := by decide +kernel
theorem d_Brt_help_27 : decode b_Brt_help 27 = .ok (.iconst 0, 1) := by decide +kernel
theorem d_Brt_help_28 : decode b_Brt_help 28 = .ok (.istore 5, 2) := by decide +kernel
theorem d_Brt_help_30 : decode b_Brt_help 30 = .ok (.iload 5, 2) := by decide +kernel
theorem d_Brt_help_32 : decode b_Brt_help 32 = .ok (.iload_n 3, 1) := by decide +kernel
theorem d_Brt_help_33 : decode b_Brt_help 33 = .ok (.if_icmp .ge 28, 3) := by decide +kernel
theorem d_Brt_help_36 : decode b_Brt_help 36 = .ok (.iload 4, 2) := by decide +kernel
theorem d_Brt_help_38 : decode b_Brt_help 38 = .ok (.aload_n 2, 1) := by decide +kernel
theorem d_Brt_help_39 : decode b_Brt_help 39 = .ok (.getfield 143, 3) := by decide +kernel
theorem d_Brt_help_42 : decode b_Brt_help 42 = .ok (.aload_n 2, 1) := by decide +kernel
theorem d_Brt_help_43 : decode b_Brt_help 43 = .ok (.getfield 249, 3) := by decide +kernel
theorem d_Brt_help_46 : decode b_Brt_help 46 = .ok (.iload 5, 2) := by decide +kernel
theorem d_Brt_help_48 : decode b_Brt_help 48 = .ok (.iaload, 1) := by decide +kernel
theorem d_Brt_help_49 : decode b_Brt_help 49 = .ok (.iaload, 1) := by decide +kernel
theorem d_Brt_help_50 : decode b_Brt_help 50 = .ok (.invokestatic 225, 3) := by decide +kernel
theorem d_Brt_help_53 : decode b_Brt_help 53 = .ok (.istore 4, 2) := by decide +kernel
theorem d_Brt_help_55 : decode b_Brt_help 55 = .ok (.iinc 5 1, 3) := by decide +kernel
theorem d_Brt_help_58 : decode b_Brt_help 58 = .ok (.goto (-28), 3) := by decide +kernel
theorem d_Brt_help_61 : decode b_Brt_help 61 = .ok (.iload_n 3, 1) := by decide +kernel
theorem d_Brt_help_62 : decode b_Brt_help 62 = .ok (.iconst 1, 1) := by decide +kernel
theorem d_Brt_help_63 : decode b_Brt_help 63 = .ok (.iadd, 1) := by decide +kernel
theorem d_Brt_help_64 : decode b_Brt_help 64 = .ok (.aload_n 2, 1) := by decide +kernel
theorem d_Brt_help_65 : decode b_Brt_help 65 = .ok (.getfield 250, 3) := by decide +kernel
theorem d_Brt_help_68 : decode b_Brt_help 68 = .ok (.if_icmp .ge 19, 3) := by decide +kernel
theorem d_Brt_help_71 : decode b_Brt_help 71 = .ok (.aload_n 2, 1) := by decide +kernel
theorem d_Brt_help_72 : decode b_Brt_help 72 = .ok (.getfield 143, 3) := by decide +kernel
theorem d_Brt_help_75 : decode b_Brt_help 75 = .ok (.aload_n 2, 1) := by decide +kernel
theorem d_Brt_help_76 : decode b_Brt_help 76 = .ok (.getfield 249, 3) := by decide +kernel
theorem d_Brt_help_79 : decode b_Brt_help 79 = .ok (.iload_n 3, 1) := by decide +kernel
theorem d_Brt_help_80 : decode b_Brt_help 80 = .ok (.iconst 1, 1) := by decide +kernel
theorem d_Brt_help_81 : decode b_Brt_help 81 = .ok (.iadd, 1) := by decide +kernel
theorem d_Brt_help_82 : decode b_Brt_help 82 = .ok (.iaload, 1) := by decide +kernel
theorem d_Brt_help_83 : decode b_Brt_help 83 = .ok (.iaload, 1) := by decide +kernel
theorem d_Brt_help_84 : decode b_Brt_help 84 = .ok (.goto 4, 3) := by decide +kernel
theorem d_Brt_help_87 : decode b_Brt_help 87 = .ok (.iconst 0, 1) := by decide +kernel
theorem d_Brt_help_88 : decode b_Brt_help 88 = .ok (.istore 5, 2) := by decide +kernel
theorem d_Brt_help_90 : decode b_Brt_help 90 = .ok (.iload 4, 2) := by decide +kernel
theorem d_Brt_help_92 : decode b_Brt_help 92 = .ok (.iconst 3, 1) := by decide +kernel
theorem d_Brt_help_93 : decode b_Brt_help 93 = .ok (.idiv, 1) := by decide +kernel
theorem d_Brt_help_94 : decode b_Brt_help 94 = .ok (.iload 5, 2) := by decide +kernel
theorem d_Brt_help_96 : decode b_Brt_help 96 = .ok (.iconst 3, 1) := by decide +kernel
theorem d_Brt_help_97 : decode b_Brt_help 97 = .ok (.idiv, 1) := by decide +kernel
theorem d_Brt_help_98 : decode b_Brt_help 98 = .ok (.iadd, 1) := by decide +kernel
theorem d_Brt_help_99 : decode b_Brt_help 99 = .ok (.ireturn, 1) := by decide +kernel
theorem d_Brt_order_0 : decode b_Brt_order 0 = .ok (.iload_n 1, 1) := by decide +kernel
theorem d_Brt_order_1 : decode b_Brt_order 1 = .ok (.iconst (-1), 1) := by decide +kernel
theorem d_Brt_order_2 : decode b_Brt_order 2 = .ok (.if_icmp .ge 5, 3) := by decide +kernel
theorem d_Brt_order_5 : decode b_Brt_order 5 = .ok (.iconst (-1), 1) := by decide +kernel
theorem d_Brt_order_6 : decode b_Brt_order 6 = .ok (.ireturn, 1) := by decide +kernel
theorem d_Brt_order_7 : decode b_Brt_order 7 = .ok (.iload_n 1, 1) := by decide +kernel
theorem d_Brt_order_8 : decode b_Brt_order 8 = .ok (.aload_n 0, 1) := by decide +kernel
theorem d_Brt_order_9 : decode b_Brt_order 9 = .ok (.getfield 10, 3) := by decide +kernel
theorem d_Brt_order_12 : decode b_Brt_order 12 = .ok (.getfield 127, 3) := by decide +kernel
theorem d_Brt_order_15 : decode b_Brt_order 15 = .ok (.getfield 250, 3) := by decide +kernel
theorem d_Brt_order_18 : decode b_Brt_order 18 = .ok (.if_icmp .lt 6, 3) := by decide +kernel
theorem d_Brt_order_21 : decode b_Brt_order 21 = .ok (.bipush (-4), 2) := by decide +kernel
theorem d_Brt_order_23 : decode b_Brt_order 23 = .ok (.ireturn, 1) := by decide +kernel
theorem d_Brt_order_24 : decode b_Brt_order 24 = .ok (.aload_n 0, 1) := by decide +kernel
theorem d_Brt_order_25 : decode b_Brt_order 25 = .ok (.getfield 32, 3) := by decide +kernel
theorem d_Brt_order_28 : decode b_Brt_order 28 = .ok (.aload_n 0, 1) := by decide +kernel
theorem d_Brt_order_29 : decode b_Brt_order 29 = .ok (.getfield 10, 3) := by decide +kernel
theorem d_Brt_order_32 : decode b_Brt_order 32 = .ok (.aload_n 0, 1) := by decide +kernel
theorem d_Brt_order_33 : decode b_Brt_order 33 = .ok (.getfield 25, 3) := by decide +kernel
theorem d_Brt_order_36 : decode b_Brt_order 36 = .ok (.invokevirtual 251, 3) := by decide +kernel
theorem d_Brt_order_39 : decode b_Brt_order 39 = .ok (.iload_n 1, 1) := by decide +kernel
theorem d_Brt_order_40 : decode b_Brt_order 40 = .ok (.iconst (-1), 1) := by decide +kernel
theorem d_Brt_order_41 : decode b_Brt_order 41 = .ok (.if_icmp .ne 13, 3) := by decide +kernel
theorem d_Brt_order_44 : decode b_Brt_order 44 = .ok (.aload_n 0, 1) := by decide +kernel
theorem d_Brt_order_45 : decode b_Brt_order 45 = .ok (.getfield 32, 3) := by decide +kernel
theorem d_Brt_order_48 : decode b_Brt_order 48 = .ok (.getfield 255, 3) := by decide +kernel
theorem d_Brt_order_51 : decode b_Brt_order 51 = .ok (.goto 12, 3) := by decide +kernel
theorem d_Brt_order_54 : decode b_Brt_order 54 = .ok (.aload_n 0, 1) := by decide +kernel
theorem d_Brt_order_55 : decode b_Brt_order 55 = .ok (.getfield 32, 3) := by decide +kernel
theorem d_Brt_order_58 : decode b_Brt_order 58 = .ok (.getfield 258, 3) := by decide +kernel
theorem d_Brt_order_61 : decode b_Brt_order 61 = .ok (.iload_n 1, 1) := by decide +kernel
theorem d_Brt_order_62 : decode b_Brt_order 62 = .ok (.iaload, 1) := by decide +kernel
theorem d_Brt_order_63 : decode b_Brt_order 63 = .ok (.ireturn, 1) := by decide +kernel
theorem d_Brt_othersAreBack_0 : decode b_Brt_othersAreBack 0 = .ok (.aload_n 0, 1) := by decide +kernel
theorem d_Brt_othersAreBack_1 : decode b_Brt_othersAreBack 1 = .ok (.getfield 10, 3) := by decide +kernel
theorem d_Brt_othersAreBack_4 : decode b_Brt_othersAreBack 4 = .ok (.getfield 127, 3) := by decide +kernel
theorem d_Brt_othersAreBack_7 : decode b_Brt_othersAreBack 7 = .ok (.astore_n 2, 1) := by decide +kernel
theorem d_Brt_othersAreBack_8 : decode b_Brt_othersAreBack 8 = .ok (.iconst 0, 1) := by decide +kernel
theorem d_Brt_othersAreBack_9 : decode b_Brt_othersAreBack 9 = .ok (.istore_n 3, 1) := by decide +kernel
theorem d_Brt_othersAreBack_10 : decode b_Brt_othersAreBack 10 = .ok (.iconst 0, 1) := by decide +kernel
theorem d_Brt_othersAreBack_11 : decode b_Brt_othersAreBack 11 = .ok (.istore 4, 2) := by decide +kernel
theorem d_Brt_othersAreBack_13 : decode b_Brt_othersAreBack 13 = .ok (.iload 4, 2) := by decide +kernel
theorem d_Brt_othersAreBack_15 : decode b_Brt_othersAreBack 15 = .ok (.aload_n 2, 1) := by decide +kernel
theorem d_Brt_othersAreBack_16 : decode b_Brt_othersAreBack 16 = .ok (.getfield 250, 3) := by decide +kernel
theorem d_Brt_othersAreBack_19 : decode b_Brt_othersAreBack 19 = .ok (.if_icmp .ge 38, 3) := by decide +kernel
theorem d_Brt_othersAreBack_22 : decode b_Brt_othersAreBack 22 = .ok (.aload_n 2, 1) := by decide +kernel
theorem d_Brt_othersAreBack_23 : decode b_Brt_othersAreBack 23 = .ok (.getfield 249, 3) := by decide +kernel
theorem d_Brt_othersAreBack_26 : decode b_Brt_othersAreBack 26 = .ok (.iload 4, 2) := by decide +kernel
theorem d_Brt_othersAreBack_28 : decode b_Brt_othersAreBack 28 = .ok (.iaload, 1) := by decide +kernel
theorem d_Brt_othersAreBack_29 : decode b_Brt_othersAreBack 29 = .ok (.istore 5, 2) := by decide +kernel
theorem d_Brt_othersAreBack_31 : decode b_Brt_othersAreBack 31 = .ok (.iload_n 1, 1) := by decide +kernel
theorem d_Brt_othersAreBack_32 : decode b_Brt_othersAreBack 32 = .ok (.iload 5, 2) := by decide +kernel
theorem d_Brt_othersAreBack_34 : decode b_Brt_othersAreBack 34 = .ok (.ishr, 1) := by decide +kernel
theorem d_Brt_othersAreBack_35 : decode b_Brt_othersAreBack 35 = .ok (.iconst 1, 1) := by decide +kernel
theorem d_Brt_othersAreBack_36 : decode b_Brt_othersAreBack 36 = .ok (.iand, 1) := by decide +kernel
theorem d_Brt_othersAreBack_37 : decode b_Brt_othersAreBack 37 = .ok (.ifCond .ne 14, 3) := by decide +kernel
theorem d_Brt_othersAreBack_40 : decode b_Brt_othersAreBack 40 = .ok (.aload_n 0, 1) := by decide +kernel
theorem d_Brt_othersAreBack_41 : decode b_Brt_othersAreBack 41 = .ok (.getfield 43, 3) := by decide +kernel
theorem d_Brt_othersAreBack_44 : decode b_Brt_othersAreBack 44 = .ok (.iload_n 3, 1) := by decide +kernel
theorem d_Brt_othersAreBack_45 : decode b_Brt_othersAreBack 45 = .ok (.iload 5, 2) := by decide +kernel
theorem d_Brt_othersAreBack_47 : decode b_Brt_othersAreBack 47 = .ok (.iastore, 1) := by decide +kernel
theorem d_Brt_othersAreBack_48 : decode b_Brt_othersAreBack 48 = .ok (.iinc 3 1, 3) := by decide +kernel
theorem d_Brt_othersAreBack_51 : decode b_Brt_othersAreBack 51 = .ok (.iinc 4 1, 3) := by decide +kernel
theorem d_Brt_othersAreBack_54 : decode b_Brt_othersAreBack 54 = .ok (.goto (-41), 3) := by decide +kernel
theorem d_Brt_othersAreBack_57 : decode b_Brt_othersAreBack 57 = .ok (.aload_n 0, 1) := by decide +kernel
theorem d_Brt_othersAreBack_58 : decode b_Brt_othersAreBack 58 = .ok (.getfield 25, 3) := by decide +kernel
theorem d_Brt_othersAreBack_61 : decode b_Brt_othersAreBack 61 = .ok (.aload_n 0, 1) := by decide +kernel
theorem d_Brt_othersAreBack_62 : decode b_Brt_othersAreBack 62 = .ok (.getfield 10, 3) := by decide +kernel
theorem d_Brt_othersAreBack_65 : decode b_Brt_othersAreBack 65 = .ok (.aload_n 0, 1) := by decide +kernel
theorem d_Brt_othersAreBack_66 : decode b_Brt_othersAreBack 66 = .ok (.getfield 43, 3) := by decide +kernel
theorem d_Brt_othersAreBack_69 : decode b_Brt_othersAreBack 69 = .ok (.iload_n 3, 1) := by decide +kernel
theorem d_Brt_othersAreBack_70 : decode b_Brt_othersAreBack 70 = .ok (.aload_n 0, 1) := by decide +kernel
theorem d_Brt_othersAreBack_71 : decode b_Brt_othersAreBack 71 = .ok (.getfield 10, 3) := by decide +kernel
theorem d_Brt_othersAreBack_74 : decode b_Brt_othersAreBack 74 = .ok (.getfield 111, 3) := by decide +kernel
theorem d_Brt_othersAreBack_77 : decode b_Brt_othersAreBack 77 = .ok (.invokevirtual 402, 3) := by decide +kernel
theorem d_Brt_othersAreBack_80 : decode b_Brt_othersAreBack 80 = .ok (.ireturn, 1) := by decide +kernel
theorem d_Int_bitCount_0 : decode b_Int_bitCount 0 = .ok (.iload_n 0, 1) := by decide +kernel
theorem d_Int_bitCount_1 : decode b_Int_bitCount 1 = .ok (.iload_n 0, 1) := by decide +kernel
theorem d_Int_bitCount_2 : decode b_Int_bitCount 2 = .ok (.iconst 1, 1) := by decide +kernel
theorem d_Int_bitCount_3 : decode b_Int_bitCount 3 = .ok (.iushr, 1) := by decide +kernel
theorem d_Int_bitCount_4 : decode b_Int_bitCount 4 = .ok (.ldc_w 265, 3) := by decide +kernel
theorem d_Int_bitCount_7 : decode b_Int_bitCount 7 = .ok (.iand, 1) := by decide +kernel
theorem d_Int_bitCount_8 : decode b_Int_bitCount 8 = .ok (.isub, 1) := by decide +kernel
theorem d_Int_bitCount_9 : decode b_Int_bitCount 9 = .ok (.istore_n 0, 1) := by decide +kernel
theorem d_Int_bitCount_10 : decode b_Int_bitCount 10 = .ok (.iload_n 0, 1) := by decide +kernel
theorem d_Int_bitCount_11 : decode b_Int_bitCount 11 = .ok (.ldc_w 266, 3) := by decide +kernel
theorem d_Int_bitCount_14 : decode b_Int_bitCount 14 = .ok (.iand, 1) := by decide +kernel
theorem d_Int_bitCount_15 : decode b_Int_bitCount 15 = .ok (.iload_n 0, 1) := by decide +kernel
theorem d_Int_bitCount_16 : decode b_Int_bitCount 16 = .ok (.iconst 2, 1) := by decide +kernel
theorem d_Int_bitCount_17 : decode b_Int_bitCount 17 = .ok (.iushr, 1) := by decide +kernel
theorem d_Int_bitCount_18 : decode b_Int_bitCount 18 = .ok (.ldc_w 266, 3) := by decide +kernel
theorem d_Int_bitCount_21 : decode b_Int_bitCount 21 = .ok (.iand, 1) := by decide +kernel
theorem d_Int_bitCount_22 : decode b_Int_bitCount 22 = .ok (.iadd, 1) := by decide +kernel
theorem d_Int_bitCount_23 : decode b_Int_bitCount 23 = .ok (.istore_n 0, 1) := by decide +kernel
theorem d_Int_bitCount_24 : decode b_Int_bitCount 24 = .ok (.iload_n 0, 1) := by decide +kernel
theorem d_Int_bitCount_25 : decode b_Int_bitCount 25 = .ok (.iload_n 0, 1) := by decide +kernel
theorem d_Int_bitCount_26 : decode b_Int_bitCount 26 = .ok (.iconst 4, 1) := by decide +kernel
theorem d_Int_bitCount_27 : decode b_Int_bitCount 27 = .ok (.iushr, 1) := by decide +kernel
theorem d_Int_bitCount_28 : decode b_Int_bitCount 28 = .ok (.iadd, 1) := by decide +kernel
theorem d_Int_bitCount_29 : decode b_Int_bitCount 29 = .ok (.ldc_w 267, 3) := by decide +kernel
theorem d_Int_bitCount_32 : decode b_Int_bitCount 32 = .ok (.iand, 1) := by decide +kernel
theorem d_Int_bitCount_33 : decode b_Int_bitCount 33 = .ok (.istore_n 0, 1) := by decide +kernel
theorem d_Int_bitCount_34 : decode b_Int_bitCount 34 = .ok (.iload_n 0, 1) := by decide +kernel
theorem d_Int_bitCount_35 : decode b_Int_bitCount 35 = .ok (.iload_n 0, 1) := by decide +kernel
theorem d_Int_bitCount_36 : decode b_Int_bitCount 36 = .ok (.bipush 8, 2) := by decide +kernel
theorem d_Int_bitCount_38 : decode b_Int_bitCount 38 = .ok (.iushr, 1) := by decide +kernel
theorem d_Int_bitCount_39 : decode b_Int_bitCount 39 = .ok (.iadd, 1) := by decide +kernel
theorem d_Int_bitCount_40 : decode b_Int_bitCount 40 = .ok (.istore_n 0, 1) := by decide +kernel
theorem d_Int_bitCount_41 : decode b_Int_bitCount 41 = .ok (.iload_n 0, 1) := by decide +kernel
theorem d_Int_bitCount_42 : decode b_Int_bitCount 42 = .ok (.iload_n 0, 1) := by decide +kernel
theorem d_Int_bitCount_43 : decode b_Int_bitCount 43 = .ok (.bipush 16, 2) := by decide +kernel
theorem d_Int_bitCount_45 : decode b_Int_bitCount 45 = .ok (.iushr, 1) := by decide +kernel
theorem d_Int_bitCount_46 : decode b_Int_bitCount 46 = .ok (.iadd, 1) := by decide +kernel
theorem d_Int_bitCount_47 : decode b_Int_bitCount 47 = .ok (.istore_n 0, 1) := by decide +kernel
theorem d_Int_bitCount_48 : decode b_Int_bitCount 48 = .ok (.iload_n 0, 1) := by decide +kernel
theorem d_Int_bitCount_49 : decode b_Int_bitCount 49 = .ok (.bipush 63, 2) := by decide +kernel
theorem d_Int_bitCount_51 : decode b_Int_bitCount 51 = .ok (.iand, 1) := by decide +kernel
theorem d_Int_bitCount_52 : decode b_Int_bitCount 52 = .ok (.ireturn, 1) := by decide +kernel
theorem d_Brt_stays_0 : decode b_Brt_stays 0 = .ok (.bipush (-4), 2) := by decide +kernel
theorem d_Brt_stays_2 : decode b_Brt_stays 2 = .ok (.istore_n 1, 1) := by decide +kernel
theorem d_Brt_stays_3 : decode b_Brt_stays 3 = .ok (.bipush 7, 2) := by decide +kernel
theorem d_Brt_stays_5 : decode b_Brt_stays 5 = .ok (.istore_n 2, 1) := by decide +kernel
theorem d_Brt_stays_6 : decode b_Brt_stays 6 = .ok (.iconst 1, 1) := by decide +kernel
theorem d_Brt_stays_7 : decode b_Brt_stays 7 = .ok (.aload_n 0, 1) := by decide +kernel
theorem d_Brt_stays_8 : decode b_Brt_stays 8 = .ok (.getfield 10, 3) := by decide +kernel
theorem d_Brt_stays_11 : decode b_Brt_stays 11 = .ok (.getfield 127, 3) := by decide +kernel
theorem d_Brt_stays_14 : decode b_Brt_stays 14 = .ok (.getfield 250, 3) := by decide +kernel
theorem d_Brt_stays_17 : decode b_Brt_stays 17 = .ok (.ishl, 1) := by decide +kernel
theorem d_Brt_stays_18 : decode b_Brt_stays 18 = .ok (.istore_n 3, 1) := by decide +kernel
theorem d_Brt_stays_19 : decode b_Brt_stays 19 = .ok (.iconst 0, 1) := by decide +kernel
theorem d_Brt_stays_20 : decode b_Brt_stays 20 = .ok (.istore 4, 2) := by decide +kernel
theorem d_Brt_stays_22 : decode b_Brt_stays 22 = .ok (.iload 4, 2) := by decide +kernel
theorem d_Brt_stays_24 : decode b_Brt_stays 24 = .ok (.iload_n 3, 1) := by decide +kernel
theorem d_Brt_stays_25 : decode b_Brt_stays 25 = .ok (.if_icmp .ge 37, 3) := by decide +kernel
theorem d_Brt_stays_28 : decode b_Brt_stays 28 = .ok (.iload 4, 2) := by decide +kernel
theorem d_Brt_stays_30 : decode b_Brt_stays 30 = .ok (.invokestatic 259, 3) := by decide +kernel
theorem d_Brt_stays_33 : decode b_Brt_stays 33 = .ok (.istore 5, 2) := by decide +kernel
theorem d_Brt_stays_35 : decode b_Brt_stays 35 = .ok (.iload 5, 2) := by decide +kernel
theorem d_Brt_stays_37 : decode b_Brt_stays 37 = .ok (.iload_n 2, 1) := by decide +kernel
theorem d_Brt_stays_38 : decode b_Brt_stays 38 = .ok (.if_icmp .ge 18, 3) := by decide +kernel
theorem d_Brt_stays_41 : decode b_Brt_stays 41 = .ok (.aload_n 0, 1) := by decide +kernel
theorem d_Brt_stays_42 : decode b_Brt_stays 42 = .ok (.iload 4, 2) := by decide +kernel
theorem d_Brt_stays_44 : decode b_Brt_stays 44 = .ok (.invokevirtual 264, 3) := by decide +kernel
theorem d_Brt_stays_47 : decode b_Brt_stays 47 = .ok (.ifCond .eq 9, 3) := by decide +kernel
theorem d_Brt_stays_50 : decode b_Brt_stays 50 = .ok (.iload 5, 2) := by decide +kernel
theorem d_Brt_stays_52 : decode b_Brt_stays 52 = .ok (.istore_n 2, 1) := by decide +kernel
theorem d_Brt_stays_53 : decode b_Brt_stays 53 = .ok (.iload 4, 2) := by decide +kernel
theorem d_Brt_stays_55 : decode b_Brt_stays 55 = .ok (.istore_n 1, 1) := by decide +kernel
theorem d_Brt_stays_56 : decode b_Brt_stays 56 = .ok (.iinc 4 1, 3) := by decide +kernel
theorem d_Brt_stays_59 : decode b_Brt_stays 59 = .ok (.goto (-37), 3) := by decide +kernel
theorem d_Brt_stays_62 : decode b_Brt_stays 62 = .ok (.iload_n 1, 1) := by decide +kernel
theorem d_Brt_stays_63 : decode b_Brt_stays 63 = .ok (.ireturn, 1) := by decide +kernel
theorem d_Brt_calms_0 : decode b_Brt_calms 0 = .ok (.aload_n 0, 1) := by decide +kernel
theorem d_Brt_calms_1 : decode b_Brt_calms 1 = .ok (.getfield 10, 3) := by decide +kernel
theorem d_Brt_calms_4 : decode b_Brt_calms 4 = .ok (.getfield 127, 3) := by decide +kernel
theorem d_Brt_calms_7 : decode b_Brt_calms 7 = .ok (.iload_n 1, 1) := by decide +kernel
theorem d_Brt_calms_8 : decode b_Brt_calms 8 = .ok (.invokevirtual 131, 3) := by decide +kernel
theorem d_Brt_calms_11 : decode b_Brt_calms 11 = .ok (.ifCond .ne 5, 3) := by decide +kernel
theorem d_Brt_calms_14 : decode b_Brt_calms 14 = .ok (.iconst (-1), 1) := by decide +kernel
theorem d_Brt_calms_15 : decode b_Brt_calms 15 = .ok (.ireturn, 1) := by decide +kernel
theorem d_Brt_calms_16 : decode b_Brt_calms 16 = .ok (.aload_n 0, 1) := by decide +kernel
theorem d_Brt_calms_17 : decode b_Brt_calms 17 = .ok (.getfield 19, 3) := by decide +kernel
theorem d_Brt_calms_20 : decode b_Brt_calms 20 = .ok (.aload_n 0, 1) := by decide +kernel
theorem d_Brt_calms_21 : decode b_Brt_calms 21 = .ok (.getfield 10, 3) := by decide +kernel
theorem d_Brt_calms_24 : decode b_Brt_calms 24 = .ok (.invokevirtual 72, 3) := by decide +kernel
theorem d_Brt_calms_27 : decode b_Brt_calms 27 = .ok (.aload_n 0, 1) := by decide +kernel
theorem d_Brt_calms_28 : decode b_Brt_calms 28 = .ok (.getfield 10, 3) := by decide +kernel
theorem d_Brt_calms_31 : decode b_Brt_calms 31 = .ok (.getfield 127, 3) := by decide +kernel
theorem d_Brt_calms_34 : decode b_Brt_calms 34 = .ok (.getfield 140, 3) := by decide +kernel
theorem d_Brt_calms_37 : decode b_Brt_calms 37 = .ok (.iload_n 1, 1) := by decide +kernel
theorem d_Brt_calms_38 : decode b_Brt_calms 38 = .ok (.iaload, 1) := by decide +kernel
theorem d_Brt_calms_39 : decode b_Brt_calms 39 = .ok (.istore_n 2, 1) := by decide +kernel
theorem d_Brt_calms_40 : decode b_Brt_calms 40 = .ok (.iconst 0, 1) := by decide +kernel
theorem d_Brt_calms_41 : decode b_Brt_calms 41 = .ok (.istore_n 3, 1) := by decide +kernel
theorem d_Brt_calms_42 : decode b_Brt_calms 42 = .ok (.iload_n 3, 1) := by decide +kernel
theorem d_Brt_calms_43 : decode b_Brt_calms 43 = .ok (.iload_n 2, 1) := by decide +kernel
theorem d_Brt_calms_44 : decode b_Brt_calms 44 = .ok (.if_icmp .gt 55, 3) := by decide +kernel
theorem d_Brt_calms_47 : decode b_Brt_calms 47 = .ok (.aload_n 0, 1) := by decide +kernel
theorem d_Brt_calms_48 : decode b_Brt_calms 48 = .ok (.getfield 19, 3) := by decide +kernel
theorem d_Brt_calms_51 : decode b_Brt_calms 51 = .ok (.getfield 127, 3) := by decide +kernel
theorem d_Brt_calms_54 : decode b_Brt_calms 54 = .ok (.getfield 140, 3) := by decide +kernel
theorem d_Brt_calms_57 : decode b_Brt_calms 57 = .ok (.iload_n 1, 1) := by decide +kernel
theorem d_Brt_calms_58 : decode b_Brt_calms 58 = .ok (.iload_n 2, 1) := by decide +kernel
theorem d_Brt_calms_59 : decode b_Brt_calms 59 = .ok (.iload_n 3, 1) := by decide +kernel
theorem d_Brt_calms_60 : decode b_Brt_calms 60 = .ok (.isub, 1) := by decide +kernel
theorem d_Brt_calms_61 : decode b_Brt_calms 61 = .ok (.iastore, 1) := by decide +kernel
theorem d_Brt_calms_62 : decode b_Brt_calms 62 = .ok (.aload_n 0, 1) := by decide +kernel
theorem d_Brt_calms_63 : decode b_Brt_calms 63 = .ok (.getfield 25, 3) := by decide +kernel
theorem d_Brt_calms_66 : decode b_Brt_calms 66 = .ok (.aload_n 0, 1) := by decide +kernel
theorem d_Brt_calms_67 : decode b_Brt_calms 67 = .ok (.getfield 19, 3) := by decide +kernel
theorem d_Brt_calms_70 : decode b_Brt_calms 70 = .ok (.iload_n 1, 1) := by decide +kernel
theorem d_Brt_calms_71 : decode b_Brt_calms 71 = .ok (.iconst 0, 1) := by decide +kernel
theorem d_Brt_calms_72 : decode b_Brt_calms 72 = .ok (.invokevirtual 205, 3) := by decide +kernel
theorem d_Brt_calms_75 : decode b_Brt_calms 75 = .ok (.getfield 219, 3) := by decide +kernel
theorem d_Brt_calms_78 : decode b_Brt_calms 78 = .ok (.bipush (-4), 2) := by decide +kernel
theorem d_Brt_calms_80 : decode b_Brt_calms 80 = .ok (.if_icmp .ne 13, 3) := by decide +kernel
theorem d_Brt_calms_83 : decode b_Brt_calms 83 = .ok (.iload_n 3, 1) := by decide +kernel
theorem d_Brt_calms_84 : decode b_Brt_calms 84 = .ok (.aload_n 0, 1) := by decide +kernel
theorem d_Brt_calms_85 : decode b_Brt_calms 85 = .ok (.getfield 10, 3) := by decide +kernel
theorem d_Brt_calms_88 : decode b_Brt_calms 88 = .ok (.getfield 267, 3) := by decide +kernel
theorem d_Brt_calms_91 : decode b_Brt_calms 91 = .ok (.imul, 1) := by decide +kernel
theorem d_Brt_calms_92 : decode b_Brt_calms 92 = .ok (.ireturn, 1) := by decide +kernel
theorem d_Brt_calms_93 : decode b_Brt_calms 93 = .ok (.iinc 3 1, 3) := by decide +kernel
theorem d_Brt_calms_96 : decode b_Brt_calms 96 = .ok (.goto (-54), 3) := by decide +kernel
theorem d_Brt_calms_99 : decode b_Brt_calms 99 = .ok (.bipush (-4), 2) := by decide +kernel
theorem d_Brt_calms_101 : decode b_Brt_calms 101 = .ok (.ireturn, 1) := by decide +kernel
set_option maxRecDepth 100000 in
theorem cw_Best_find : CwV y_Best_find b_Best_find 6 (none) 2 := ⟨tbl_at 667 (by decide +kernel) rfl, tbl_at 668 (by decide +kernel) rfl, tbl_at 54 (by decide +kernel) rfl, tbl_at 669 rfl rfl, by decide +kernel, by decide +kernel, by decide +kernel⟩
set_option maxRecDepth 100000 in
theorem cw_Bod_traitOf : CwV y_Bod_traitOf b_Bod_traitOf 3 (some FieldType.int) 2 := ⟨tbl_at 535 (by decide +kernel) rfl, tbl_at 536 (by decide +kernel) rfl, tbl_at 51 (by decide +kernel) rfl, tbl_at 537 rfl rfl, by decide +kernel, by decide +kernel, by decide +kernel⟩
set_option maxRecDepth 100000 in
theorem cw_Brt_allGo : CwV y_Brt_allGo b_Brt_allGo 1 (some (FieldType.object "BreatheOut$Leg")) 0 := ⟨tbl_at 638 (by decide +kernel) rfl, tbl_at 4 (by decide +kernel) rfl, tbl_at 48 (by decide +kernel) rfl, tbl_at 639 rfl rfl, by decide +kernel, by decide +kernel, by decide +kernel⟩
set_option maxRecDepth 100000 in
theorem cw_Brt_allReturn : CwV y_Brt_allReturn b_Brt_allReturn 2 (some FieldType.boolean) 1 := ⟨tbl_at 647 (by decide +kernel) rfl, tbl_at 5 (by decide +kernel) rfl, tbl_at 48 (by decide +kernel) rfl, tbl_at 648 rfl rfl, by decide +kernel, by decide +kernel, by decide +kernel⟩
set_option maxRecDepth 100000 in
theorem cw_Brt_othersAreBack : CwV y_Brt_othersAreBack b_Brt_othersAreBack 6 (some FieldType.boolean) 1 := ⟨tbl_at 696 (by decide +kernel) rfl, tbl_at 9 (by decide +kernel) rfl, tbl_at 48 (by decide +kernel) rfl, tbl_at 697 rfl rfl, by decide +kernel, by decide +kernel, by decide +kernel⟩
set_option maxRecDepth 100000 in
theorem cw_Cav_fitOf : CwV y_Cav_fitOf b_Cav_fitOf 4 (some FieldType.int) 2 := ⟨tbl_at 581 (by decide +kernel) rfl, tbl_at 582 (by decide +kernel) rfl, tbl_at 49 (by decide +kernel) rfl, tbl_at 583 rfl rfl, by decide +kernel, by decide +kernel, by decide +kernel⟩
set_option maxRecDepth 100000 in
theorem cw_Cav_hasBoth : CwV y_Cav_hasBoth b_Cav_hasBoth 3 (some FieldType.boolean) 2 := ⟨tbl_at 563 (by decide +kernel) rfl, tbl_at 564 (by decide +kernel) rfl, tbl_at 49 (by decide +kernel) rfl, tbl_at 565 rfl rfl, by decide +kernel, by decide +kernel, by decide +kernel⟩
set_option maxRecDepth 100000 in
theorem cw_Cav_settingOf : CwV y_Cav_settingOf b_Cav_settingOf 2 (some FieldType.int) 1 := ⟨tbl_at 549 (by decide +kernel) rfl, tbl_at 550 (by decide +kernel) rfl, tbl_at 49 (by decide +kernel) rfl, tbl_at 551 rfl rfl, by decide +kernel, by decide +kernel, by decide +kernel⟩
set_option maxRecDepth 100000 in
theorem cw_Int_bitCount : CwS y_Int_bitCount b_Int_bitCount 1 (some FieldType.int) 1 := ⟨tbl_at 689 (by decide +kernel) rfl, tbl_at 62 (by decide +kernel) rfl, tbl_at 690 rfl rfl, by decide +kernel, by decide +kernel, by decide +kernel⟩
set_option maxRecDepth 100000 in
theorem cw_Tri_alone : CwV y_Tri_alone b_Tri_alone 5 (some (FieldType.object "BreatheOut$Leg")) 3 := ⟨tbl_at 597 (by decide +kernel) rfl, tbl_at 598 (by decide +kernel) rfl, tbl_at 52 (by decide +kernel) rfl, tbl_at 599 rfl rfl, by decide +kernel, by decide +kernel, by decide +kernel⟩
set_option maxRecDepth 100000 in
theorem cw_Tri_shutIn : CwV y_Tri_shutIn b_Tri_shutIn 2 (some FieldType.int) 0 := ⟨tbl_at 655 (by decide +kernel) rfl, tbl_at 656 (by decide +kernel) rfl, tbl_at 52 (by decide +kernel) rfl, tbl_at 657 rfl rfl, by decide +kernel, by decide +kernel, by decide +kernel⟩
theorem fl_Brt_209 : Cond.fieldLink R_Brt 209 "BreatheOut$Leg" "where" "I" ∈ tbl := tbl_at 226 (by decide +kernel) rfl
theorem fl_Brt_214 : Cond.fieldLink R_Brt 214 "BreatheOut$Leg" "clock" "I" ∈ tbl := tbl_at 230 (by decide +kernel) rfl
theorem fl_Brt_215 : Cond.fieldLink R_Brt 215 "BreatheOut$Leg" "breaths" "I" ∈ tbl := tbl_at 232 (by decide +kernel) rfl
theorem fl_Brt_219 : Cond.fieldLink R_Brt 219 "BreatheOut$Leg" "stuck" "I" ∈ tbl := tbl_at 224 (by decide +kernel) rfl
theorem fl_Brt_234 : Cond.fieldLink R_Brt 234 "BreatheOut$Leg" "arrived" "I" ∈ tbl := tbl_at 218 (by decide +kernel) rfl
theorem fl_Brt_241 : Cond.fieldLink R_Brt 241 "BreatheOut$Trip" "home" "LBreatheOut$Leg;" ∈ tbl := tbl_at 254 (by decide +kernel) rfl
theorem fl_Brt_249 : Cond.fieldLink R_Brt 249 "BreatheOut$Bodies" "line" "[I" ∈ tbl := tbl_at 154 (by decide +kernel) rfl
theorem fl_Brt_25 : Cond.fieldLink R_Brt 25 "BreatheOut" "trip" "LBreatheOut$Trip;" ∈ tbl := tbl_at 365 (by decide +kernel) rfl
theorem fl_Brt_250 : Cond.fieldLink R_Brt 250 "BreatheOut$Bodies" "count" "I" ∈ tbl := tbl_at 136 (by decide +kernel) rfl
theorem fl_Brt_255 : Cond.fieldLink R_Brt 255 "BreatheOut$BestOrder" "returned" "I" ∈ tbl := tbl_at 272 (by decide +kernel) rfl
theorem fl_Brt_258 : Cond.fieldLink R_Brt 258 "BreatheOut$BestOrder" "line" "[I" ∈ tbl := tbl_at 270 (by decide +kernel) rfl
theorem fl_Brt_267 : Cond.fieldLink R_Brt 267 "BreatheOut$Cave" "calm" "I" ∈ tbl := tbl_at 184 (by decide +kernel) rfl
theorem fl_Brt_336 : Cond.fieldLink R_Brt 336 "BreatheOut$Trip" "there" "LBreatheOut$Leg;" ∈ tbl := tbl_at 251 (by decide +kernel) rfl
theorem fl_Brt_43 : Cond.fieldLink R_Brt 43 "BreatheOut" "line" "[I" ∈ tbl := tbl_at 368 (by decide +kernel) rfl
theorem lc_Brt_218 : Cond.constant R_Brt 218 (2147483647) ∈ tbl := tbl_at 621 (by decide +kernel) rfl
theorem lc_Int_265 : Cond.constant R_Int 265 (1431655765) ∈ tbl := tbl_at 691 (by decide +kernel) rfl
theorem lc_Int_266 : Cond.constant R_Int 266 (858993459) ∈ tbl := tbl_at 692 (by decide +kernel) rfl
theorem lc_Int_267 : Cond.constant R_Int 267 (252645135) ∈ tbl := tbl_at 693 (by decide +kernel) rfl
theorem ml_Brt_169 : Cond.methodLink R_Brt 169 y_Bod_traitOf ∈ tbl := tbl_at 534 (by decide +kernel) rfl
theorem ml_Brt_172 : Cond.methodLink R_Brt 172 y_Bod_alter ∈ tbl := tbl_at 538 (by decide +kernel) rfl
theorem ml_Brt_175 : Cond.methodLink R_Brt 175 y_Bod_swap ∈ tbl := tbl_at 543 (by decide +kernel) rfl
theorem ml_Brt_179 : Cond.methodLink R_Brt 179 y_Cav_settingOf ∈ tbl := tbl_at 548 (by decide +kernel) rfl
theorem ml_Brt_182 : Cond.methodLink R_Brt 182 y_Cav_adjust ∈ tbl := tbl_at 552 (by decide +kernel) rfl
theorem ml_Brt_188 : Cond.methodLink R_Brt 188 y_Cav_goOn ∈ tbl := tbl_at 557 (by decide +kernel) rfl
theorem ml_Brt_191 : Cond.methodLink R_Brt 191 y_Cav_hasBoth ∈ tbl := tbl_at 562 (by decide +kernel) rfl
theorem ml_Brt_194 : Cond.methodLink R_Brt 194 y_Bod_bulkOf ∈ tbl := tbl_at 568 (by decide +kernel) rfl
theorem ml_Brt_198 : Cond.methodLink R_Brt 198 y_Yar_moreBy ∈ tbl := tbl_at 572 (by decide +kernel) rfl
theorem ml_Brt_202 : Cond.methodLink R_Brt 202 y_Cav_fitOf ∈ tbl := tbl_at 580 (by decide +kernel) rfl
theorem ml_Brt_205 : Cond.methodLink R_Brt 205 y_Tri_alone ∈ tbl := tbl_at 596 (by decide +kernel) rfl
theorem ml_Brt_222 : Cond.methodLink R_Brt 222 y_Cav_lackingOf ∈ tbl := tbl_at 626 (by decide +kernel) rfl
theorem ml_Brt_225 : Cond.methodLink R_Brt 225 Lib.Math.max.name ∈ tbl := tbl_at 627 (by decide +kernel) rfl
theorem ml_Brt_230 : Cond.methodLink R_Brt 230 y_Brt_allGo ∈ tbl := tbl_at 636 (by decide +kernel) rfl
theorem ml_Brt_237 : Cond.methodLink R_Brt 237 y_Brt_allReturn ∈ tbl := tbl_at 645 (by decide +kernel) rfl
theorem ml_Brt_245 : Cond.methodLink R_Brt 245 y_Tri_shutIn ∈ tbl := tbl_at 654 (by decide +kernel) rfl
theorem ml_Brt_251 : Cond.methodLink R_Brt 251 y_Best_find ∈ tbl := tbl_at 666 (by decide +kernel) rfl
theorem ml_Brt_259 : Cond.methodLink R_Brt 259 y_Int_bitCount ∈ tbl := tbl_at 688 (by decide +kernel) rfl
theorem ml_Brt_264 : Cond.methodLink R_Brt 264 y_Brt_othersAreBack ∈ tbl := tbl_at 694 (by decide +kernel) rfl
theorem ml_Brt_398 : Cond.methodLink R_Brt 398 y_Leg_passAll ∈ tbl := tbl_at 640 (by decide +kernel) rfl
theorem ml_Brt_402 : Cond.methodLink R_Brt 402 y_Tri_thereAndBack ∈ tbl := tbl_at 649 (by decide +kernel) rfl
def vc_Brt_makes (x1 : Int32) (x2 : Int32) (x3 : Int32) (s : St) (Q : Int32 → St → Prop) : Prop :=
    vc_Bod_traitOf 11 x1 x2 s (fun x10 => vc_Bod_alter 11 x1 x2 x3 s (fun b12 s13 => ((¬ (bi b12) = 0 → vc_Best_forget 58 s13 (fun s15 => Q x10 s15)) ∧ ((bi b12) = 0 → Q (-1) s13))))
def rm_Brt_makes : Room := { frames := 3, cells := 0, slots := 0, locals := 66 }
set_option maxHeartbeats 4000000 in
set_option maxRecDepth 20000 in
theorem m_Brt_makes (g : Gx) (hg : gOk g) (x1 : Int32) (x2 : Int32) (x3 : Int32)  (s : St) (Q : Int32 → St → Prop) (hw : vc_Brt_makes x1 x2 x3 s Q) : Mc g y_Brt_makes b_Brt_makes 5 (some FieldType.int) rm_Brt_makes [.ref (ga g 0), .int x1, .int x2, .int x3] s (fun v s' => ∃ r : Int32, v = some (.int r) ∧ Q r s') := by
  refine mc_ofV (j := 1) (L := [some (.ref (ga g 0)), some (.int x1), some (.int x2), some (.int x3), none]) hg (by decide) (Nat.le_of_ble_eq_true rfl) rfl ?_
  intro X hX C
  subst hX
  unfold vc_Brt_makes at hw
  refine x_aload_n C d_Brt_makes_0 rfl ?_
  refine g_Brt_0 (p := 0) C rfl fl_Brt_10 d_Brt_makes_1 ?_
  refine g_Cav_1 (p := 1) C rfl fl_Brt_127 d_Brt_makes_4 ?_
  refine x_iload_n C d_Brt_makes_7 rfl ?_
  refine x_iload_n C d_Brt_makes_8 rfl ?_
  refine x_callV (As := [.int x1, .int x2]) (rest := []) (p := 11) C (m_Bod_traitOf (xg X) C.2.2.2.2.2.2.1 11 x1 x2 rfl s _ hw) cw_Bod_traitOf ml_Brt_169 rfl (by decide) (by decide) rfl rfl rfl ⟨rfl, rfl, Nat.le_of_ble_eq_true rfl, Nat.le_of_ble_eq_true rfl⟩ ⟨Nat.zero_le _, Nat.zero_le _⟩ rfl (Nat.le_of_ble_eq_true rfl) d_Brt_makes_9 ?_
  rintro _ _ ⟨x10, rfl, rfl, hw⟩
  show V X _ _ _ _ 12 [some (.ref (xa X 0)), some (.int x1), some (.int x2), some (.int x3), none] [.int x10]
  refine x_istore (L' := [some (.ref (xa X 0)), some (.int x1), some (.int x2), some (.int x3), some (.int x10)]) C d_Brt_makes_12 (Nat.le_of_ble_eq_true rfl) rfl ?_
  refine x_aload_n C d_Brt_makes_14 rfl ?_
  refine g_Brt_0 (p := 0) C rfl fl_Brt_10 d_Brt_makes_15 ?_
  refine g_Cav_1 (p := 1) C rfl fl_Brt_127 d_Brt_makes_18 ?_
  refine x_iload_n C d_Brt_makes_21 rfl ?_
  refine x_iload_n C d_Brt_makes_22 rfl ?_
  refine x_iload_n C d_Brt_makes_23 rfl ?_
  refine x_callV (As := [.int x1, .int x2, .int x3]) (rest := []) (p := 11) C (m_Bod_alter (xg X) C.2.2.2.2.2.2.1 11 x1 x2 x3 rfl s _ hw) cw_Bod_alter ml_Brt_172 rfl (by decide) (by decide) rfl rfl rfl ⟨rfl, rfl, Nat.le_of_ble_eq_true rfl, Nat.le_of_ble_eq_true rfl⟩ ⟨Nat.zero_le _, Nat.zero_le _⟩ rfl (Nat.le_of_ble_eq_true rfl) d_Brt_makes_24 ?_
  rintro _ s13 ⟨b12, rfl, hw⟩
  show V X _ _ _ _ 27 [some (.ref (xa X 0)), some (.int x1), some (.int x2), some (.int x3), some (.int x10)] [.int (bi b12)]
  refine x_if_ne (tgt := 32) C d_Brt_makes_27 (by decide) (fun c14 => ?_) (fun c14 => ?_)
  · have hw := hw.1 c14
    refine x_aload_n C d_Brt_makes_32 rfl ?_
    refine g_Brt_4 (p := 0) C rfl fl_Brt_32 d_Brt_makes_33 ?_
    refine x_callV (As := []) (rest := []) (p := 58) C (m_Best_forget (xg X) C.2.2.2.2.2.2.1 58 rfl s13 _ hw) cw_Best_forget ml_Brt_89 rfl (by decide) (by decide) rfl rfl rfl ⟨rfl, rfl, Nat.le_of_ble_eq_true rfl, Nat.le_of_ble_eq_true rfl⟩ ⟨Nat.zero_le _, Nat.zero_le _⟩ rfl (Nat.le_of_ble_eq_true rfl) d_Brt_makes_36 ?_
    rintro _ s15 ⟨rfl, hw⟩
    show V X _ _ _ _ 39 [some (.ref (xa X 0)), some (.int x1), some (.int x2), some (.int x3), some (.int x10)] []
    refine x_iload C d_Brt_makes_39 rfl ?_
    exact x_ireturn C d_Brt_makes_41 ⟨_, rfl, hw⟩
  · have hw := hw.2 c14
    refine x_iconst (v := (-1)) C d_Brt_makes_30 rfl ?_
    exact x_ireturn C d_Brt_makes_31 ⟨_, rfl, hw⟩
def vc_Brt_change (x1 : Int32) (x2 : Int32) (s : St) (Q : Int32 → St → Prop) : Prop :=
    vc_Bod_swap 11 x1 x2 s (fun b10 s11 => ((¬ (bi b10) = 0 → vc_Best_forget 58 s11 (fun s13 => vc_Bod_placeOf 11 x1 s13 (fun x14 => Q x14 s13))) ∧ ((bi b10) = 0 → Q (-1) s11)))
def rm_Brt_change : Room := { frames := 3, cells := 0, slots := 0, locals := 66 }
set_option maxHeartbeats 4000000 in
set_option maxRecDepth 20000 in
theorem m_Brt_change (g : Gx) (hg : gOk g) (x1 : Int32) (x2 : Int32)  (s : St) (Q : Int32 → St → Prop) (hw : vc_Brt_change x1 x2 s Q) : Mc g y_Brt_change b_Brt_change 3 (some FieldType.int) rm_Brt_change [.ref (ga g 0), .int x1, .int x2] s (fun v s' => ∃ r : Int32, v = some (.int r) ∧ Q r s') := by
  refine mc_ofV (j := 0) (L := [some (.ref (ga g 0)), some (.int x1), some (.int x2)]) hg (by decide) (Nat.le_of_ble_eq_true rfl) rfl ?_
  intro X hX C
  subst hX
  unfold vc_Brt_change at hw
  refine x_aload_n C d_Brt_change_0 rfl ?_
  refine g_Brt_0 (p := 0) C rfl fl_Brt_10 d_Brt_change_1 ?_
  refine g_Cav_1 (p := 1) C rfl fl_Brt_127 d_Brt_change_4 ?_
  refine x_iload_n C d_Brt_change_7 rfl ?_
  refine x_iload_n C d_Brt_change_8 rfl ?_
  refine x_callV (As := [.int x1, .int x2]) (rest := []) (p := 11) C (m_Bod_swap (xg X) C.2.2.2.2.2.2.1 11 x1 x2 rfl s _ hw) cw_Bod_swap ml_Brt_175 rfl (by decide) (by decide) rfl rfl rfl ⟨rfl, rfl, Nat.le_of_ble_eq_true rfl, Nat.le_of_ble_eq_true rfl⟩ ⟨Nat.zero_le _, Nat.zero_le _⟩ rfl (Nat.le_of_ble_eq_true rfl) d_Brt_change_9 ?_
  rintro _ s11 ⟨b10, rfl, hw⟩
  show V X _ _ _ _ 12 [some (.ref (xa X 0)), some (.int x1), some (.int x2)] [.int (bi b10)]
  refine x_if_ne (tgt := 17) C d_Brt_change_12 (by decide) (fun c12 => ?_) (fun c12 => ?_)
  · have hw := hw.1 c12
    refine x_aload_n C d_Brt_change_17 rfl ?_
    refine g_Brt_4 (p := 0) C rfl fl_Brt_32 d_Brt_change_18 ?_
    refine x_callV (As := []) (rest := []) (p := 58) C (m_Best_forget (xg X) C.2.2.2.2.2.2.1 58 rfl s11 _ hw) cw_Best_forget ml_Brt_89 rfl (by decide) (by decide) rfl rfl rfl ⟨rfl, rfl, Nat.le_of_ble_eq_true rfl, Nat.le_of_ble_eq_true rfl⟩ ⟨Nat.zero_le _, Nat.zero_le _⟩ rfl (Nat.le_of_ble_eq_true rfl) d_Brt_change_21 ?_
    rintro _ s13 ⟨rfl, hw⟩
    show V X _ _ _ _ 24 [some (.ref (xa X 0)), some (.int x1), some (.int x2)] []
    refine x_aload_n C d_Brt_change_24 rfl ?_
    refine g_Brt_0 (p := 0) C rfl fl_Brt_10 d_Brt_change_25 ?_
    refine g_Cav_1 (p := 1) C rfl fl_Brt_127 d_Brt_change_28 ?_
    refine x_iload_n C d_Brt_change_31 rfl ?_
    refine x_callV (As := [.int x1]) (rest := []) (p := 11) C (m_Bod_placeOf (xg X) C.2.2.2.2.2.2.1 11 x1 rfl s13 _ hw) cw_Bod_placeOf ml_Brt_149 rfl (by decide) (by decide) rfl rfl rfl ⟨rfl, rfl, Nat.le_of_ble_eq_true rfl, Nat.le_of_ble_eq_true rfl⟩ ⟨Nat.zero_le _, Nat.zero_le _⟩ rfl (Nat.le_of_ble_eq_true rfl) d_Brt_change_32 ?_
    rintro _ _ ⟨x14, rfl, rfl, hw⟩
    show V X _ _ _ _ 35 [some (.ref (xa X 0)), some (.int x1), some (.int x2)] [.int x14]
    exact x_ireturn C d_Brt_change_35 ⟨_, rfl, hw⟩
  · have hw := hw.2 c12
    refine x_iconst (v := (-1)) C d_Brt_change_15 rfl ?_
    exact x_ireturn C d_Brt_change_16 ⟨_, rfl, hw⟩
def vc_Brt_set (x1 : Int32) (x2 : Int32) (s : St) (Q : Int32 → St → Prop) : Prop :=
    vc_Cav_settingOf 1 x1 s (fun x10 => vc_Cav_adjust 1 x1 x2 s (fun b12 s13 => ((¬ (bi b12) = 0 → vc_Best_forget 58 s13 (fun s15 => Q x10 s15)) ∧ ((bi b12) = 0 → Q (-1) s13))))
def rm_Brt_set : Room := { frames := 2, cells := 0, slots := 0, locals := 44 }
set_option maxHeartbeats 4000000 in
set_option maxRecDepth 20000 in
theorem m_Brt_set (g : Gx) (hg : gOk g) (x1 : Int32) (x2 : Int32)  (s : St) (Q : Int32 → St → Prop) (hw : vc_Brt_set x1 x2 s Q) : Mc g y_Brt_set b_Brt_set 4 (some FieldType.int) rm_Brt_set [.ref (ga g 0), .int x1, .int x2] s (fun v s' => ∃ r : Int32, v = some (.int r) ∧ Q r s') := by
  refine mc_ofV (j := 1) (L := [some (.ref (ga g 0)), some (.int x1), some (.int x2), none]) hg (by decide) (Nat.le_of_ble_eq_true rfl) rfl ?_
  intro X hX C
  subst hX
  unfold vc_Brt_set at hw
  refine x_aload_n C d_Brt_set_0 rfl ?_
  refine g_Brt_0 (p := 0) C rfl fl_Brt_10 d_Brt_set_1 ?_
  refine x_iload_n C d_Brt_set_4 rfl ?_
  refine x_callV (As := [.int x1]) (rest := []) (p := 1) C (m_Cav_settingOf (xg X) C.2.2.2.2.2.2.1 1 x1 rfl s _ hw) cw_Cav_settingOf ml_Brt_179 rfl (by decide) (by decide) rfl rfl rfl ⟨rfl, rfl, Nat.le_of_ble_eq_true rfl, Nat.le_of_ble_eq_true rfl⟩ ⟨Nat.zero_le _, Nat.zero_le _⟩ rfl (Nat.le_of_ble_eq_true rfl) d_Brt_set_5 ?_
  rintro _ _ ⟨x10, rfl, rfl, hw⟩
  show V X _ _ _ _ 8 [some (.ref (xa X 0)), some (.int x1), some (.int x2), none] [.int x10]
  refine x_istore_n (L' := [some (.ref (xa X 0)), some (.int x1), some (.int x2), some (.int x10)]) C d_Brt_set_8 (Nat.le_of_ble_eq_true rfl) rfl ?_
  refine x_aload_n C d_Brt_set_9 rfl ?_
  refine g_Brt_0 (p := 0) C rfl fl_Brt_10 d_Brt_set_10 ?_
  refine x_iload_n C d_Brt_set_13 rfl ?_
  refine x_iload_n C d_Brt_set_14 rfl ?_
  refine x_callV (As := [.int x1, .int x2]) (rest := []) (p := 1) C (m_Cav_adjust (xg X) C.2.2.2.2.2.2.1 1 x1 x2 rfl s _ hw) cw_Cav_adjust ml_Brt_182 rfl (by decide) (by decide) rfl rfl rfl ⟨rfl, rfl, Nat.le_of_ble_eq_true rfl, Nat.le_of_ble_eq_true rfl⟩ ⟨Nat.zero_le _, Nat.zero_le _⟩ rfl (Nat.le_of_ble_eq_true rfl) d_Brt_set_15 ?_
  rintro _ s13 ⟨b12, rfl, hw⟩
  show V X _ _ _ _ 18 [some (.ref (xa X 0)), some (.int x1), some (.int x2), some (.int x10)] [.int (bi b12)]
  refine x_if_ne (tgt := 23) C d_Brt_set_18 (by decide) (fun c14 => ?_) (fun c14 => ?_)
  · have hw := hw.1 c14
    refine x_aload_n C d_Brt_set_23 rfl ?_
    refine g_Brt_4 (p := 0) C rfl fl_Brt_32 d_Brt_set_24 ?_
    refine x_callV (As := []) (rest := []) (p := 58) C (m_Best_forget (xg X) C.2.2.2.2.2.2.1 58 rfl s13 _ hw) cw_Best_forget ml_Brt_89 rfl (by decide) (by decide) rfl rfl rfl ⟨rfl, rfl, Nat.le_of_ble_eq_true rfl, Nat.le_of_ble_eq_true rfl⟩ ⟨Nat.zero_le _, Nat.zero_le _⟩ rfl (Nat.le_of_ble_eq_true rfl) d_Brt_set_27 ?_
    rintro _ s15 ⟨rfl, hw⟩
    show V X _ _ _ _ 30 [some (.ref (xa X 0)), some (.int x1), some (.int x2), some (.int x10)] []
    refine x_iload_n C d_Brt_set_30 rfl ?_
    exact x_ireturn C d_Brt_set_31 ⟨_, rfl, hw⟩
  · have hw := hw.2 c14
    refine x_iconst (v := (-1)) C d_Brt_set_21 rfl ?_
    exact x_ireturn C d_Brt_set_22 ⟨_, rfl, hw⟩
def vc_Brt_waits (x1 : Int32) (s : St) (Q : Int32 → St → Prop) : Prop :=
    vc_Brt_within x1 0 99 (fun b10 => ((¬ (bi b10) = 0 → vc_Cav_goOn 1 x1 s (fun b13 s14 => ((¬ (bi b13) = 0 → vc_Best_forget 58 s14 (fun s16 => Q (s16 1 5) s16)) ∧ ((bi b13) = 0 → Q (-3) s14)))) ∧ ((bi b10) = 0 → Q (-1) s)))
def rm_Brt_waits : Room := { frames := 1, cells := 0, slots := 0, locals := 22 }
set_option maxHeartbeats 4000000 in
set_option maxRecDepth 20000 in
theorem m_Brt_waits (g : Gx) (hg : gOk g) (x1 : Int32)  (s : St) (Q : Int32 → St → Prop) (hw : vc_Brt_waits x1 s Q) : Mc g y_Brt_waits b_Brt_waits 2 (some FieldType.int) rm_Brt_waits [.ref (ga g 0), .int x1] s (fun v s' => ∃ r : Int32, v = some (.int r) ∧ Q r s') := by
  refine mc_ofV (j := 0) (L := [some (.ref (ga g 0)), some (.int x1)]) hg (by decide) (Nat.le_of_ble_eq_true rfl) rfl ?_
  intro X hX C
  subst hX
  unfold vc_Brt_waits at hw
  refine x_iload_n C d_Brt_waits_0 rfl ?_
  refine x_iconst (v := 0) C d_Brt_waits_1 rfl ?_
  refine x_bipush (v := 99) C d_Brt_waits_2 rfl ?_
  refine x_callS (As := [.int x1, .int 0, .int 99]) (rest := []) C (m_Brt_within (xg X) C.2.2.2.2.2.2.1 x1 0 99 s _ hw) cw_Brt_within ml_Brt_185 rfl ⟨rfl, rfl, Nat.le_of_ble_eq_true rfl, Nat.le_of_ble_eq_true rfl⟩ ⟨Nat.zero_le _, Nat.zero_le _⟩ rfl (Nat.le_of_ble_eq_true rfl) d_Brt_waits_4 ?_
  rintro _ _ ⟨b10, rfl, rfl, hw⟩
  show V X _ _ _ _ 7 [some (.ref (xa X 0)), some (.int x1)] [.int (bi b10)]
  refine x_if_ne (tgt := 12) C d_Brt_waits_7 (by decide) (fun c12 => ?_) (fun c12 => ?_)
  · have hw := hw.1 c12
    refine x_aload_n C d_Brt_waits_12 rfl ?_
    refine g_Brt_0 (p := 0) C rfl fl_Brt_10 d_Brt_waits_13 ?_
    refine x_iload_n C d_Brt_waits_16 rfl ?_
    refine x_callV (As := [.int x1]) (rest := []) (p := 1) C (m_Cav_goOn (xg X) C.2.2.2.2.2.2.1 1 x1 rfl s _ hw) cw_Cav_goOn ml_Brt_188 rfl (by decide) (by decide) rfl rfl rfl ⟨rfl, rfl, Nat.le_of_ble_eq_true rfl, Nat.le_of_ble_eq_true rfl⟩ ⟨Nat.zero_le _, Nat.zero_le _⟩ rfl (Nat.le_of_ble_eq_true rfl) d_Brt_waits_17 ?_
    rintro _ s14 ⟨b13, rfl, hw⟩
    show V X _ _ _ _ 20 [some (.ref (xa X 0)), some (.int x1)] [.int (bi b13)]
    refine x_if_ne (tgt := 26) C d_Brt_waits_20 (by decide) (fun c15 => ?_) (fun c15 => ?_)
    · have hw := hw.1 c15
      refine x_aload_n C d_Brt_waits_26 rfl ?_
      refine g_Brt_4 (p := 0) C rfl fl_Brt_32 d_Brt_waits_27 ?_
      refine x_callV (As := []) (rest := []) (p := 58) C (m_Best_forget (xg X) C.2.2.2.2.2.2.1 58 rfl s14 _ hw) cw_Best_forget ml_Brt_89 rfl (by decide) (by decide) rfl rfl rfl ⟨rfl, rfl, Nat.le_of_ble_eq_true rfl, Nat.le_of_ble_eq_true rfl⟩ ⟨Nat.zero_le _, Nat.zero_le _⟩ rfl (Nat.le_of_ble_eq_true rfl) d_Brt_waits_30 ?_
      rintro _ s16 ⟨rfl, hw⟩
      show V X _ _ _ _ 33 [some (.ref (xa X 0)), some (.int x1)] []
      refine x_aload_n C d_Brt_waits_33 rfl ?_
      refine g_Brt_0 (p := 0) C rfl fl_Brt_10 d_Brt_waits_34 ?_
      refine g_Cav_5 (p := 1) C rfl fl_Brt_111 d_Brt_waits_37 ?_
      exact x_ireturn C d_Brt_waits_40 ⟨_, rfl, hw⟩
    · have hw := hw.2 c15
      refine x_bipush (v := (-3)) C d_Brt_waits_23 rfl ?_
      exact x_ireturn C d_Brt_waits_25 ⟨_, rfl, hw⟩
  · have hw := hw.2 c12
    refine x_iconst (v := (-1)) C d_Brt_waits_10 rfl ?_
    exact x_ireturn C d_Brt_waits_11 ⟨_, rfl, hw⟩
def vc_Brt_size (x1 : Int32) (x2 : Int32) (x3 : Int32) (x4 : Int32) (s : St) (Q : Int32 → Prop) : Prop :=
    vc_Cav_hasBoth 1 x1 x2 s (fun b10 => (((bi b10) = 0 → Q (-1)) ∧ (¬ (bi b10) = 0 → vc_Brt_within x3 0 3 (fun b13 => (((bi b13) = 0 → Q (-1)) ∧ (¬ (bi b13) = 0 → vc_Brt_within x4 0 1 (fun b16 => ((¬ (bi b16) = 0 → (∃ J20 : Int32 → Prop, (∀ (x19 : Int32), J20 x19 → vc_Bod_bulkOf 11 x1 x3 x19 s (fun x21 => vc_Yar_moreBy 2 x3 s (fun p23 => kd p23 = 112 → (vp_in x2 12 ∧ Q (x21 + (s p23 (Int32.toNatClampNeg x2))))))) ∧ ((¬ x4 = 1 → J20 0) ∧ (x4 = 1 → J20 1)))) ∧ ((bi b16) = 0 → Q (-1))))))))))
def rm_Brt_size : Room := { frames := 3, cells := 0, slots := 0, locals := 65 }
set_option maxHeartbeats 4000000 in
set_option maxRecDepth 20000 in
theorem m_Brt_size (g : Gx) (hg : gOk g) (x1 : Int32) (x2 : Int32) (x3 : Int32) (x4 : Int32)  (s : St) (Q : Int32 → Prop) (hw : vc_Brt_size x1 x2 x3 x4 s Q) : Mc g y_Brt_size b_Brt_size 5 (some FieldType.int) rm_Brt_size [.ref (ga g 0), .int x1, .int x2, .int x3, .int x4] s (fun v s' => ∃ r : Int32, v = some (.int r) ∧ s = s' ∧ Q r) := by
  refine mc_ofV (j := 0) (L := [some (.ref (ga g 0)), some (.int x1), some (.int x2), some (.int x3), some (.int x4)]) hg (by decide) (Nat.le_of_ble_eq_true rfl) rfl ?_
  intro X hX C
  subst hX
  unfold vc_Brt_size at hw
  refine x_aload_n C d_Brt_size_0 rfl ?_
  refine g_Brt_0 (p := 0) C rfl fl_Brt_10 d_Brt_size_1 ?_
  refine x_iload_n C d_Brt_size_4 rfl ?_
  refine x_iload_n C d_Brt_size_5 rfl ?_
  refine x_callV (As := [.int x1, .int x2]) (rest := []) (p := 1) C (m_Cav_hasBoth (xg X) C.2.2.2.2.2.2.1 1 x1 x2 rfl s _ hw) cw_Cav_hasBoth ml_Brt_191 rfl (by decide) (by decide) rfl rfl rfl ⟨rfl, rfl, Nat.le_of_ble_eq_true rfl, Nat.le_of_ble_eq_true rfl⟩ ⟨Nat.zero_le _, Nat.zero_le _⟩ rfl (Nat.le_of_ble_eq_true rfl) d_Brt_size_6 ?_
  rintro _ _ ⟨b10, rfl, rfl, hw⟩
  show V X _ _ _ _ 9 [some (.ref (xa X 0)), some (.int x1), some (.int x2), some (.int x3), some (.int x4)] [.int (bi b10)]
  refine x_if_eq (tgt := 31) C d_Brt_size_9 (by decide) (fun c12 => ?_) (fun c12 => ?_)
  · have hw := hw.1 c12
    refine x_iconst (v := (-1)) C d_Brt_size_31 rfl ?_
    exact x_ireturn C d_Brt_size_32 ⟨_, rfl, rfl, hw⟩
  · have hw := hw.2 c12
    refine x_iload_n C d_Brt_size_12 rfl ?_
    refine x_iconst (v := 0) C d_Brt_size_13 rfl ?_
    refine x_iconst (v := 3) C d_Brt_size_14 rfl ?_
    refine x_callS (As := [.int x3, .int 0, .int 3]) (rest := []) C (m_Brt_within (xg X) C.2.2.2.2.2.2.1 x3 0 3 s _ hw) cw_Brt_within ml_Brt_185 rfl ⟨rfl, rfl, Nat.le_of_ble_eq_true rfl, Nat.le_of_ble_eq_true rfl⟩ ⟨Nat.zero_le _, Nat.zero_le _⟩ rfl (Nat.le_of_ble_eq_true rfl) d_Brt_size_15 ?_
    rintro _ _ ⟨b13, rfl, rfl, hw⟩
    show V X _ _ _ _ 18 [some (.ref (xa X 0)), some (.int x1), some (.int x2), some (.int x3), some (.int x4)] [.int (bi b13)]
    refine x_if_eq (tgt := 31) C d_Brt_size_18 (by decide) (fun c15 => ?_) (fun c15 => ?_)
    · have hw := hw.1 c15
      refine x_iconst (v := (-1)) C d_Brt_size_31 rfl ?_
      exact x_ireturn C d_Brt_size_32 ⟨_, rfl, rfl, hw⟩
    · have hw := hw.2 c15
      refine x_iload C d_Brt_size_21 rfl ?_
      refine x_iconst (v := 0) C d_Brt_size_23 rfl ?_
      refine x_iconst (v := 1) C d_Brt_size_24 rfl ?_
      refine x_callS (As := [.int x4, .int 0, .int 1]) (rest := []) C (m_Brt_within (xg X) C.2.2.2.2.2.2.1 x4 0 1 s _ hw) cw_Brt_within ml_Brt_185 rfl ⟨rfl, rfl, Nat.le_of_ble_eq_true rfl, Nat.le_of_ble_eq_true rfl⟩ ⟨Nat.zero_le _, Nat.zero_le _⟩ rfl (Nat.le_of_ble_eq_true rfl) d_Brt_size_25 ?_
      rintro _ _ ⟨b16, rfl, rfl, hw⟩
      show V X _ _ _ _ 28 [some (.ref (xa X 0)), some (.int x1), some (.int x2), some (.int x3), some (.int x4)] [.int (bi b16)]
      refine x_if_ne (tgt := 33) C d_Brt_size_28 (by decide) (fun c18 => ?_) (fun c18 => ?_)
      · have hw := hw.1 c18
        refine x_aload_n C d_Brt_size_33 rfl ?_
        refine g_Brt_0 (p := 0) C rfl fl_Brt_10 d_Brt_size_34 ?_
        refine g_Cav_1 (p := 1) C rfl fl_Brt_127 d_Brt_size_37 ?_
        refine x_iload_n C d_Brt_size_40 rfl ?_
        refine x_iload_n C d_Brt_size_41 rfl ?_
        refine x_iload C d_Brt_size_42 rfl ?_
        refine x_iconst (v := 1) C d_Brt_size_44 rfl ?_
        obtain ⟨J20, hJ20, hw⟩ := hw
        have kJ20 : ∀ (x19 : Int32), J20 x19 → V X (xQ X (fun v s' => ∃ r : Int32, v = some (.int r) ∧ s = s' ∧ Q r)) 0 0 s 53 [some (.ref (xa X 0)), some (.int x1), some (.int x2), some (.int x3), some (.int x4)] [.int x19, .int x3, .int x1, .ref (xa X 11)] := by
          intro x19 hv
          have hw := hJ20 x19 hv
          refine x_callV (As := [.int x1, .int x3, .int x19]) (rest := []) (p := 11) C (m_Bod_bulkOf (xg X) C.2.2.2.2.2.2.1 11 x1 x3 x19 rfl s _ hw) cw_Bod_bulkOf ml_Brt_194 rfl (by decide) (by decide) rfl rfl rfl ⟨rfl, rfl, Nat.le_of_ble_eq_true rfl, Nat.le_of_ble_eq_true rfl⟩ ⟨Nat.zero_le _, Nat.zero_le _⟩ rfl (Nat.le_of_ble_eq_true rfl) d_Brt_size_53 ?_
          rintro _ _ ⟨x21, rfl, rfl, hw⟩
          show V X _ _ _ _ 56 [some (.ref (xa X 0)), some (.int x1), some (.int x2), some (.int x3), some (.int x4)] [.int x21]
          refine x_aload_n C d_Brt_size_56 rfl ?_
          refine g_Brt_0 (p := 0) C rfl fl_Brt_10 d_Brt_size_57 ?_
          refine g_Cav_0 (p := 1) C rfl fl_Brt_92 d_Brt_size_60 ?_
          refine x_iload_n C d_Brt_size_63 rfl ?_
          refine x_callV (As := [.int x3]) (rest := [.int x21]) (p := 2) C (m_Yar_moreBy (xg X) C.2.2.2.2.2.2.1 2 x3 rfl s _ hw) cw_Yar_moreBy ml_Brt_198 rfl (by decide) (by decide) rfl rfl rfl ⟨rfl, rfl, Nat.le_of_ble_eq_true rfl, Nat.le_of_ble_eq_true rfl⟩ ⟨Nat.zero_le _, Nat.zero_le _⟩ rfl (Nat.le_of_ble_eq_true rfl) d_Brt_size_64 ?_
          rintro _ _ ⟨p23, rfl, hkp23, rfl, hw⟩
          have hw := hw hkp23
          show V X _ _ _ _ 67 [some (.ref (xa X 0)), some (.int x1), some (.int x2), some (.int x3), some (.int x4)] [.ref (xa X p23), .int x21]
          refine x_iload_n C d_Brt_size_67 rfl ?_
          obtain ⟨h25, hw⟩ := hw
          refine x_iald (p := p23) (n := 12) C hkp23 h25 d_Brt_size_68 ?_
          refine x_iadd C d_Brt_size_69 ?_
          exact x_ireturn C d_Brt_size_70 ⟨_, rfl, rfl, hw⟩
        refine x_icmp_ne (tgt := 52) C d_Brt_size_45 (by decide) (fun c26 => ?_) (fun c26 => ?_)
        · have hw := hw.1 c26
          refine x_iconst (v := 0) C d_Brt_size_52 rfl ?_
          exact x_wk (kJ20 0 hw) (And.intro rfl (And.intro rfl (And.intro rfl (And.intro rfl (And.intro rfl (trivial))))))
        · have hw := hw.2 c26
          refine x_iconst (v := 1) C d_Brt_size_48 rfl ?_
          refine x_goto (tgt := 53) C d_Brt_size_49 (by decide) ?_
          exact x_wk (kJ20 1 hw) (And.intro rfl (And.intro rfl (And.intro rfl (And.intro rfl (And.intro rfl (trivial))))))
      · have hw := hw.2 c18
        refine x_iconst (v := (-1)) C d_Brt_size_31 rfl ?_
        exact x_ireturn C d_Brt_size_32 ⟨_, rfl, rfl, hw⟩
def vc_Brt_fits (x1 : Int32) (x2 : Int32) (s : St) (Q : Int32 → Prop) : Prop :=
    vc_Cav_hasBoth 1 x1 x2 s (fun b10 => (((bi b10) = 0 → Q (-1)) ∧ (¬ (bi b10) = 0 → vc_Cav_fitOf 1 x1 x2 s (fun x13 => Q x13))))
def rm_Brt_fits : Room := { frames := 4, cells := 0, slots := 0, locals := 90 }
set_option maxHeartbeats 4000000 in
set_option maxRecDepth 20000 in
theorem m_Brt_fits (g : Gx) (hg : gOk g) (x1 : Int32) (x2 : Int32)  (s : St) (Q : Int32 → Prop) (hw : vc_Brt_fits x1 x2 s Q) : Mc g y_Brt_fits b_Brt_fits 3 (some FieldType.int) rm_Brt_fits [.ref (ga g 0), .int x1, .int x2] s (fun v s' => ∃ r : Int32, v = some (.int r) ∧ s = s' ∧ Q r) := by
  refine mc_ofV (j := 0) (L := [some (.ref (ga g 0)), some (.int x1), some (.int x2)]) hg (by decide) (Nat.le_of_ble_eq_true rfl) rfl ?_
  intro X hX C
  subst hX
  unfold vc_Brt_fits at hw
  refine x_aload_n C d_Brt_fits_0 rfl ?_
  refine g_Brt_0 (p := 0) C rfl fl_Brt_10 d_Brt_fits_1 ?_
  refine x_iload_n C d_Brt_fits_4 rfl ?_
  refine x_iload_n C d_Brt_fits_5 rfl ?_
  refine x_callV (As := [.int x1, .int x2]) (rest := []) (p := 1) C (m_Cav_hasBoth (xg X) C.2.2.2.2.2.2.1 1 x1 x2 rfl s _ hw) cw_Cav_hasBoth ml_Brt_191 rfl (by decide) (by decide) rfl rfl rfl ⟨rfl, rfl, Nat.le_of_ble_eq_true rfl, Nat.le_of_ble_eq_true rfl⟩ ⟨Nat.zero_le _, Nat.zero_le _⟩ rfl (Nat.le_of_ble_eq_true rfl) d_Brt_fits_6 ?_
  rintro _ _ ⟨b10, rfl, rfl, hw⟩
  show V X _ _ _ _ 9 [some (.ref (xa X 0)), some (.int x1), some (.int x2)] [.int (bi b10)]
  refine x_if_eq (tgt := 24) C d_Brt_fits_9 (by decide) (fun c12 => ?_) (fun c12 => ?_)
  · have hw := hw.1 c12
    refine x_iconst (v := (-1)) C d_Brt_fits_24 rfl ?_
    exact x_ireturn C d_Brt_fits_25 ⟨_, rfl, rfl, hw⟩
  · have hw := hw.2 c12
    refine x_aload_n C d_Brt_fits_12 rfl ?_
    refine g_Brt_0 (p := 0) C rfl fl_Brt_10 d_Brt_fits_13 ?_
    refine x_iload_n C d_Brt_fits_16 rfl ?_
    refine x_iload_n C d_Brt_fits_17 rfl ?_
    refine x_callV (As := [.int x1, .int x2]) (rest := []) (p := 1) C (m_Cav_fitOf (xg X) C.2.2.2.2.2.2.1 1 x1 x2 rfl s _ hw) cw_Cav_fitOf ml_Brt_202 rfl (by decide) (by decide) rfl rfl rfl ⟨rfl, rfl, Nat.le_of_ble_eq_true rfl, Nat.le_of_ble_eq_true rfl⟩ ⟨Nat.zero_le _, Nat.zero_le _⟩ rfl (Nat.le_of_ble_eq_true rfl) d_Brt_fits_18 ?_
    rintro _ _ ⟨x13, rfl, rfl, hw⟩
    show V X _ _ _ _ 21 [some (.ref (xa X 0)), some (.int x1), some (.int x2)] [.int x13]
    refine x_goto (tgt := 25) C d_Brt_fits_21 (by decide) ?_
    exact x_ireturn C d_Brt_fits_25 ⟨_, rfl, rfl, hw⟩
def vc_Brt_way (x1 : Int32) (x2 : Int32) (x3 : Int32) (s : St) (Q : Int32 → St → Prop) : Prop :=
    vc_Bod_has 11 x1 s (fun b10 => (((bi b10) = 0 → Q (-1) s) ∧ (¬ (bi b10) = 0 → vc_Brt_within x2 0 1 (fun b13 => ((¬ (bi b13) = 0 → (∃ J17 : Int32 → Prop, (∀ (x16 : Int32), J17 x16 → vc_Tri_alone 52 1 x1 x16 s (fun p18 s19 => kd p18 = 6 → ((x3 = 0 → Q (s19 p18 3) s19) ∧ (¬ x3 = 0 → ((x3 = 1 → Q ((s19 p18 4) - (s19 1 5)) s19) ∧ (¬ x3 = 1 → ((x3 = 2 → Q (s19 p18 5) s19) ∧ (¬ x3 = 2 → Q (-1) s19)))))))) ∧ ((¬ x2 = 1 → J17 0) ∧ (x2 = 1 → J17 1)))) ∧ ((bi b13) = 0 → Q (-1) s))))))
def rm_Brt_way : Room := { frames := 5, cells := 0, slots := 0, locals := 130 }
set_option maxHeartbeats 4000000 in
set_option maxRecDepth 20000 in
theorem m_Brt_way (g : Gx) (hg : gOk g) (x1 : Int32) (x2 : Int32) (x3 : Int32)  (s : St) (Q : Int32 → St → Prop) (hw : vc_Brt_way x1 x2 x3 s Q) : Mc g y_Brt_way b_Brt_way 5 (some FieldType.int) rm_Brt_way [.ref (ga g 0), .int x1, .int x2, .int x3] s (fun v s' => ∃ r : Int32, v = some (.int r) ∧ Q r s') := by
  refine mc_ofV (j := 1) (L := [some (.ref (ga g 0)), some (.int x1), some (.int x2), some (.int x3), none]) hg (by decide) (Nat.le_of_ble_eq_true rfl) rfl ?_
  intro X hX C
  subst hX
  unfold vc_Brt_way at hw
  refine x_aload_n C d_Brt_way_0 rfl ?_
  refine g_Brt_0 (p := 0) C rfl fl_Brt_10 d_Brt_way_1 ?_
  refine g_Cav_1 (p := 1) C rfl fl_Brt_127 d_Brt_way_4 ?_
  refine x_iload_n C d_Brt_way_7 rfl ?_
  refine x_callV (As := [.int x1]) (rest := []) (p := 11) C (m_Bod_has (xg X) C.2.2.2.2.2.2.1 11 x1 rfl s _ hw) cw_Bod_has ml_Brt_131 rfl (by decide) (by decide) rfl rfl rfl ⟨rfl, rfl, Nat.le_of_ble_eq_true rfl, Nat.le_of_ble_eq_true rfl⟩ ⟨Nat.zero_le _, Nat.zero_le _⟩ rfl (Nat.le_of_ble_eq_true rfl) d_Brt_way_8 ?_
  rintro _ _ ⟨b10, rfl, rfl, hw⟩
  show V X _ _ _ _ 11 [some (.ref (xa X 0)), some (.int x1), some (.int x2), some (.int x3), none] [.int (bi b10)]
  refine x_if_eq (tgt := 23) C d_Brt_way_11 (by decide) (fun c12 => ?_) (fun c12 => ?_)
  · have hw := hw.1 c12
    refine x_iconst (v := (-1)) C d_Brt_way_23 rfl ?_
    exact x_ireturn C d_Brt_way_24 ⟨_, rfl, hw⟩
  · have hw := hw.2 c12
    refine x_iload_n C d_Brt_way_14 rfl ?_
    refine x_iconst (v := 0) C d_Brt_way_15 rfl ?_
    refine x_iconst (v := 1) C d_Brt_way_16 rfl ?_
    refine x_callS (As := [.int x2, .int 0, .int 1]) (rest := []) C (m_Brt_within (xg X) C.2.2.2.2.2.2.1 x2 0 1 s _ hw) cw_Brt_within ml_Brt_185 rfl ⟨rfl, rfl, Nat.le_of_ble_eq_true rfl, Nat.le_of_ble_eq_true rfl⟩ ⟨Nat.zero_le _, Nat.zero_le _⟩ rfl (Nat.le_of_ble_eq_true rfl) d_Brt_way_17 ?_
    rintro _ _ ⟨b13, rfl, rfl, hw⟩
    show V X _ _ _ _ 20 [some (.ref (xa X 0)), some (.int x1), some (.int x2), some (.int x3), none] [.int (bi b13)]
    refine x_if_ne (tgt := 25) C d_Brt_way_20 (by decide) (fun c15 => ?_) (fun c15 => ?_)
    · have hw := hw.1 c15
      refine x_aload_n C d_Brt_way_25 rfl ?_
      refine g_Brt_3 (p := 0) C rfl fl_Brt_25 d_Brt_way_26 ?_
      refine x_aload_n C d_Brt_way_29 rfl ?_
      refine g_Brt_0 (p := 0) C rfl fl_Brt_10 d_Brt_way_30 ?_
      refine x_iload_n C d_Brt_way_33 rfl ?_
      refine x_iload_n C d_Brt_way_34 rfl ?_
      refine x_iconst (v := 1) C d_Brt_way_35 rfl ?_
      obtain ⟨J17, hJ17, hw⟩ := hw
      have kJ17 : ∀ (x16 : Int32), J17 x16 → V X (xQ X (fun v s' => ∃ r : Int32, v = some (.int r) ∧ Q r s')) 0 0 s 44 [some (.ref (xa X 0)), some (.int x1), some (.int x2), some (.int x3), none] [.int x16, .int x1, .ref (xa X 1), .ref (xa X 52)] := by
        intro x16 hv
        have hw := hJ17 x16 hv
        refine x_callV (As := [.ref (xa X 1), .int x1, .int x16]) (rest := []) (p := 52) C (m_Tri_alone (xg X) C.2.2.2.2.2.2.1 52 1 x1 x16 rfl rfl s _ hw) cw_Tri_alone ml_Brt_205 rfl (by decide) (by decide) rfl rfl rfl ⟨rfl, rfl, Nat.le_of_ble_eq_true rfl, Nat.le_of_ble_eq_true rfl⟩ ⟨Nat.zero_le _, Nat.zero_le _⟩ rfl (Nat.le_of_ble_eq_true rfl) d_Brt_way_44 ?_
        rintro _ s19 ⟨p18, rfl, hkp18, hw⟩
        have hw := hw hkp18
        show V X _ _ _ _ 47 [some (.ref (xa X 0)), some (.int x1), some (.int x2), some (.int x3), none] [.ref (xa X p18)]
        refine x_astore (L' := [some (.ref (xa X 0)), some (.int x1), some (.int x2), some (.int x3), some (.ref (xa X p18))]) C d_Brt_way_47 (Nat.le_of_ble_eq_true rfl) rfl ?_
        refine x_iload_n C d_Brt_way_49 rfl ?_
        by_cases c20 : x3 = 0
        · have hw := hw.1 c20
          refine x_tswIn (v := 0) (off := 26) (tgt := 76) C d_Brt_way_50 c20 (by decide) (by decide) rfl (by decide) ?_
          refine x_aload C d_Brt_way_76 rfl ?_
          refine g_Leg_3 (p := p18) C hkp18 fl_Brt_209 d_Brt_way_78 ?_
          exact x_ireturn C d_Brt_way_81 ⟨_, rfl, hw⟩
        have hw := hw.2 c20
        by_cases c21 : x3 = 1
        · have hw := hw.1 c21
          refine x_tswIn (v := 1) (off := 32) (tgt := 82) C d_Brt_way_50 c21 (by decide) (by decide) rfl (by decide) ?_
          refine x_aload C d_Brt_way_82 rfl ?_
          refine g_Leg_4 (p := p18) C hkp18 fl_Brt_214 d_Brt_way_84 ?_
          refine x_aload_n C d_Brt_way_87 rfl ?_
          refine g_Brt_0 (p := 0) C rfl fl_Brt_10 d_Brt_way_88 ?_
          refine g_Cav_5 (p := 1) C rfl fl_Brt_111 d_Brt_way_91 ?_
          refine x_isub C d_Brt_way_94 ?_
          exact x_ireturn C d_Brt_way_95 ⟨_, rfl, hw⟩
        have hw := hw.2 c21
        by_cases c22 : x3 = 2
        · have hw := hw.1 c22
          refine x_tswIn (v := 2) (off := 46) (tgt := 96) C d_Brt_way_50 c22 (by decide) (by decide) rfl (by decide) ?_
          refine x_aload C d_Brt_way_96 rfl ?_
          refine g_Leg_5 (p := p18) C hkp18 fl_Brt_215 d_Brt_way_98 ?_
          exact x_ireturn C d_Brt_way_101 ⟨_, rfl, hw⟩
        have hw := hw.2 c22
        refine x_tswD (tgt := 102) C d_Brt_way_50 (fun j hj => by match j, hj with | 0, _ => exact Or.inr c20 | 1, _ => exact Or.inr c21 | 2, _ => exact Or.inr c22 | j + 3, hj => exact absurd hj (by omega)) (by decide) ?_
        refine x_iconst (v := (-1)) C d_Brt_way_102 rfl ?_
        exact x_ireturn C d_Brt_way_103 ⟨_, rfl, hw⟩
      refine x_icmp_ne (tgt := 43) C d_Brt_way_36 (by decide) (fun c23 => ?_) (fun c23 => ?_)
      · have hw := hw.1 c23
        refine x_iconst (v := 0) C d_Brt_way_43 rfl ?_
        exact x_wk (kJ17 0 hw) (And.intro rfl (And.intro rfl (And.intro rfl (And.intro rfl (trivial)))))
      · have hw := hw.2 c23
        refine x_iconst (v := 1) C d_Brt_way_39 rfl ?_
        refine x_goto (tgt := 44) C d_Brt_way_40 (by decide) ?_
        exact x_wk (kJ17 1 hw) (And.intro rfl (And.intro rfl (And.intro rfl (And.intro rfl (trivial)))))
    · have hw := hw.2 c15
      refine x_iconst (v := (-1)) C d_Brt_way_23 rfl ?_
      exact x_ireturn C d_Brt_way_24 ⟨_, rfl, hw⟩
def vc_Brt_posture (x1 : Int32) (s : St) (Q : Int32 → St → Prop) : Prop :=
    vc_Bod_has 11 x1 s (fun b10 => ((¬ (bi b10) = 0 → vc_Cav_become 35 1 s (fun s13 => (∃ I18 : Nat → Int32 → Int32 → Int32 → St → Prop, (∃ n19, I18 n19 (-4) 2147483647 0 s13) ∧ ∀ (nI18 : Nat) (x14 : Int32) (x15 : Int32) (x16 : Int32) (s17 : St), I18 nI18 x14 x15 x16 s17 → ((4 ≤ x16 → Q x14 s17) ∧ (¬ 4 ≤ x16 → (vp_in x1 6 ∧ (∀ s22 : St, s22 = wr s17 50 (Int32.toNatClampNeg x1) x16 → vc_Tri_alone 52 35 x1 0 s22 (fun p23 s24 => kd p23 = 6 → (∃ J27 : Int32 → Int32 → Prop, (∀ (x25 : Int32) (x26 : Int32), J27 x25 x26 → (∀ x28 : Int32, x28 = x16 + 1 → ∃ m29, m29 < nI18 ∧ I18 m29 x25 x26 x28 s24)) ∧ ((¬ (s24 p23 2) = (-4) → J27 x14 x15) ∧ ((s24 p23 2) = (-4) → ((x15 ≤ (s24 p23 5) → J27 x14 x15) ∧ (¬ x15 ≤ (s24 p23 5) → (∀ x32 : Int32, x32 = s24 p23 5 → J27 x16 x32)))))))))))))) ∧ ((bi b10) = 0 → Q (-1) s)))
def rm_Brt_posture : Room := { frames := 5, cells := 0, slots := 0, locals := 130 }
set_option maxHeartbeats 4000000 in
set_option maxRecDepth 20000 in
theorem m_Brt_posture (g : Gx) (hg : gOk g) (x1 : Int32)  (s : St) (Q : Int32 → St → Prop) (hw : vc_Brt_posture x1 s Q) : Mc g y_Brt_posture b_Brt_posture 6 (some FieldType.int) rm_Brt_posture [.ref (ga g 0), .int x1] s (fun v s' => ∃ r : Int32, v = some (.int r) ∧ Q r s') := by
  refine mc_ofV (j := 4) (L := [some (.ref (ga g 0)), some (.int x1), none, none, none, none]) hg (by decide) (Nat.le_of_ble_eq_true rfl) rfl ?_
  intro X hX C
  subst hX
  unfold vc_Brt_posture at hw
  refine x_aload_n C d_Brt_posture_0 rfl ?_
  refine g_Brt_0 (p := 0) C rfl fl_Brt_10 d_Brt_posture_1 ?_
  refine g_Cav_1 (p := 1) C rfl fl_Brt_127 d_Brt_posture_4 ?_
  refine x_iload_n C d_Brt_posture_7 rfl ?_
  refine x_callV (As := [.int x1]) (rest := []) (p := 11) C (m_Bod_has (xg X) C.2.2.2.2.2.2.1 11 x1 rfl s _ hw) cw_Bod_has ml_Brt_131 rfl (by decide) (by decide) rfl rfl rfl ⟨rfl, rfl, Nat.le_of_ble_eq_true rfl, Nat.le_of_ble_eq_true rfl⟩ ⟨Nat.zero_le _, Nat.zero_le _⟩ rfl (Nat.le_of_ble_eq_true rfl) d_Brt_posture_8 ?_
  rintro _ _ ⟨b10, rfl, rfl, hw⟩
  show V X _ _ _ _ 11 [some (.ref (xa X 0)), some (.int x1), none, none, none, none] [.int (bi b10)]
  refine x_if_ne (tgt := 16) C d_Brt_posture_11 (by decide) (fun c12 => ?_) (fun c12 => ?_)
  · have hw := hw.1 c12
    refine x_aload_n C d_Brt_posture_16 rfl ?_
    refine g_Brt_2 (p := 0) C rfl fl_Brt_19 d_Brt_posture_17 ?_
    refine x_aload_n C d_Brt_posture_20 rfl ?_
    refine g_Brt_0 (p := 0) C rfl fl_Brt_10 d_Brt_posture_21 ?_
    refine x_callV (As := [.ref (xa X 1)]) (rest := []) (p := 35) C (m_Cav_become (xg X) C.2.2.2.2.2.2.1 35 1 rfl rfl s _ hw) cw_Cav_become ml_Brt_72 rfl (by decide) (by decide) rfl rfl rfl ⟨rfl, rfl, Nat.le_of_ble_eq_true rfl, Nat.le_of_ble_eq_true rfl⟩ ⟨Nat.zero_le _, Nat.zero_le _⟩ rfl (Nat.le_of_ble_eq_true rfl) d_Brt_posture_24 ?_
    rintro _ s13 ⟨rfl, hw⟩
    show V X _ _ _ _ 27 [some (.ref (xa X 0)), some (.int x1), none, none, none, none] []
    refine x_bipush (v := (-4)) C d_Brt_posture_27 rfl ?_
    refine x_istore_n (L' := [some (.ref (xa X 0)), some (.int x1), some (.int (-4)), none, none, none]) C d_Brt_posture_29 (Nat.le_of_ble_eq_true rfl) rfl ?_
    refine x_ldc (v := 2147483647) C d_Brt_posture_30 lc_Brt_218 ?_
    refine x_istore_n (L' := [some (.ref (xa X 0)), some (.int x1), some (.int (-4)), some (.int 2147483647), none, none]) C d_Brt_posture_32 (Nat.le_of_ble_eq_true rfl) rfl ?_
    refine x_iconst (v := 0) C d_Brt_posture_33 rfl ?_
    refine x_istore (L' := [some (.ref (xa X 0)), some (.int x1), some (.int (-4)), some (.int 2147483647), some (.int 0), none]) C d_Brt_posture_34 (Nat.le_of_ble_eq_true rfl) rfl ?_
    obtain ⟨I18, ⟨n19, hn19⟩, hI18⟩ := hw
    have lI18 : ∀ (nI18 : Nat) (x14 : Int32) (x15 : Int32) (x16 : Int32) (s17 : St), I18 nI18 x14 x15 x16 s17 → V X (xQ X (fun v s' => ∃ r : Int32, v = some (.int r) ∧ Q r s')) 0 0 s17 36 [some (.ref (xa X 0)), some (.int x1), some (.int x14), some (.int x15), some (.int x16), none] [] := by
      intro nI18
      induction nI18 using Nat.strongRecOn with
      | ind nI18 ihI18 =>
        intro x14 x15 x16 s17 hv
        have hw := hI18 nI18 x14 x15 x16 s17 hv
        refine x_iload C d_Brt_posture_36 rfl ?_
        refine x_iconst (v := 4) C d_Brt_posture_38 rfl ?_
        refine x_icmp_ge (tgt := 105) C d_Brt_posture_39 (by decide) (fun c20 => ?_) (fun c20 => ?_)
        · have hw := hw.1 c20
          refine x_iload_n C d_Brt_posture_105 rfl ?_
          exact x_ireturn C d_Brt_posture_106 ⟨_, rfl, hw⟩
        · have hw := hw.2 c20
          refine x_aload_n C d_Brt_posture_42 rfl ?_
          refine g_Brt_2 (p := 0) C rfl fl_Brt_19 d_Brt_posture_43 ?_
          refine g_Cav_1 (p := 35) C rfl fl_Brt_127 d_Brt_posture_46 ?_
          refine g_Bod_5 (p := 45) C rfl fl_Brt_146 d_Brt_posture_49 ?_
          refine x_iload_n C d_Brt_posture_52 rfl ?_
          refine x_iload C d_Brt_posture_53 rfl ?_
          obtain ⟨h21, hw⟩ := hw
          refine x_iast (p := 50) (n := 6) C rfl h21 d_Brt_posture_55 ?_
          refine x_st (fun s22 hs22 => ?_)
          have hw := hw s22 hs22
          refine x_aload_n C d_Brt_posture_56 rfl ?_
          refine g_Brt_3 (p := 0) C rfl fl_Brt_25 d_Brt_posture_57 ?_
          refine x_aload_n C d_Brt_posture_60 rfl ?_
          refine g_Brt_2 (p := 0) C rfl fl_Brt_19 d_Brt_posture_61 ?_
          refine x_iload_n C d_Brt_posture_64 rfl ?_
          refine x_iconst (v := 0) C d_Brt_posture_65 rfl ?_
          refine x_callV (As := [.ref (xa X 35), .int x1, .int 0]) (rest := []) (p := 52) C (m_Tri_alone (xg X) C.2.2.2.2.2.2.1 52 35 x1 0 rfl rfl s22 _ hw) cw_Tri_alone ml_Brt_205 rfl (by decide) (by decide) rfl rfl rfl ⟨rfl, rfl, Nat.le_of_ble_eq_true rfl, Nat.le_of_ble_eq_true rfl⟩ ⟨Nat.zero_le _, Nat.zero_le _⟩ rfl (Nat.le_of_ble_eq_true rfl) d_Brt_posture_66 ?_
          rintro _ s24 ⟨p23, rfl, hkp23, hw⟩
          have hw := hw hkp23
          show V X _ _ _ _ 69 [some (.ref (xa X 0)), some (.int x1), some (.int x14), some (.int x15), some (.int x16), none] [.ref (xa X p23)]
          refine x_astore (L' := [some (.ref (xa X 0)), some (.int x1), some (.int x14), some (.int x15), some (.int x16), some (.ref (xa X p23))]) C d_Brt_posture_69 (Nat.le_of_ble_eq_true rfl) rfl ?_
          refine x_aload C d_Brt_posture_71 rfl ?_
          refine g_Leg_2 (p := p23) C hkp23 fl_Brt_219 d_Brt_posture_73 ?_
          refine x_bipush (v := (-4)) C d_Brt_posture_76 rfl ?_
          obtain ⟨J27, hJ27, hw⟩ := hw
          have kJ27 : ∀ (x25 : Int32) (x26 : Int32), J27 x25 x26 → V X (xQ X (fun v s' => ∃ r : Int32, v = some (.int r) ∧ Q r s')) 0 0 s24 99 [some (.ref (xa X 0)), some (.int x1), some (.int x25), some (.int x26), some (.int x16), some (.ref (xa X p23))] [] := by
            intro x25 x26 hv
            have hw := hJ27 x25 x26 hv
            obtain ⟨x28, hx28⟩ : ∃ z : Int32, z = x16 + 1 := ⟨_, rfl⟩
            refine x_iinc (v := x28) (L' := [some (.ref (xa X 0)), some (.int x1), some (.int x25), some (.int x26), some (.int x28), some (.ref (xa X p23))]) C d_Brt_posture_99 (Nat.le_of_ble_eq_true rfl) rfl (by rw [hx28]; rfl) rfl ?_
            have hw := hw x28 hx28
            refine x_goto (tgt := 36) C d_Brt_posture_102 (by decide) ?_
            obtain ⟨m29, hm29, hw⟩ := hw
            exact x_wk (ihI18 m29 hm29 x25 x26 x28 s24 hw) (And.intro rfl (And.intro rfl (And.intro rfl (And.intro rfl (And.intro rfl (trivial))))))
          refine x_icmp_ne (tgt := 99) C d_Brt_posture_78 (by decide) (fun c30 => ?_) (fun c30 => ?_)
          · have hw := hw.1 c30
            exact x_wk (kJ27 x14 x15 hw) (And.intro rfl (And.intro rfl (And.intro rfl (And.intro rfl (And.intro rfl (And.intro rfl (trivial)))))))
          · have hw := hw.2 c30
            refine x_aload C d_Brt_posture_81 rfl ?_
            refine g_Leg_5 (p := p23) C hkp23 fl_Brt_215 d_Brt_posture_83 ?_
            refine x_iload_n C d_Brt_posture_86 rfl ?_
            refine x_icmp_ge (tgt := 99) C d_Brt_posture_87 (by decide) (fun c31 => ?_) (fun c31 => ?_)
            · have hw := hw.1 c31
              exact x_wk (kJ27 x14 x15 hw) (And.intro rfl (And.intro rfl (And.intro rfl (And.intro rfl (And.intro rfl (And.intro rfl (trivial)))))))
            · have hw := hw.2 c31
              refine x_aload C d_Brt_posture_90 rfl ?_
              refine g_Leg_5 (p := p23) C hkp23 fl_Brt_215 d_Brt_posture_92 ?_
              refine x_nm (fun x32 hx32 => ?_)
              have hw := hw x32 hx32
              refine x_istore_n (L' := [some (.ref (xa X 0)), some (.int x1), some (.int x14), some (.int x32), some (.int x16), some (.ref (xa X p23))]) C d_Brt_posture_95 (Nat.le_of_ble_eq_true rfl) rfl ?_
              refine x_iload C d_Brt_posture_96 rfl ?_
              refine x_istore_n (L' := [some (.ref (xa X 0)), some (.int x1), some (.int x16), some (.int x32), some (.int x16), some (.ref (xa X p23))]) C d_Brt_posture_98 (Nat.le_of_ble_eq_true rfl) rfl ?_
              exact x_wk (kJ27 x16 x32 hw) (And.intro rfl (And.intro rfl (And.intro rfl (And.intro rfl (And.intro rfl (And.intro rfl (trivial)))))))
    exact x_wk (lI18 n19 (-4) 2147483647 0 s13 hn19) (And.intro rfl (And.intro rfl (And.intro rfl (And.intro rfl (And.intro rfl (trivial))))))
  · have hw := hw.2 c12
    refine x_iconst (v := (-1)) C d_Brt_posture_14 rfl ?_
    exact x_ireturn C d_Brt_posture_15 ⟨_, rfl, hw⟩
def vc_Brt_lacks (x1 : Int32) (s : St) (Q : Int32 → Prop) : Prop :=
    vc_Bod_has 11 x1 s (fun b10 => ((¬ (bi b10) = 0 → (∃ I15 : Nat → Int32 → Int32 → Prop, (∃ n16, I15 n16 0 0) ∧ ∀ (nI15 : Nat) (x13 : Int32) (x14 : Int32), I15 nI15 x13 x14 → (((s 2 0) ≤ x14 → Q x13) ∧ (¬ (s 2 0) ≤ x14 → vc_Cav_lackingOf 1 x1 x14 s (fun x18 => (∀ x20 : Int32, x20 = imax x13 x18 → (∀ x21 : Int32, x21 = x14 + 1 → ∃ m22, m22 < nI15 ∧ I15 m22 x20 x21))))))) ∧ ((bi b10) = 0 → Q (-1))))
def rm_Brt_lacks : Room := { frames := 3, cells := 0, slots := 0, locals := 67 }
set_option maxHeartbeats 4000000 in
set_option maxRecDepth 20000 in
theorem m_Brt_lacks (g : Gx) (hg : gOk g) (x1 : Int32)  (s : St) (Q : Int32 → Prop) (hw : vc_Brt_lacks x1 s Q) : Mc g y_Brt_lacks b_Brt_lacks 4 (some FieldType.int) rm_Brt_lacks [.ref (ga g 0), .int x1] s (fun v s' => ∃ r : Int32, v = some (.int r) ∧ s = s' ∧ Q r) := by
  refine mc_ofV (j := 2) (L := [some (.ref (ga g 0)), some (.int x1), none, none]) hg (by decide) (Nat.le_of_ble_eq_true rfl) rfl ?_
  intro X hX C
  subst hX
  unfold vc_Brt_lacks at hw
  refine x_aload_n C d_Brt_lacks_0 rfl ?_
  refine g_Brt_0 (p := 0) C rfl fl_Brt_10 d_Brt_lacks_1 ?_
  refine g_Cav_1 (p := 1) C rfl fl_Brt_127 d_Brt_lacks_4 ?_
  refine x_iload_n C d_Brt_lacks_7 rfl ?_
  refine x_callV (As := [.int x1]) (rest := []) (p := 11) C (m_Bod_has (xg X) C.2.2.2.2.2.2.1 11 x1 rfl s _ hw) cw_Bod_has ml_Brt_131 rfl (by decide) (by decide) rfl rfl rfl ⟨rfl, rfl, Nat.le_of_ble_eq_true rfl, Nat.le_of_ble_eq_true rfl⟩ ⟨Nat.zero_le _, Nat.zero_le _⟩ rfl (Nat.le_of_ble_eq_true rfl) d_Brt_lacks_8 ?_
  rintro _ _ ⟨b10, rfl, rfl, hw⟩
  show V X _ _ _ _ 11 [some (.ref (xa X 0)), some (.int x1), none, none] [.int (bi b10)]
  refine x_if_ne (tgt := 16) C d_Brt_lacks_11 (by decide) (fun c12 => ?_) (fun c12 => ?_)
  · have hw := hw.1 c12
    refine x_iconst (v := 0) C d_Brt_lacks_16 rfl ?_
    refine x_istore_n (L' := [some (.ref (xa X 0)), some (.int x1), some (.int 0), none]) C d_Brt_lacks_17 (Nat.le_of_ble_eq_true rfl) rfl ?_
    refine x_iconst (v := 0) C d_Brt_lacks_18 rfl ?_
    refine x_istore_n (L' := [some (.ref (xa X 0)), some (.int x1), some (.int 0), some (.int 0)]) C d_Brt_lacks_19 (Nat.le_of_ble_eq_true rfl) rfl ?_
    obtain ⟨I15, ⟨n16, hn16⟩, hI15⟩ := hw
    have lI15 : ∀ (nI15 : Nat) (x13 : Int32) (x14 : Int32), I15 nI15 x13 x14 → V X (xQ X (fun v s' => ∃ r : Int32, v = some (.int r) ∧ s = s' ∧ Q r)) 0 0 s 20 [some (.ref (xa X 0)), some (.int x1), some (.int x13), some (.int x14)] [] := by
      intro nI15
      induction nI15 using Nat.strongRecOn with
      | ind nI15 ihI15 =>
        intro x13 x14 hv
        have hw := hI15 nI15 x13 x14 hv
        refine x_iload_n C d_Brt_lacks_20 rfl ?_
        refine x_aload_n C d_Brt_lacks_21 rfl ?_
        refine g_Brt_0 (p := 0) C rfl fl_Brt_10 d_Brt_lacks_22 ?_
        refine g_Cav_0 (p := 1) C rfl fl_Brt_92 d_Brt_lacks_25 ?_
        refine g_Yar_0 (p := 2) C rfl fl_Brt_166 d_Brt_lacks_28 ?_
        refine x_icmp_ge (tgt := 54) C d_Brt_lacks_31 (by decide) (fun c17 => ?_) (fun c17 => ?_)
        · have hw := hw.1 c17
          refine x_iload_n C d_Brt_lacks_54 rfl ?_
          exact x_ireturn C d_Brt_lacks_55 ⟨_, rfl, rfl, hw⟩
        · have hw := hw.2 c17
          refine x_iload_n C d_Brt_lacks_34 rfl ?_
          refine x_aload_n C d_Brt_lacks_35 rfl ?_
          refine g_Brt_0 (p := 0) C rfl fl_Brt_10 d_Brt_lacks_36 ?_
          refine x_iload_n C d_Brt_lacks_39 rfl ?_
          refine x_iload_n C d_Brt_lacks_40 rfl ?_
          refine x_callV (As := [.int x1, .int x14]) (rest := [.int x13]) (p := 1) C (m_Cav_lackingOf (xg X) C.2.2.2.2.2.2.1 1 x1 x14 rfl s _ hw) cw_Cav_lackingOf ml_Brt_222 rfl (by decide) (by decide) rfl rfl rfl ⟨rfl, rfl, Nat.le_of_ble_eq_true rfl, Nat.le_of_ble_eq_true rfl⟩ ⟨Nat.zero_le _, Nat.zero_le _⟩ rfl (Nat.le_of_ble_eq_true rfl) d_Brt_lacks_41 ?_
          rintro _ _ ⟨x18, rfl, rfl, hw⟩
          show V X _ _ _ _ 44 [some (.ref (xa X 0)), some (.int x1), some (.int x13), some (.int x14)] [.int x18, .int x13]
          refine x_mmax C ml_Brt_225 (Nat.le_of_ble_eq_true rfl) (Nat.le_of_ble_eq_true rfl) ⟨Nat.zero_le _, Nat.zero_le _⟩ d_Brt_lacks_44 ?_
          refine x_nm (fun x20 hx20 => ?_)
          have hw := hw x20 hx20
          refine x_istore_n (L' := [some (.ref (xa X 0)), some (.int x1), some (.int x20), some (.int x14)]) C d_Brt_lacks_47 (Nat.le_of_ble_eq_true rfl) rfl ?_
          obtain ⟨x21, hx21⟩ : ∃ z : Int32, z = x14 + 1 := ⟨_, rfl⟩
          refine x_iinc (v := x21) (L' := [some (.ref (xa X 0)), some (.int x1), some (.int x20), some (.int x21)]) C d_Brt_lacks_48 (Nat.le_of_ble_eq_true rfl) rfl (by rw [hx21]; rfl) rfl ?_
          have hw := hw x21 hx21
          refine x_goto (tgt := 20) C d_Brt_lacks_51 (by decide) ?_
          obtain ⟨m22, hm22, hw⟩ := hw
          exact x_wk (ihI15 m22 hm22 x20 x21 hw) (And.intro rfl (And.intro rfl (And.intro rfl (And.intro rfl (trivial)))))
    exact x_wk (lI15 n16 0 0 hn16) (And.intro rfl (And.intro rfl (And.intro rfl (And.intro rfl (trivial)))))
  · have hw := hw.2 c12
    refine x_iconst (v := (-1)) C d_Brt_lacks_14 rfl ?_
    exact x_ireturn C d_Brt_lacks_15 ⟨_, rfl, rfl, hw⟩
def vc_Brt_widest (x1 : Int32) (s : St) (Q : Int32 → St → Prop) : Prop :=
    vc_Bod_has 11 x1 s (fun b10 => ((¬ (bi b10) = 0 → vc_Cav_become 35 1 s (fun s13 => (∃ I16 : Nat → Int32 → St → Prop, (∃ n17, I16 n17 50 s13) ∧ ∀ (nI16 : Nat) (x14 : Int32) (s15 : St), I16 nI16 x14 s15 → ((x14 < 10 → Q (-4) s15) ∧ (¬ x14 < 10 → (vp_in x1 6 ∧ (∀ s20 : St, s20 = wr s15 46 (Int32.toNatClampNeg x1) x14 → vc_Tri_alone 52 35 x1 0 s20 (fun p21 s22 => kd p21 = 6 → ((¬ (s22 p21 2) = (-4) → (∀ x24 : Int32, x24 = x14 + (-1) → ∃ m25, m25 < nI16 ∧ I16 m25 x24 s22)) ∧ ((s22 p21 2) = (-4) → Q x14 s22)))))))))) ∧ ((bi b10) = 0 → Q (-1) s)))
def rm_Brt_widest : Room := { frames := 5, cells := 0, slots := 0, locals := 130 }
set_option maxHeartbeats 4000000 in
set_option maxRecDepth 20000 in
theorem m_Brt_widest (g : Gx) (hg : gOk g) (x1 : Int32)  (s : St) (Q : Int32 → St → Prop) (hw : vc_Brt_widest x1 s Q) : Mc g y_Brt_widest b_Brt_widest 3 (some FieldType.int) rm_Brt_widest [.ref (ga g 0), .int x1] s (fun v s' => ∃ r : Int32, v = some (.int r) ∧ Q r s') := by
  refine mc_ofV (j := 1) (L := [some (.ref (ga g 0)), some (.int x1), none]) hg (by decide) (Nat.le_of_ble_eq_true rfl) rfl ?_
  intro X hX C
  subst hX
  unfold vc_Brt_widest at hw
  refine x_aload_n C d_Brt_widest_0 rfl ?_
  refine g_Brt_0 (p := 0) C rfl fl_Brt_10 d_Brt_widest_1 ?_
  refine g_Cav_1 (p := 1) C rfl fl_Brt_127 d_Brt_widest_4 ?_
  refine x_iload_n C d_Brt_widest_7 rfl ?_
  refine x_callV (As := [.int x1]) (rest := []) (p := 11) C (m_Bod_has (xg X) C.2.2.2.2.2.2.1 11 x1 rfl s _ hw) cw_Bod_has ml_Brt_131 rfl (by decide) (by decide) rfl rfl rfl ⟨rfl, rfl, Nat.le_of_ble_eq_true rfl, Nat.le_of_ble_eq_true rfl⟩ ⟨Nat.zero_le _, Nat.zero_le _⟩ rfl (Nat.le_of_ble_eq_true rfl) d_Brt_widest_8 ?_
  rintro _ _ ⟨b10, rfl, rfl, hw⟩
  show V X _ _ _ _ 11 [some (.ref (xa X 0)), some (.int x1), none] [.int (bi b10)]
  refine x_if_ne (tgt := 16) C d_Brt_widest_11 (by decide) (fun c12 => ?_) (fun c12 => ?_)
  · have hw := hw.1 c12
    refine x_aload_n C d_Brt_widest_16 rfl ?_
    refine g_Brt_2 (p := 0) C rfl fl_Brt_19 d_Brt_widest_17 ?_
    refine x_aload_n C d_Brt_widest_20 rfl ?_
    refine g_Brt_0 (p := 0) C rfl fl_Brt_10 d_Brt_widest_21 ?_
    refine x_callV (As := [.ref (xa X 1)]) (rest := []) (p := 35) C (m_Cav_become (xg X) C.2.2.2.2.2.2.1 35 1 rfl rfl s _ hw) cw_Cav_become ml_Brt_72 rfl (by decide) (by decide) rfl rfl rfl ⟨rfl, rfl, Nat.le_of_ble_eq_true rfl, Nat.le_of_ble_eq_true rfl⟩ ⟨Nat.zero_le _, Nat.zero_le _⟩ rfl (Nat.le_of_ble_eq_true rfl) d_Brt_widest_24 ?_
    rintro _ s13 ⟨rfl, hw⟩
    show V X _ _ _ _ 27 [some (.ref (xa X 0)), some (.int x1), none] []
    refine x_bipush (v := 50) C d_Brt_widest_27 rfl ?_
    refine x_istore_n (L' := [some (.ref (xa X 0)), some (.int x1), some (.int 50)]) C d_Brt_widest_29 (Nat.le_of_ble_eq_true rfl) rfl ?_
    obtain ⟨I16, ⟨n17, hn17⟩, hI16⟩ := hw
    have lI16 : ∀ (nI16 : Nat) (x14 : Int32) (s15 : St), I16 nI16 x14 s15 → V X (xQ X (fun v s' => ∃ r : Int32, v = some (.int r) ∧ Q r s')) 0 0 s15 30 [some (.ref (xa X 0)), some (.int x1), some (.int x14)] [] := by
      intro nI16
      induction nI16 using Nat.strongRecOn with
      | ind nI16 ihI16 =>
        intro x14 s15 hv
        have hw := hI16 nI16 x14 s15 hv
        refine x_iload_n C d_Brt_widest_30 rfl ?_
        refine x_bipush (v := 10) C d_Brt_widest_31 rfl ?_
        refine x_icmp_lt (tgt := 78) C d_Brt_widest_33 (by decide) (fun c18 => ?_) (fun c18 => ?_)
        · have hw := hw.1 c18
          refine x_bipush (v := (-4)) C d_Brt_widest_78 rfl ?_
          exact x_ireturn C d_Brt_widest_80 ⟨_, rfl, hw⟩
        · have hw := hw.2 c18
          refine x_aload_n C d_Brt_widest_36 rfl ?_
          refine g_Brt_2 (p := 0) C rfl fl_Brt_19 d_Brt_widest_37 ?_
          refine g_Cav_1 (p := 35) C rfl fl_Brt_127 d_Brt_widest_40 ?_
          refine g_Bod_1 (p := 45) C rfl fl_Brt_134 d_Brt_widest_43 ?_
          refine x_iload_n C d_Brt_widest_46 rfl ?_
          refine x_iload_n C d_Brt_widest_47 rfl ?_
          obtain ⟨h19, hw⟩ := hw
          refine x_iast (p := 46) (n := 6) C rfl h19 d_Brt_widest_48 ?_
          refine x_st (fun s20 hs20 => ?_)
          have hw := hw s20 hs20
          refine x_aload_n C d_Brt_widest_49 rfl ?_
          refine g_Brt_3 (p := 0) C rfl fl_Brt_25 d_Brt_widest_50 ?_
          refine x_aload_n C d_Brt_widest_53 rfl ?_
          refine g_Brt_2 (p := 0) C rfl fl_Brt_19 d_Brt_widest_54 ?_
          refine x_iload_n C d_Brt_widest_57 rfl ?_
          refine x_iconst (v := 0) C d_Brt_widest_58 rfl ?_
          refine x_callV (As := [.ref (xa X 35), .int x1, .int 0]) (rest := []) (p := 52) C (m_Tri_alone (xg X) C.2.2.2.2.2.2.1 52 35 x1 0 rfl rfl s20 _ hw) cw_Tri_alone ml_Brt_205 rfl (by decide) (by decide) rfl rfl rfl ⟨rfl, rfl, Nat.le_of_ble_eq_true rfl, Nat.le_of_ble_eq_true rfl⟩ ⟨Nat.zero_le _, Nat.zero_le _⟩ rfl (Nat.le_of_ble_eq_true rfl) d_Brt_widest_59 ?_
          rintro _ s22 ⟨p21, rfl, hkp21, hw⟩
          have hw := hw hkp21
          show V X _ _ _ _ 62 [some (.ref (xa X 0)), some (.int x1), some (.int x14)] [.ref (xa X p21)]
          refine g_Leg_2 (p := p21) C hkp21 fl_Brt_219 d_Brt_widest_62 ?_
          refine x_bipush (v := (-4)) C d_Brt_widest_65 rfl ?_
          refine x_icmp_ne (tgt := 72) C d_Brt_widest_67 (by decide) (fun c23 => ?_) (fun c23 => ?_)
          · have hw := hw.1 c23
            obtain ⟨x24, hx24⟩ : ∃ z : Int32, z = x14 + (-1) := ⟨_, rfl⟩
            refine x_iinc (v := x24) (L' := [some (.ref (xa X 0)), some (.int x1), some (.int x24)]) C d_Brt_widest_72 (Nat.le_of_ble_eq_true rfl) rfl (by rw [hx24]; rfl) rfl ?_
            have hw := hw x24 hx24
            refine x_goto (tgt := 30) C d_Brt_widest_75 (by decide) ?_
            obtain ⟨m25, hm25, hw⟩ := hw
            exact x_wk (ihI16 m25 hm25 x24 s22 hw) (And.intro rfl (And.intro rfl (And.intro rfl (trivial))))
          · have hw := hw.2 c23
            refine x_iload_n C d_Brt_widest_70 rfl ?_
            exact x_ireturn C d_Brt_widest_71 ⟨_, rfl, hw⟩
    exact x_wk (lI16 n17 50 s13 hn17) (And.intro rfl (And.intro rfl (And.intro rfl (trivial))))
  · have hw := hw.2 c12
    refine x_iconst (v := (-1)) C d_Brt_widest_14 rfl ?_
    exact x_ireturn C d_Brt_widest_15 ⟨_, rfl, hw⟩
def vc_Brt_allGo  (s : St) (Q : Nat → St → Prop) : Prop :=
    vc_Leg_passAll 53 1 17 6 (s 11 0) 0 (s 1 5) s (fun s10 => Q 53 s10)
def rm_Brt_allGo : Room := { frames := 4, cells := 0, slots := 0, locals := 106 }
set_option maxHeartbeats 4000000 in
set_option maxRecDepth 20000 in
theorem m_Brt_allGo (g : Gx) (hg : gOk g)   (s : St) (Q : Nat → St → Prop) (hw : vc_Brt_allGo  s Q) : Mc g y_Brt_allGo b_Brt_allGo 1 (some (FieldType.object "BreatheOut$Leg")) rm_Brt_allGo [.ref (ga g 0)] s (fun v s' => ∃ r : Nat, v = some (.ref (ga g r)) ∧ kd r = 6 ∧ Q r s') := by
  refine mc_ofV (j := 0) (L := [some (.ref (ga g 0))]) hg (by decide) (Nat.le_of_ble_eq_true rfl) rfl ?_
  intro X hX C
  subst hX
  unfold vc_Brt_allGo at hw
  refine x_aload_n C d_Brt_allGo_0 rfl ?_
  refine g_Brt_3 (p := 0) C rfl fl_Brt_25 d_Brt_allGo_1 ?_
  refine g_Tri_0 (p := 52) C rfl fl_Brt_336 d_Brt_allGo_4 ?_
  refine x_aload_n C d_Brt_allGo_7 rfl ?_
  refine g_Brt_0 (p := 0) C rfl fl_Brt_10 d_Brt_allGo_8 ?_
  refine x_aload_n C d_Brt_allGo_11 rfl ?_
  refine g_Brt_0 (p := 0) C rfl fl_Brt_10 d_Brt_allGo_12 ?_
  refine g_Cav_1 (p := 1) C rfl fl_Brt_127 d_Brt_allGo_15 ?_
  refine g_Bod_6 (p := 11) C rfl fl_Brt_249 d_Brt_allGo_18 ?_
  refine x_aload_n C d_Brt_allGo_21 rfl ?_
  refine g_Brt_0 (p := 0) C rfl fl_Brt_10 d_Brt_allGo_22 ?_
  refine g_Cav_1 (p := 1) C rfl fl_Brt_127 d_Brt_allGo_25 ?_
  refine g_Bod_0 (p := 11) C rfl fl_Brt_250 d_Brt_allGo_28 ?_
  refine x_iconst (v := 0) C d_Brt_allGo_31 rfl ?_
  refine x_aload_n C d_Brt_allGo_32 rfl ?_
  refine g_Brt_0 (p := 0) C rfl fl_Brt_10 d_Brt_allGo_33 ?_
  refine g_Cav_5 (p := 1) C rfl fl_Brt_111 d_Brt_allGo_36 ?_
  refine x_callV (As := [.ref (xa X 1), .ref (xa X 17), .int (s 11 0), .int 0, .int (s 1 5)]) (rest := []) (p := 53) C (m_Leg_passAll (xg X) C.2.2.2.2.2.2.1 53 1 17 6 (s 11 0) 0 (s 1 5) rfl rfl rfl s _ hw) cw_Leg_passAll ml_Brt_398 rfl (by decide) (by decide) rfl rfl rfl ⟨rfl, rfl, Nat.le_of_ble_eq_true rfl, Nat.le_of_ble_eq_true rfl⟩ ⟨Nat.zero_le _, Nat.zero_le _⟩ rfl (Nat.le_of_ble_eq_true rfl) d_Brt_allGo_39 ?_
  rintro _ s10 ⟨rfl, hw⟩
  show V X _ _ _ _ 42 [some (.ref (xa X 0))] []
  refine x_aload_n C d_Brt_allGo_42 rfl ?_
  refine g_Brt_3 (p := 0) C rfl fl_Brt_25 d_Brt_allGo_43 ?_
  refine g_Tri_0 (p := 52) C rfl fl_Brt_336 d_Brt_allGo_46 ?_
  exact x_areturn C (by first | exact Or.inl ⟨_, rfl⟩ | exact Or.inr ⟨_, rfl⟩) d_Brt_allGo_49 ⟨_, rfl, rfl, hw⟩
def vc_Brt_go (x1 : Int32) (s : St) (Q : Int32 → St → Prop) : Prop :=
    vc_Brt_within x1 0 4 (fun b10 => ((¬ (bi b10) = 0 → vc_Brt_allGo  s (fun p13 s14 => kd p13 = 6 → ((x1 = 0 → Q (s14 p13 0) s14) ∧ (¬ x1 = 0 → ((x1 = 1 → Q (s14 p13 2) s14) ∧ (¬ x1 = 1 → ((x1 = 2 → Q (s14 p13 3) s14) ∧ (¬ x1 = 2 → ((x1 = 3 → Q (s14 p13 4) s14) ∧ (¬ x1 = 3 → Q (s14 p13 5) s14)))))))))) ∧ ((bi b10) = 0 → Q (-1) s)))
def rm_Brt_go : Room := { frames := 5, cells := 0, slots := 0, locals := 126 }
set_option maxHeartbeats 4000000 in
set_option maxRecDepth 20000 in
theorem m_Brt_go (g : Gx) (hg : gOk g) (x1 : Int32)  (s : St) (Q : Int32 → St → Prop) (hw : vc_Brt_go x1 s Q) : Mc g y_Brt_go b_Brt_go 3 (some FieldType.int) rm_Brt_go [.ref (ga g 0), .int x1] s (fun v s' => ∃ r : Int32, v = some (.int r) ∧ Q r s') := by
  refine mc_ofV (j := 1) (L := [some (.ref (ga g 0)), some (.int x1), none]) hg (by decide) (Nat.le_of_ble_eq_true rfl) rfl ?_
  intro X hX C
  subst hX
  unfold vc_Brt_go at hw
  refine x_iload_n C d_Brt_go_0 rfl ?_
  refine x_iconst (v := 0) C d_Brt_go_1 rfl ?_
  refine x_iconst (v := 4) C d_Brt_go_2 rfl ?_
  refine x_callS (As := [.int x1, .int 0, .int 4]) (rest := []) C (m_Brt_within (xg X) C.2.2.2.2.2.2.1 x1 0 4 s _ hw) cw_Brt_within ml_Brt_185 rfl ⟨rfl, rfl, Nat.le_of_ble_eq_true rfl, Nat.le_of_ble_eq_true rfl⟩ ⟨Nat.zero_le _, Nat.zero_le _⟩ rfl (Nat.le_of_ble_eq_true rfl) d_Brt_go_3 ?_
  rintro _ _ ⟨b10, rfl, rfl, hw⟩
  show V X _ _ _ _ 6 [some (.ref (xa X 0)), some (.int x1), none] [.int (bi b10)]
  refine x_if_ne (tgt := 11) C d_Brt_go_6 (by decide) (fun c12 => ?_) (fun c12 => ?_)
  · have hw := hw.1 c12
    refine x_aload_n C d_Brt_go_11 rfl ?_
    refine x_callV (As := []) (rest := []) (p := 0) C (m_Brt_allGo (xg X) C.2.2.2.2.2.2.1  s _ hw) cw_Brt_allGo ml_Brt_230 rfl (by decide) (by decide) rfl rfl rfl ⟨rfl, rfl, Nat.le_of_ble_eq_true rfl, Nat.le_of_ble_eq_true rfl⟩ ⟨Nat.zero_le _, Nat.zero_le _⟩ rfl (Nat.le_of_ble_eq_true rfl) d_Brt_go_12 ?_
    rintro _ s14 ⟨p13, rfl, hkp13, hw⟩
    have hw := hw hkp13
    show V X _ _ _ _ 15 [some (.ref (xa X 0)), some (.int x1), none] [.ref (xa X p13)]
    refine x_astore_n (L' := [some (.ref (xa X 0)), some (.int x1), some (.ref (xa X p13))]) C d_Brt_go_15 (Nat.le_of_ble_eq_true rfl) rfl ?_
    refine x_iload_n C d_Brt_go_16 rfl ?_
    by_cases c15 : x1 = 0
    · have hw := hw.1 c15
      refine x_tswIn (v := 0) (off := 31) (tgt := 48) C d_Brt_go_17 c15 (by decide) (by decide) rfl (by decide) ?_
      refine x_aload_n C d_Brt_go_48 rfl ?_
      refine g_Leg_0 (p := p13) C hkp13 fl_Brt_234 d_Brt_go_49 ?_
      exact x_ireturn C d_Brt_go_52 ⟨_, rfl, hw⟩
    have hw := hw.2 c15
    by_cases c16 : x1 = 1
    · have hw := hw.1 c16
      refine x_tswIn (v := 1) (off := 36) (tgt := 53) C d_Brt_go_17 c16 (by decide) (by decide) rfl (by decide) ?_
      refine x_aload_n C d_Brt_go_53 rfl ?_
      refine g_Leg_2 (p := p13) C hkp13 fl_Brt_219 d_Brt_go_54 ?_
      exact x_ireturn C d_Brt_go_57 ⟨_, rfl, hw⟩
    have hw := hw.2 c16
    by_cases c17 : x1 = 2
    · have hw := hw.1 c17
      refine x_tswIn (v := 2) (off := 41) (tgt := 58) C d_Brt_go_17 c17 (by decide) (by decide) rfl (by decide) ?_
      refine x_aload_n C d_Brt_go_58 rfl ?_
      refine g_Leg_3 (p := p13) C hkp13 fl_Brt_209 d_Brt_go_59 ?_
      exact x_ireturn C d_Brt_go_62 ⟨_, rfl, hw⟩
    have hw := hw.2 c17
    by_cases c18 : x1 = 3
    · have hw := hw.1 c18
      refine x_tswIn (v := 3) (off := 46) (tgt := 63) C d_Brt_go_17 c18 (by decide) (by decide) rfl (by decide) ?_
      refine x_aload_n C d_Brt_go_63 rfl ?_
      refine g_Leg_4 (p := p13) C hkp13 fl_Brt_214 d_Brt_go_64 ?_
      exact x_ireturn C d_Brt_go_67 ⟨_, rfl, hw⟩
    have hw := hw.2 c18
    refine x_tswD (tgt := 68) C d_Brt_go_17 (fun j hj => by match j, hj with | 0, _ => exact Or.inr c15 | 1, _ => exact Or.inr c16 | 2, _ => exact Or.inr c17 | 3, _ => exact Or.inr c18 | j + 4, hj => exact absurd hj (by omega)) (by decide) ?_
    refine x_aload_n C d_Brt_go_68 rfl ?_
    refine g_Leg_5 (p := p13) C hkp13 fl_Brt_215 d_Brt_go_69 ?_
    exact x_ireturn C d_Brt_go_72 ⟨_, rfl, hw⟩
  · have hw := hw.2 c12
    refine x_iconst (v := (-1)) C d_Brt_go_9 rfl ?_
    exact x_ireturn C d_Brt_go_10 ⟨_, rfl, hw⟩
def vc_Brt_allReturn (p1 : Nat) (s : St) (Q : Bool → St → Prop) : Prop :=
    vc_Tri_thereAndBack 52 p1 (p1 + 10 + 6) 6 (s (p1 + 10) 0) (s p1 5) s (fun b10 s11 => Q b10 s11)
def rm_Brt_allReturn : Room := { frames := 5, cells := 0, slots := 0, locals := 130 }
set_option maxHeartbeats 4000000 in
set_option maxRecDepth 20000 in
theorem m_Brt_allReturn (g : Gx) (hg : gOk g) (p1 : Nat) (hk1 : kd p1 = 2) (s : St) (Q : Bool → St → Prop) (hw : vc_Brt_allReturn p1 s Q) : Mc g y_Brt_allReturn b_Brt_allReturn 2 (some FieldType.boolean) rm_Brt_allReturn [.ref (ga g 0), .ref (ga g p1)] s (fun v s' => ∃ r : Bool, v = some (.int (bi r)) ∧ Q r s') := by
  refine mc_ofV (j := 0) (L := [some (.ref (ga g 0)), some (.ref (ga g p1))]) hg (by decide) (Nat.le_of_ble_eq_true rfl) rfl ?_
  intro X hX C
  subst hX
  unfold vc_Brt_allReturn at hw
  refine x_aload_n C d_Brt_allReturn_0 rfl ?_
  refine g_Brt_3 (p := 0) C rfl fl_Brt_25 d_Brt_allReturn_1 ?_
  refine x_aload_n C d_Brt_allReturn_4 rfl ?_
  refine x_aload_n C d_Brt_allReturn_5 rfl ?_
  refine g_Cav_1 (p := p1) C hk1 fl_Brt_127 d_Brt_allReturn_6 ?_
  refine g_Bod_6 (p := (p1 + 10)) C (ks_2_10 hk1) fl_Brt_249 d_Brt_allReturn_9 ?_
  refine x_aload_n C d_Brt_allReturn_12 rfl ?_
  refine g_Cav_1 (p := p1) C hk1 fl_Brt_127 d_Brt_allReturn_13 ?_
  refine g_Bod_0 (p := (p1 + 10)) C (ks_2_10 hk1) fl_Brt_250 d_Brt_allReturn_16 ?_
  refine x_aload_n C d_Brt_allReturn_19 rfl ?_
  refine g_Cav_5 (p := p1) C hk1 fl_Brt_111 d_Brt_allReturn_20 ?_
  refine x_callV (As := [.ref (xa X p1), .ref (xa X (p1 + 10 + 6)), .int (s (p1 + 10) 0), .int (s p1 5)]) (rest := []) (p := 52) C (m_Tri_thereAndBack (xg X) C.2.2.2.2.2.2.1 52 p1 (p1 + 10 + 6) 6 (s (p1 + 10) 0) (s p1 5) rfl hk1 (ks_4_6 (ks_2_10 hk1)) s _ hw) cw_Tri_thereAndBack ml_Brt_402 rfl (by decide) (by decide) rfl rfl rfl ⟨rfl, rfl, Nat.le_of_ble_eq_true rfl, Nat.le_of_ble_eq_true rfl⟩ ⟨Nat.zero_le _, Nat.zero_le _⟩ rfl (Nat.le_of_ble_eq_true rfl) d_Brt_allReturn_23 ?_
  rintro _ s11 ⟨b10, rfl, hw⟩
  show V X _ _ _ _ 26 [some (.ref (xa X 0)), some (.ref (xa X p1))] [.int (bi b10)]
  exact x_zreturn (b := b10) C d_Brt_allReturn_26 ⟨_, rfl, hw⟩
def vc_Brt_back (x1 : Int32) (s : St) (Q : Int32 → St → Prop) : Prop :=
    vc_Brt_within x1 0 3 (fun b10 => ((¬ (bi b10) = 0 → vc_Brt_allReturn 1 s (fun b13 s14 => ((x1 = 0 → Q (s14 55 0) s14) ∧ (¬ x1 = 0 → ((x1 = 1 → Q (s14 55 2) s14) ∧ (¬ x1 = 1 → ((x1 = 2 → vc_Tri_shutIn 52 s14 (fun x18 => Q x18 s14)) ∧ (¬ x1 = 2 → Q (s14 55 4) s14)))))))) ∧ ((bi b10) = 0 → Q (-1) s)))
def rm_Brt_back : Room := { frames := 6, cells := 0, slots := 0, locals := 151 }
set_option maxHeartbeats 4000000 in
set_option maxRecDepth 20000 in
theorem m_Brt_back (g : Gx) (hg : gOk g) (x1 : Int32)  (s : St) (Q : Int32 → St → Prop) (hw : vc_Brt_back x1 s Q) : Mc g y_Brt_back b_Brt_back 2 (some FieldType.int) rm_Brt_back [.ref (ga g 0), .int x1] s (fun v s' => ∃ r : Int32, v = some (.int r) ∧ Q r s') := by
  refine mc_ofV (j := 0) (L := [some (.ref (ga g 0)), some (.int x1)]) hg (by decide) (Nat.le_of_ble_eq_true rfl) rfl ?_
  intro X hX C
  subst hX
  unfold vc_Brt_back at hw
  refine x_iload_n C d_Brt_back_0 rfl ?_
  refine x_iconst (v := 0) C d_Brt_back_1 rfl ?_
  refine x_iconst (v := 3) C d_Brt_back_2 rfl ?_
  refine x_callS (As := [.int x1, .int 0, .int 3]) (rest := []) C (m_Brt_within (xg X) C.2.2.2.2.2.2.1 x1 0 3 s _ hw) cw_Brt_within ml_Brt_185 rfl ⟨rfl, rfl, Nat.le_of_ble_eq_true rfl, Nat.le_of_ble_eq_true rfl⟩ ⟨Nat.zero_le _, Nat.zero_le _⟩ rfl (Nat.le_of_ble_eq_true rfl) d_Brt_back_3 ?_
  rintro _ _ ⟨b10, rfl, rfl, hw⟩
  show V X _ _ _ _ 6 [some (.ref (xa X 0)), some (.int x1)] [.int (bi b10)]
  refine x_if_ne (tgt := 11) C d_Brt_back_6 (by decide) (fun c12 => ?_) (fun c12 => ?_)
  · have hw := hw.1 c12
    refine x_aload_n C d_Brt_back_11 rfl ?_
    refine x_aload_n C d_Brt_back_12 rfl ?_
    refine g_Brt_0 (p := 0) C rfl fl_Brt_10 d_Brt_back_13 ?_
    refine x_callV (As := [.ref (xa X 1)]) (rest := []) (p := 0) C (m_Brt_allReturn (xg X) C.2.2.2.2.2.2.1 1 rfl s _ hw) cw_Brt_allReturn ml_Brt_237 rfl (by decide) (by decide) rfl rfl rfl ⟨rfl, rfl, Nat.le_of_ble_eq_true rfl, Nat.le_of_ble_eq_true rfl⟩ ⟨Nat.zero_le _, Nat.zero_le _⟩ rfl (Nat.le_of_ble_eq_true rfl) d_Brt_back_16 ?_
    rintro _ s14 ⟨b13, rfl, hw⟩
    show V X _ _ _ _ 19 [some (.ref (xa X 0)), some (.int x1)] [.int (bi b13)]
    refine x_pop C d_Brt_back_19 rfl ?_
    refine x_iload_n C d_Brt_back_20 rfl ?_
    by_cases c15 : x1 = 0
    · have hw := hw.1 c15
      refine x_tswIn (v := 0) (off := 27) (tgt := 48) C d_Brt_back_21 c15 (by decide) (by decide) rfl (by decide) ?_
      refine x_aload_n C d_Brt_back_48 rfl ?_
      refine g_Brt_3 (p := 0) C rfl fl_Brt_25 d_Brt_back_49 ?_
      refine g_Tri_1 (p := 52) C rfl fl_Brt_241 d_Brt_back_52 ?_
      refine g_Leg_0 (p := 55) C rfl fl_Brt_234 d_Brt_back_55 ?_
      exact x_ireturn C d_Brt_back_58 ⟨_, rfl, hw⟩
    have hw := hw.2 c15
    by_cases c16 : x1 = 1
    · have hw := hw.1 c16
      refine x_tswIn (v := 1) (off := 38) (tgt := 59) C d_Brt_back_21 c16 (by decide) (by decide) rfl (by decide) ?_
      refine x_aload_n C d_Brt_back_59 rfl ?_
      refine g_Brt_3 (p := 0) C rfl fl_Brt_25 d_Brt_back_60 ?_
      refine g_Tri_1 (p := 52) C rfl fl_Brt_241 d_Brt_back_63 ?_
      refine g_Leg_2 (p := 55) C rfl fl_Brt_219 d_Brt_back_66 ?_
      exact x_ireturn C d_Brt_back_69 ⟨_, rfl, hw⟩
    have hw := hw.2 c16
    by_cases c17 : x1 = 2
    · have hw := hw.1 c17
      refine x_tswIn (v := 2) (off := 49) (tgt := 70) C d_Brt_back_21 c17 (by decide) (by decide) rfl (by decide) ?_
      refine x_aload_n C d_Brt_back_70 rfl ?_
      refine g_Brt_3 (p := 0) C rfl fl_Brt_25 d_Brt_back_71 ?_
      refine x_callV (As := []) (rest := []) (p := 52) C (m_Tri_shutIn (xg X) C.2.2.2.2.2.2.1 52 rfl s14 _ hw) cw_Tri_shutIn ml_Brt_245 rfl (by decide) (by decide) rfl rfl rfl ⟨rfl, rfl, Nat.le_of_ble_eq_true rfl, Nat.le_of_ble_eq_true rfl⟩ ⟨Nat.zero_le _, Nat.zero_le _⟩ rfl (Nat.le_of_ble_eq_true rfl) d_Brt_back_74 ?_
      rintro _ _ ⟨x18, rfl, rfl, hw⟩
      show V X _ _ _ _ 77 [some (.ref (xa X 0)), some (.int x1)] [.int x18]
      exact x_ireturn C d_Brt_back_77 ⟨_, rfl, hw⟩
    have hw := hw.2 c17
    refine x_tswD (tgt := 78) C d_Brt_back_21 (fun j hj => by match j, hj with | 0, _ => exact Or.inr c15 | 1, _ => exact Or.inr c16 | 2, _ => exact Or.inr c17 | j + 3, hj => exact absurd hj (by omega)) (by decide) ?_
    refine x_aload_n C d_Brt_back_78 rfl ?_
    refine g_Brt_3 (p := 0) C rfl fl_Brt_25 d_Brt_back_79 ?_
    refine g_Tri_1 (p := 52) C rfl fl_Brt_241 d_Brt_back_82 ?_
    refine g_Leg_4 (p := 55) C rfl fl_Brt_214 d_Brt_back_85 ?_
    exact x_ireturn C d_Brt_back_88 ⟨_, rfl, hw⟩
  · have hw := hw.2 c12
    refine x_iconst (v := (-1)) C d_Brt_back_9 rfl ?_
    exact x_ireturn C d_Brt_back_10 ⟨_, rfl, hw⟩
def vc_Brt_help (x1 : Int32) (s : St) (Q : Int32 → Prop) : Prop :=
    vc_Bod_has 11 x1 s (fun b10 => ((¬ (bi b10) = 0 → vc_Bod_placeOf 11 x1 s (fun x13 => (∃ I17 : Nat → Int32 → Int32 → Prop, (∃ n18, I17 n18 0 0) ∧ ∀ (nI17 : Nat) (x15 : Int32) (x16 : Int32), I17 nI17 x15 x16 → ((x13 ≤ x16 → (∃ J21 : Int32 → Prop, (∀ (x20 : Int32), J21 x20 → Q ((x15 / 3) + (x20 / 3))) ∧ (((s 11 0) ≤ (x13 + 1) → J21 0) ∧ (¬ (s 11 0) ≤ (x13 + 1) → (vp_in (x13 + 1) 6 ∧ (vp_in (s 17 (Int32.toNatClampNeg (x13 + 1))) 6 ∧ J21 (s 15 (Int32.toNatClampNeg (s 17 (Int32.toNatClampNeg (x13 + 1))))))))))) ∧ (¬ x13 ≤ x16 → (vp_in x16 6 ∧ (vp_in (s 17 (Int32.toNatClampNeg x16)) 6 ∧ (∀ x27 : Int32, x27 = imax x15 (s 15 (Int32.toNatClampNeg (s 17 (Int32.toNatClampNeg x16)))) → (∀ x28 : Int32, x28 = x16 + 1 → ∃ m29, m29 < nI17 ∧ I17 m29 x27 x28))))))))) ∧ ((bi b10) = 0 → Q (-1))))
def rm_Brt_help : Room := { frames := 2, cells := 0, slots := 0, locals := 43 }
set_option maxHeartbeats 4000000 in
set_option maxRecDepth 20000 in
theorem m_Brt_help (g : Gx) (hg : gOk g) (x1 : Int32)  (s : St) (Q : Int32 → Prop) (hw : vc_Brt_help x1 s Q) : Mc g y_Brt_help b_Brt_help 6 (some FieldType.int) rm_Brt_help [.ref (ga g 0), .int x1] s (fun v s' => ∃ r : Int32, v = some (.int r) ∧ s = s' ∧ Q r) := by
  refine mc_ofV (j := 4) (L := [some (.ref (ga g 0)), some (.int x1), none, none, none, none]) hg (by decide) (Nat.le_of_ble_eq_true rfl) rfl ?_
  intro X hX C
  subst hX
  unfold vc_Brt_help at hw
  refine x_aload_n C d_Brt_help_0 rfl ?_
  refine g_Brt_0 (p := 0) C rfl fl_Brt_10 d_Brt_help_1 ?_
  refine g_Cav_1 (p := 1) C rfl fl_Brt_127 d_Brt_help_4 ?_
  refine x_astore_n (L' := [some (.ref (xa X 0)), some (.int x1), some (.ref (xa X 11)), none, none, none]) C d_Brt_help_7 (Nat.le_of_ble_eq_true rfl) rfl ?_
  refine x_aload_n C d_Brt_help_8 rfl ?_
  refine x_iload_n C d_Brt_help_9 rfl ?_
  refine x_callV (As := [.int x1]) (rest := []) (p := 11) C (m_Bod_has (xg X) C.2.2.2.2.2.2.1 11 x1 rfl s _ hw) cw_Bod_has ml_Brt_131 rfl (by decide) (by decide) rfl rfl rfl ⟨rfl, rfl, Nat.le_of_ble_eq_true rfl, Nat.le_of_ble_eq_true rfl⟩ ⟨Nat.zero_le _, Nat.zero_le _⟩ rfl (Nat.le_of_ble_eq_true rfl) d_Brt_help_10 ?_
  rintro _ _ ⟨b10, rfl, rfl, hw⟩
  show V X _ _ _ _ 13 [some (.ref (xa X 0)), some (.int x1), some (.ref (xa X 11)), none, none, none] [.int (bi b10)]
  refine x_if_ne (tgt := 18) C d_Brt_help_13 (by decide) (fun c12 => ?_) (fun c12 => ?_)
  · have hw := hw.1 c12
    refine x_aload_n C d_Brt_help_18 rfl ?_
    refine x_iload_n C d_Brt_help_19 rfl ?_
    refine x_callV (As := [.int x1]) (rest := []) (p := 11) C (m_Bod_placeOf (xg X) C.2.2.2.2.2.2.1 11 x1 rfl s _ hw) cw_Bod_placeOf ml_Brt_149 rfl (by decide) (by decide) rfl rfl rfl ⟨rfl, rfl, Nat.le_of_ble_eq_true rfl, Nat.le_of_ble_eq_true rfl⟩ ⟨Nat.zero_le _, Nat.zero_le _⟩ rfl (Nat.le_of_ble_eq_true rfl) d_Brt_help_20 ?_
    rintro _ _ ⟨x13, rfl, rfl, hw⟩
    show V X _ _ _ _ 23 [some (.ref (xa X 0)), some (.int x1), some (.ref (xa X 11)), none, none, none] [.int x13]
    refine x_istore_n (L' := [some (.ref (xa X 0)), some (.int x1), some (.ref (xa X 11)), some (.int x13), none, none]) C d_Brt_help_23 (Nat.le_of_ble_eq_true rfl) rfl ?_
    refine x_iconst (v := 0) C d_Brt_help_24 rfl ?_
    refine x_istore (L' := [some (.ref (xa X 0)), some (.int x1), some (.ref (xa X 11)), some (.int x13), some (.int 0), none]) C d_Brt_help_25 (Nat.le_of_ble_eq_true rfl) rfl ?_
    refine x_iconst (v := 0) C d_Brt_help_27 rfl ?_
    refine x_istore (L' := [some (.ref (xa X 0)), some (.int x1), some (.ref (xa X 11)), some (.int x13), some (.int 0), some (.int 0)]) C d_Brt_help_28 (Nat.le_of_ble_eq_true rfl) rfl ?_
    obtain ⟨I17, ⟨n18, hn18⟩, hI17⟩ := hw
    have lI17 : ∀ (nI17 : Nat) (x15 : Int32) (x16 : Int32), I17 nI17 x15 x16 → V X (xQ X (fun v s' => ∃ r : Int32, v = some (.int r) ∧ s = s' ∧ Q r)) 0 0 s 30 [some (.ref (xa X 0)), some (.int x1), some (.ref (xa X 11)), some (.int x13), some (.int x15), some (.int x16)] [] := by
      intro nI17
      induction nI17 using Nat.strongRecOn with
      | ind nI17 ihI17 =>
        intro x15 x16 hv
        have hw := hI17 nI17 x15 x16 hv
        refine x_iload C d_Brt_help_30 rfl ?_
        refine x_iload_n C d_Brt_help_32 rfl ?_
        refine x_icmp_ge (tgt := 61) C d_Brt_help_33 (by decide) (fun c19 => ?_) (fun c19 => ?_)
        · have hw := hw.1 c19
          refine x_iload_n C d_Brt_help_61 rfl ?_
          refine x_iconst (v := 1) C d_Brt_help_62 rfl ?_
          refine x_iadd C d_Brt_help_63 ?_
          refine x_aload_n C d_Brt_help_64 rfl ?_
          refine g_Bod_0 (p := 11) C rfl fl_Brt_250 d_Brt_help_65 ?_
          obtain ⟨J21, hJ21, hw⟩ := hw
          have kJ21 : ∀ (x20 : Int32), J21 x20 → V X (xQ X (fun v s' => ∃ r : Int32, v = some (.int r) ∧ s = s' ∧ Q r)) 0 0 s 88 [some (.ref (xa X 0)), some (.int x1), some (.ref (xa X 11)), some (.int x13), some (.int x15), some (.int x16)] [.int x20] := by
            intro x20 hv
            have hw := hJ21 x20 hv
            refine x_istore (L' := [some (.ref (xa X 0)), some (.int x1), some (.ref (xa X 11)), some (.int x13), some (.int x15), some (.int x20)]) C d_Brt_help_88 (Nat.le_of_ble_eq_true rfl) rfl ?_
            refine x_iload C d_Brt_help_90 rfl ?_
            refine x_iconst (v := 3) C d_Brt_help_92 rfl ?_
            refine x_idiv C d_Brt_help_93 (by decide) ?_
            refine x_iload C d_Brt_help_94 rfl ?_
            refine x_iconst (v := 3) C d_Brt_help_96 rfl ?_
            refine x_idiv C d_Brt_help_97 (by decide) ?_
            refine x_iadd C d_Brt_help_98 ?_
            exact x_ireturn C d_Brt_help_99 ⟨_, rfl, rfl, hw⟩
          refine x_icmp_ge (tgt := 87) C d_Brt_help_68 (by decide) (fun c22 => ?_) (fun c22 => ?_)
          · have hw := hw.1 c22
            refine x_iconst (v := 0) C d_Brt_help_87 rfl ?_
            exact x_wk (kJ21 0 hw) (And.intro rfl (And.intro rfl (And.intro rfl (And.intro rfl (And.intro rfl (And.intro rfl (trivial)))))))
          · have hw := hw.2 c22
            refine x_aload_n C d_Brt_help_71 rfl ?_
            refine g_Bod_4 (p := 11) C rfl fl_Brt_143 d_Brt_help_72 ?_
            refine x_aload_n C d_Brt_help_75 rfl ?_
            refine g_Bod_6 (p := 11) C rfl fl_Brt_249 d_Brt_help_76 ?_
            refine x_iload_n C d_Brt_help_79 rfl ?_
            refine x_iconst (v := 1) C d_Brt_help_80 rfl ?_
            refine x_iadd C d_Brt_help_81 ?_
            obtain ⟨h23, hw⟩ := hw
            refine x_iald (p := 17) (n := 6) C rfl h23 d_Brt_help_82 ?_
            obtain ⟨h24, hw⟩ := hw
            refine x_iald (p := 15) (n := 6) C rfl h24 d_Brt_help_83 ?_
            refine x_goto (tgt := 88) C d_Brt_help_84 (by decide) ?_
            exact x_wk (kJ21 (s 15 (Int32.toNatClampNeg (s 17 (Int32.toNatClampNeg (x13 + 1))))) hw) (And.intro rfl (And.intro rfl (And.intro rfl (And.intro rfl (And.intro rfl (And.intro rfl (trivial)))))))
        · have hw := hw.2 c19
          refine x_iload C d_Brt_help_36 rfl ?_
          refine x_aload_n C d_Brt_help_38 rfl ?_
          refine g_Bod_4 (p := 11) C rfl fl_Brt_143 d_Brt_help_39 ?_
          refine x_aload_n C d_Brt_help_42 rfl ?_
          refine g_Bod_6 (p := 11) C rfl fl_Brt_249 d_Brt_help_43 ?_
          refine x_iload C d_Brt_help_46 rfl ?_
          obtain ⟨h25, hw⟩ := hw
          refine x_iald (p := 17) (n := 6) C rfl h25 d_Brt_help_48 ?_
          obtain ⟨h26, hw⟩ := hw
          refine x_iald (p := 15) (n := 6) C rfl h26 d_Brt_help_49 ?_
          refine x_mmax C ml_Brt_225 (Nat.le_of_ble_eq_true rfl) (Nat.le_of_ble_eq_true rfl) ⟨Nat.zero_le _, Nat.zero_le _⟩ d_Brt_help_50 ?_
          refine x_nm (fun x27 hx27 => ?_)
          have hw := hw x27 hx27
          refine x_istore (L' := [some (.ref (xa X 0)), some (.int x1), some (.ref (xa X 11)), some (.int x13), some (.int x27), some (.int x16)]) C d_Brt_help_53 (Nat.le_of_ble_eq_true rfl) rfl ?_
          obtain ⟨x28, hx28⟩ : ∃ z : Int32, z = x16 + 1 := ⟨_, rfl⟩
          refine x_iinc (v := x28) (L' := [some (.ref (xa X 0)), some (.int x1), some (.ref (xa X 11)), some (.int x13), some (.int x27), some (.int x28)]) C d_Brt_help_55 (Nat.le_of_ble_eq_true rfl) rfl (by rw [hx28]; rfl) rfl ?_
          have hw := hw x28 hx28
          refine x_goto (tgt := 30) C d_Brt_help_58 (by decide) ?_
          obtain ⟨m29, hm29, hw⟩ := hw
          exact x_wk (ihI17 m29 hm29 x27 x28 hw) (And.intro rfl (And.intro rfl (And.intro rfl (And.intro rfl (And.intro rfl (And.intro rfl (trivial)))))))
    exact x_wk (lI17 n18 0 0 hn18) (And.intro rfl (And.intro rfl (And.intro rfl (And.intro rfl (And.intro rfl (And.intro rfl (trivial)))))))
  · have hw := hw.2 c12
    refine x_iconst (v := (-1)) C d_Brt_help_16 rfl ?_
    exact x_ireturn C d_Brt_help_17 ⟨_, rfl, rfl, hw⟩
def vc_Brt_order (x1 : Int32) (s : St) (Q : Int32 → St → Prop) : Prop :=
    (((-1) ≤ x1 → ((x1 < (s 11 0) → vc_Best_find 58 1 52 s (fun s12 => ((¬ x1 = (-1) → (vp_in x1 6 ∧ Q (s12 59 (Int32.toNatClampNeg x1)) s12)) ∧ (x1 = (-1) → Q (s12 58 1) s12)))) ∧ (¬ x1 < (s 11 0) → Q (-4) s))) ∧ (¬ (-1) ≤ x1 → Q (-1) s))
def rm_Brt_order : Room := { frames := 6, cells := 0, slots := 0, locals := 155 }
set_option maxHeartbeats 4000000 in
set_option maxRecDepth 20000 in
theorem m_Brt_order (g : Gx) (hg : gOk g) (x1 : Int32)  (s : St) (Q : Int32 → St → Prop) (hw : vc_Brt_order x1 s Q) : Mc g y_Brt_order b_Brt_order 2 (some FieldType.int) rm_Brt_order [.ref (ga g 0), .int x1] s (fun v s' => ∃ r : Int32, v = some (.int r) ∧ Q r s') := by
  refine mc_ofV (j := 0) (L := [some (.ref (ga g 0)), some (.int x1)]) hg (by decide) (Nat.le_of_ble_eq_true rfl) rfl ?_
  intro X hX C
  subst hX
  unfold vc_Brt_order at hw
  refine x_iload_n C d_Brt_order_0 rfl ?_
  refine x_iconst (v := (-1)) C d_Brt_order_1 rfl ?_
  refine x_icmp_ge (tgt := 7) C d_Brt_order_2 (by decide) (fun c10 => ?_) (fun c10 => ?_)
  · have hw := hw.1 c10
    refine x_iload_n C d_Brt_order_7 rfl ?_
    refine x_aload_n C d_Brt_order_8 rfl ?_
    refine g_Brt_0 (p := 0) C rfl fl_Brt_10 d_Brt_order_9 ?_
    refine g_Cav_1 (p := 1) C rfl fl_Brt_127 d_Brt_order_12 ?_
    refine g_Bod_0 (p := 11) C rfl fl_Brt_250 d_Brt_order_15 ?_
    refine x_icmp_lt (tgt := 24) C d_Brt_order_18 (by decide) (fun c11 => ?_) (fun c11 => ?_)
    · have hw := hw.1 c11
      refine x_aload_n C d_Brt_order_24 rfl ?_
      refine g_Brt_4 (p := 0) C rfl fl_Brt_32 d_Brt_order_25 ?_
      refine x_aload_n C d_Brt_order_28 rfl ?_
      refine g_Brt_0 (p := 0) C rfl fl_Brt_10 d_Brt_order_29 ?_
      refine x_aload_n C d_Brt_order_32 rfl ?_
      refine g_Brt_3 (p := 0) C rfl fl_Brt_25 d_Brt_order_33 ?_
      refine x_callV (As := [.ref (xa X 1), .ref (xa X 52)]) (rest := []) (p := 58) C (m_Best_find (xg X) C.2.2.2.2.2.2.1 58 1 52 rfl rfl rfl s _ hw) cw_Best_find ml_Brt_251 rfl (by decide) (by decide) rfl rfl rfl ⟨rfl, rfl, Nat.le_of_ble_eq_true rfl, Nat.le_of_ble_eq_true rfl⟩ ⟨Nat.zero_le _, Nat.zero_le _⟩ rfl (Nat.le_of_ble_eq_true rfl) d_Brt_order_36 ?_
      rintro _ s12 ⟨rfl, hw⟩
      show V X _ _ _ _ 39 [some (.ref (xa X 0)), some (.int x1)] []
      refine x_iload_n C d_Brt_order_39 rfl ?_
      refine x_iconst (v := (-1)) C d_Brt_order_40 rfl ?_
      refine x_icmp_ne (tgt := 54) C d_Brt_order_41 (by decide) (fun c13 => ?_) (fun c13 => ?_)
      · have hw := hw.1 c13
        refine x_aload_n C d_Brt_order_54 rfl ?_
        refine g_Brt_4 (p := 0) C rfl fl_Brt_32 d_Brt_order_55 ?_
        refine g_Best_0 (p := 58) C rfl fl_Brt_258 d_Brt_order_58 ?_
        refine x_iload_n C d_Brt_order_61 rfl ?_
        obtain ⟨h14, hw⟩ := hw
        refine x_iald (p := 59) (n := 6) C rfl h14 d_Brt_order_62 ?_
        exact x_ireturn C d_Brt_order_63 ⟨_, rfl, hw⟩
      · have hw := hw.2 c13
        refine x_aload_n C d_Brt_order_44 rfl ?_
        refine g_Brt_4 (p := 0) C rfl fl_Brt_32 d_Brt_order_45 ?_
        refine g_Best_1 (p := 58) C rfl fl_Brt_255 d_Brt_order_48 ?_
        refine x_goto (tgt := 63) C d_Brt_order_51 (by decide) ?_
        exact x_ireturn C d_Brt_order_63 ⟨_, rfl, hw⟩
    · have hw := hw.2 c11
      refine x_bipush (v := (-4)) C d_Brt_order_21 rfl ?_
      exact x_ireturn C d_Brt_order_23 ⟨_, rfl, hw⟩
  · have hw := hw.2 c10
    refine x_iconst (v := (-1)) C d_Brt_order_5 rfl ?_
    exact x_ireturn C d_Brt_order_6 ⟨_, rfl, hw⟩
def vc_Brt_othersAreBack (x1 : Int32) (s : St) (Q : Bool → St → Prop) : Prop :=
    (∃ I13 : Nat → Int32 → Int32 → St → Prop, (∃ n14, I13 n14 0 0 s) ∧ ∀ (nI13 : Nat) (x10 : Int32) (x11 : Int32) (s12 : St), I13 nI13 x10 x11 s12 → (((s12 11 0) ≤ x11 → vc_Tri_thereAndBack 52 1 64 6 x10 (s12 1 5) s12 (fun b16 s17 => Q b16 s17)) ∧ (¬ (s12 11 0) ≤ x11 → (vp_in x11 6 ∧ (∀ x19 : Int32, x19 = s12 17 (Int32.toNatClampNeg x11) → (∃ J22 : Int32 → St → Prop, (∀ (x20 : Int32) (s21 : St), J22 x20 s21 → (∀ x23 : Int32, x23 = x11 + 1 → ∃ m24, m24 < nI13 ∧ I13 m24 x20 x23 s21)) ∧ ((¬ ((x1 >>> (x19 &&& 31)) &&& 1) = 0 → J22 x10 s12) ∧ (((x1 >>> (x19 &&& 31)) &&& 1) = 0 → (vp_in x10 6 ∧ (∀ s27 : St, s27 = wr s12 64 (Int32.toNatClampNeg x10) x19 → (∀ x28 : Int32, x28 = x10 + 1 → J22 x28 s27)))))))))))
def rm_Brt_othersAreBack : Room := { frames := 5, cells := 0, slots := 0, locals := 130 }
set_option maxHeartbeats 4000000 in
set_option maxRecDepth 20000 in
theorem m_Brt_othersAreBack (g : Gx) (hg : gOk g) (x1 : Int32)  (s : St) (Q : Bool → St → Prop) (hw : vc_Brt_othersAreBack x1 s Q) : Mc g y_Brt_othersAreBack b_Brt_othersAreBack 6 (some FieldType.boolean) rm_Brt_othersAreBack [.ref (ga g 0), .int x1] s (fun v s' => ∃ r : Bool, v = some (.int (bi r)) ∧ Q r s') := by
  refine mc_ofV (j := 4) (L := [some (.ref (ga g 0)), some (.int x1), none, none, none, none]) hg (by decide) (Nat.le_of_ble_eq_true rfl) rfl ?_
  intro X hX C
  subst hX
  unfold vc_Brt_othersAreBack at hw
  refine x_aload_n C d_Brt_othersAreBack_0 rfl ?_
  refine g_Brt_0 (p := 0) C rfl fl_Brt_10 d_Brt_othersAreBack_1 ?_
  refine g_Cav_1 (p := 1) C rfl fl_Brt_127 d_Brt_othersAreBack_4 ?_
  refine x_astore_n (L' := [some (.ref (xa X 0)), some (.int x1), some (.ref (xa X 11)), none, none, none]) C d_Brt_othersAreBack_7 (Nat.le_of_ble_eq_true rfl) rfl ?_
  refine x_iconst (v := 0) C d_Brt_othersAreBack_8 rfl ?_
  refine x_istore_n (L' := [some (.ref (xa X 0)), some (.int x1), some (.ref (xa X 11)), some (.int 0), none, none]) C d_Brt_othersAreBack_9 (Nat.le_of_ble_eq_true rfl) rfl ?_
  refine x_iconst (v := 0) C d_Brt_othersAreBack_10 rfl ?_
  refine x_istore (L' := [some (.ref (xa X 0)), some (.int x1), some (.ref (xa X 11)), some (.int 0), some (.int 0), none]) C d_Brt_othersAreBack_11 (Nat.le_of_ble_eq_true rfl) rfl ?_
  obtain ⟨I13, ⟨n14, hn14⟩, hI13⟩ := hw
  have lI13 : ∀ (nI13 : Nat) (x10 : Int32) (x11 : Int32) (s12 : St), I13 nI13 x10 x11 s12 → V X (xQ X (fun v s' => ∃ r : Bool, v = some (.int (bi r)) ∧ Q r s')) 0 0 s12 13 [some (.ref (xa X 0)), some (.int x1), some (.ref (xa X 11)), some (.int x10), some (.int x11), none] [] := by
    intro nI13
    induction nI13 using Nat.strongRecOn with
    | ind nI13 ihI13 =>
      intro x10 x11 s12 hv
      have hw := hI13 nI13 x10 x11 s12 hv
      refine x_iload C d_Brt_othersAreBack_13 rfl ?_
      refine x_aload_n C d_Brt_othersAreBack_15 rfl ?_
      refine g_Bod_0 (p := 11) C rfl fl_Brt_250 d_Brt_othersAreBack_16 ?_
      refine x_icmp_ge (tgt := 57) C d_Brt_othersAreBack_19 (by decide) (fun c15 => ?_) (fun c15 => ?_)
      · have hw := hw.1 c15
        refine x_aload_n C d_Brt_othersAreBack_57 rfl ?_
        refine g_Brt_3 (p := 0) C rfl fl_Brt_25 d_Brt_othersAreBack_58 ?_
        refine x_aload_n C d_Brt_othersAreBack_61 rfl ?_
        refine g_Brt_0 (p := 0) C rfl fl_Brt_10 d_Brt_othersAreBack_62 ?_
        refine x_aload_n C d_Brt_othersAreBack_65 rfl ?_
        refine g_Brt_6 (p := 0) C rfl fl_Brt_43 d_Brt_othersAreBack_66 ?_
        refine x_iload_n C d_Brt_othersAreBack_69 rfl ?_
        refine x_aload_n C d_Brt_othersAreBack_70 rfl ?_
        refine g_Brt_0 (p := 0) C rfl fl_Brt_10 d_Brt_othersAreBack_71 ?_
        refine g_Cav_5 (p := 1) C rfl fl_Brt_111 d_Brt_othersAreBack_74 ?_
        refine x_callV (As := [.ref (xa X 1), .ref (xa X 64), .int x10, .int (s12 1 5)]) (rest := []) (p := 52) C (m_Tri_thereAndBack (xg X) C.2.2.2.2.2.2.1 52 1 64 6 x10 (s12 1 5) rfl rfl rfl s12 _ hw) cw_Tri_thereAndBack ml_Brt_402 rfl (by decide) (by decide) rfl rfl rfl ⟨rfl, rfl, Nat.le_of_ble_eq_true rfl, Nat.le_of_ble_eq_true rfl⟩ ⟨Nat.zero_le _, Nat.zero_le _⟩ rfl (Nat.le_of_ble_eq_true rfl) d_Brt_othersAreBack_77 ?_
        rintro _ s17 ⟨b16, rfl, hw⟩
        show V X _ _ _ _ 80 [some (.ref (xa X 0)), some (.int x1), some (.ref (xa X 11)), some (.int x10), some (.int x11), none] [.int (bi b16)]
        exact x_zreturn (b := b16) C d_Brt_othersAreBack_80 ⟨_, rfl, hw⟩
      · have hw := hw.2 c15
        refine x_aload_n C d_Brt_othersAreBack_22 rfl ?_
        refine g_Bod_6 (p := 11) C rfl fl_Brt_249 d_Brt_othersAreBack_23 ?_
        refine x_iload C d_Brt_othersAreBack_26 rfl ?_
        obtain ⟨h18, hw⟩ := hw
        refine x_iald (p := 17) (n := 6) C rfl h18 d_Brt_othersAreBack_28 ?_
        refine x_nm (fun x19 hx19 => ?_)
        have hw := hw x19 hx19
        refine x_istore (L' := [some (.ref (xa X 0)), some (.int x1), some (.ref (xa X 11)), some (.int x10), some (.int x11), some (.int x19)]) C d_Brt_othersAreBack_29 (Nat.le_of_ble_eq_true rfl) rfl ?_
        refine x_iload_n C d_Brt_othersAreBack_31 rfl ?_
        refine x_iload C d_Brt_othersAreBack_32 rfl ?_
        refine x_ishr C d_Brt_othersAreBack_34 ?_
        refine x_iconst (v := 1) C d_Brt_othersAreBack_35 rfl ?_
        refine x_iand C d_Brt_othersAreBack_36 ?_
        obtain ⟨J22, hJ22, hw⟩ := hw
        have kJ22 : ∀ (x20 : Int32) (s21 : St), J22 x20 s21 → V X (xQ X (fun v s' => ∃ r : Bool, v = some (.int (bi r)) ∧ Q r s')) 0 0 s21 51 [some (.ref (xa X 0)), some (.int x1), some (.ref (xa X 11)), some (.int x20), some (.int x11), some (.int x19)] [] := by
          intro x20 s21 hv
          have hw := hJ22 x20 s21 hv
          obtain ⟨x23, hx23⟩ : ∃ z : Int32, z = x11 + 1 := ⟨_, rfl⟩
          refine x_iinc (v := x23) (L' := [some (.ref (xa X 0)), some (.int x1), some (.ref (xa X 11)), some (.int x20), some (.int x23), some (.int x19)]) C d_Brt_othersAreBack_51 (Nat.le_of_ble_eq_true rfl) rfl (by rw [hx23]; rfl) rfl ?_
          have hw := hw x23 hx23
          refine x_goto (tgt := 13) C d_Brt_othersAreBack_54 (by decide) ?_
          obtain ⟨m24, hm24, hw⟩ := hw
          exact x_wk (ihI13 m24 hm24 x20 x23 s21 hw) (And.intro rfl (And.intro rfl (And.intro rfl (And.intro rfl (And.intro rfl (trivial))))))
        refine x_if_ne (tgt := 51) C d_Brt_othersAreBack_37 (by decide) (fun c25 => ?_) (fun c25 => ?_)
        · have hw := hw.1 c25
          exact x_wk (kJ22 x10 s12 hw) (And.intro rfl (And.intro rfl (And.intro rfl (And.intro rfl (And.intro rfl (And.intro rfl (trivial)))))))
        · have hw := hw.2 c25
          refine x_aload_n C d_Brt_othersAreBack_40 rfl ?_
          refine g_Brt_6 (p := 0) C rfl fl_Brt_43 d_Brt_othersAreBack_41 ?_
          refine x_iload_n C d_Brt_othersAreBack_44 rfl ?_
          refine x_iload C d_Brt_othersAreBack_45 rfl ?_
          obtain ⟨h26, hw⟩ := hw
          refine x_iast (p := 64) (n := 6) C rfl h26 d_Brt_othersAreBack_47 ?_
          refine x_st (fun s27 hs27 => ?_)
          have hw := hw s27 hs27
          obtain ⟨x28, hx28⟩ : ∃ z : Int32, z = x10 + 1 := ⟨_, rfl⟩
          refine x_iinc (v := x28) (L' := [some (.ref (xa X 0)), some (.int x1), some (.ref (xa X 11)), some (.int x28), some (.int x11), some (.int x19)]) C d_Brt_othersAreBack_48 (Nat.le_of_ble_eq_true rfl) rfl (by rw [hx28]; rfl) rfl ?_
          have hw := hw x28 hx28
          exact x_wk (kJ22 x28 s27 hw) (And.intro rfl (And.intro rfl (And.intro rfl (And.intro rfl (And.intro rfl (And.intro rfl (trivial)))))))
  exact x_wk (lI13 n14 0 0 s hn14) (And.intro rfl (And.intro rfl (And.intro rfl (And.intro rfl (And.intro rfl (trivial))))))
def vc_Int_bitCount (x0 : Int32) (Q : Int32 → Prop) : Prop :=
    (∀ x10 : Int32, x10 = x0 - (((Int32.toUInt32 x0 >>> (Int32.toUInt32 1 &&& Int32.toUInt32 31)).toInt32) &&& 1431655765) → (∀ x11 : Int32, x11 = (x10 &&& 858993459) + (((Int32.toUInt32 x10 >>> (Int32.toUInt32 2 &&& Int32.toUInt32 31)).toInt32) &&& 858993459) → (∀ x12 : Int32, x12 = (x11 + ((Int32.toUInt32 x11 >>> (Int32.toUInt32 4 &&& Int32.toUInt32 31)).toInt32)) &&& 252645135 → (∀ x13 : Int32, x13 = x12 + ((Int32.toUInt32 x12 >>> (Int32.toUInt32 8 &&& Int32.toUInt32 31)).toInt32) → (∀ x14 : Int32, x14 = x13 + ((Int32.toUInt32 x13 >>> (Int32.toUInt32 16 &&& Int32.toUInt32 31)).toInt32) → Q (x14 &&& 63))))))
def rm_Int_bitCount : Room := { frames := 0, cells := 0, slots := 0, locals := 0 }
set_option maxHeartbeats 4000000 in
set_option maxRecDepth 20000 in
theorem m_Int_bitCount (g : Gx) (hg : gOk g) (x0 : Int32)  (s : St) (Q : Int32 → Prop) (hw : vc_Int_bitCount x0 Q) : Mc g y_Int_bitCount b_Int_bitCount 1 (some FieldType.int) rm_Int_bitCount [.int x0] s (fun v s' => ∃ r : Int32, v = some (.int r) ∧ s = s' ∧ Q r) := by
  refine mc_ofV (j := 0) (L := [some (.int x0)]) hg (by decide) (Nat.le_of_ble_eq_true rfl) rfl ?_
  intro X hX C
  subst hX
  unfold vc_Int_bitCount at hw
  refine x_iload_n C d_Int_bitCount_0 rfl ?_
  refine x_iload_n C d_Int_bitCount_1 rfl ?_
  refine x_iconst (v := 1) C d_Int_bitCount_2 rfl ?_
  refine x_iushr C d_Int_bitCount_3 ?_
  refine x_ldcw (v := 1431655765) C d_Int_bitCount_4 lc_Int_265 ?_
  refine x_iand C d_Int_bitCount_7 ?_
  refine x_isub C d_Int_bitCount_8 ?_
  refine x_nm (fun x10 hx10 => ?_)
  have hw := hw x10 hx10
  refine x_istore_n (L' := [some (.int x10)]) C d_Int_bitCount_9 (Nat.le_of_ble_eq_true rfl) rfl ?_
  refine x_iload_n C d_Int_bitCount_10 rfl ?_
  refine x_ldcw (v := 858993459) C d_Int_bitCount_11 lc_Int_266 ?_
  refine x_iand C d_Int_bitCount_14 ?_
  refine x_iload_n C d_Int_bitCount_15 rfl ?_
  refine x_iconst (v := 2) C d_Int_bitCount_16 rfl ?_
  refine x_iushr C d_Int_bitCount_17 ?_
  refine x_ldcw (v := 858993459) C d_Int_bitCount_18 lc_Int_266 ?_
  refine x_iand C d_Int_bitCount_21 ?_
  refine x_iadd C d_Int_bitCount_22 ?_
  refine x_nm (fun x11 hx11 => ?_)
  have hw := hw x11 hx11
  refine x_istore_n (L' := [some (.int x11)]) C d_Int_bitCount_23 (Nat.le_of_ble_eq_true rfl) rfl ?_
  refine x_iload_n C d_Int_bitCount_24 rfl ?_
  refine x_iload_n C d_Int_bitCount_25 rfl ?_
  refine x_iconst (v := 4) C d_Int_bitCount_26 rfl ?_
  refine x_iushr C d_Int_bitCount_27 ?_
  refine x_iadd C d_Int_bitCount_28 ?_
  refine x_ldcw (v := 252645135) C d_Int_bitCount_29 lc_Int_267 ?_
  refine x_iand C d_Int_bitCount_32 ?_
  refine x_nm (fun x12 hx12 => ?_)
  have hw := hw x12 hx12
  refine x_istore_n (L' := [some (.int x12)]) C d_Int_bitCount_33 (Nat.le_of_ble_eq_true rfl) rfl ?_
  refine x_iload_n C d_Int_bitCount_34 rfl ?_
  refine x_iload_n C d_Int_bitCount_35 rfl ?_
  refine x_bipush (v := 8) C d_Int_bitCount_36 rfl ?_
  refine x_iushr C d_Int_bitCount_38 ?_
  refine x_iadd C d_Int_bitCount_39 ?_
  refine x_nm (fun x13 hx13 => ?_)
  have hw := hw x13 hx13
  refine x_istore_n (L' := [some (.int x13)]) C d_Int_bitCount_40 (Nat.le_of_ble_eq_true rfl) rfl ?_
  refine x_iload_n C d_Int_bitCount_41 rfl ?_
  refine x_iload_n C d_Int_bitCount_42 rfl ?_
  refine x_bipush (v := 16) C d_Int_bitCount_43 rfl ?_
  refine x_iushr C d_Int_bitCount_45 ?_
  refine x_iadd C d_Int_bitCount_46 ?_
  refine x_nm (fun x14 hx14 => ?_)
  have hw := hw x14 hx14
  refine x_istore_n (L' := [some (.int x14)]) C d_Int_bitCount_47 (Nat.le_of_ble_eq_true rfl) rfl ?_
  refine x_iload_n C d_Int_bitCount_48 rfl ?_
  refine x_bipush (v := 63) C d_Int_bitCount_49 rfl ?_
  refine x_iand C d_Int_bitCount_51 ?_
  exact x_ireturn C d_Int_bitCount_52 ⟨_, rfl, rfl, hw⟩
def vc_Brt_stays  (s : St) (Q : Int32 → St → Prop) : Prop :=
    (∀ x10 : Int32, x10 = 1 <<< ((s 11 0) &&& 31) → (∃ I15 : Nat → Int32 → Int32 → Int32 → St → Prop, (∃ n16, I15 n16 (-4) 7 0 s) ∧ ∀ (nI15 : Nat) (x11 : Int32) (x12 : Int32) (x13 : Int32) (s14 : St), I15 nI15 x11 x12 x13 s14 → ((x10 ≤ x13 → Q x11 s14) ∧ (¬ x10 ≤ x13 → vc_Int_bitCount x13 (fun x18 => (∃ J23 : Int32 → Int32 → St → Prop, (∀ (x20 : Int32) (x21 : Int32) (s22 : St), J23 x20 x21 s22 → (∀ x24 : Int32, x24 = x13 + 1 → ∃ m25, m25 < nI15 ∧ I15 m25 x20 x21 x24 s22)) ∧ ((x12 ≤ x18 → J23 x11 x12 s14) ∧ (¬ x12 ≤ x18 → vc_Brt_othersAreBack x13 s14 (fun b27 s28 => (((bi b27) = 0 → J23 x11 x12 s28) ∧ (¬ (bi b27) = 0 → J23 x13 x18 s28)))))))))))
def rm_Brt_stays : Room := { frames := 6, cells := 0, slots := 0, locals := 155 }
set_option maxHeartbeats 4000000 in
set_option maxRecDepth 20000 in
theorem m_Brt_stays (g : Gx) (hg : gOk g)   (s : St) (Q : Int32 → St → Prop) (hw : vc_Brt_stays  s Q) : Mc g y_Brt_stays b_Brt_stays 6 (some FieldType.int) rm_Brt_stays [.ref (ga g 0)] s (fun v s' => ∃ r : Int32, v = some (.int r) ∧ Q r s') := by
  refine mc_ofV (j := 5) (L := [some (.ref (ga g 0)), none, none, none, none, none]) hg (by decide) (Nat.le_of_ble_eq_true rfl) rfl ?_
  intro X hX C
  subst hX
  unfold vc_Brt_stays at hw
  refine x_bipush (v := (-4)) C d_Brt_stays_0 rfl ?_
  refine x_istore_n (L' := [some (.ref (xa X 0)), some (.int (-4)), none, none, none, none]) C d_Brt_stays_2 (Nat.le_of_ble_eq_true rfl) rfl ?_
  refine x_bipush (v := 7) C d_Brt_stays_3 rfl ?_
  refine x_istore_n (L' := [some (.ref (xa X 0)), some (.int (-4)), some (.int 7), none, none, none]) C d_Brt_stays_5 (Nat.le_of_ble_eq_true rfl) rfl ?_
  refine x_iconst (v := 1) C d_Brt_stays_6 rfl ?_
  refine x_aload_n C d_Brt_stays_7 rfl ?_
  refine g_Brt_0 (p := 0) C rfl fl_Brt_10 d_Brt_stays_8 ?_
  refine g_Cav_1 (p := 1) C rfl fl_Brt_127 d_Brt_stays_11 ?_
  refine g_Bod_0 (p := 11) C rfl fl_Brt_250 d_Brt_stays_14 ?_
  refine x_ishl C d_Brt_stays_17 ?_
  refine x_nm (fun x10 hx10 => ?_)
  have hw := hw x10 hx10
  refine x_istore_n (L' := [some (.ref (xa X 0)), some (.int (-4)), some (.int 7), some (.int x10), none, none]) C d_Brt_stays_18 (Nat.le_of_ble_eq_true rfl) rfl ?_
  refine x_iconst (v := 0) C d_Brt_stays_19 rfl ?_
  refine x_istore (L' := [some (.ref (xa X 0)), some (.int (-4)), some (.int 7), some (.int x10), some (.int 0), none]) C d_Brt_stays_20 (Nat.le_of_ble_eq_true rfl) rfl ?_
  obtain ⟨I15, ⟨n16, hn16⟩, hI15⟩ := hw
  have lI15 : ∀ (nI15 : Nat) (x11 : Int32) (x12 : Int32) (x13 : Int32) (s14 : St), I15 nI15 x11 x12 x13 s14 → V X (xQ X (fun v s' => ∃ r : Int32, v = some (.int r) ∧ Q r s')) 0 0 s14 22 [some (.ref (xa X 0)), some (.int x11), some (.int x12), some (.int x10), some (.int x13), none] [] := by
    intro nI15
    induction nI15 using Nat.strongRecOn with
    | ind nI15 ihI15 =>
      intro x11 x12 x13 s14 hv
      have hw := hI15 nI15 x11 x12 x13 s14 hv
      refine x_iload C d_Brt_stays_22 rfl ?_
      refine x_iload_n C d_Brt_stays_24 rfl ?_
      refine x_icmp_ge (tgt := 62) C d_Brt_stays_25 (by decide) (fun c17 => ?_) (fun c17 => ?_)
      · have hw := hw.1 c17
        refine x_iload_n C d_Brt_stays_62 rfl ?_
        exact x_ireturn C d_Brt_stays_63 ⟨_, rfl, hw⟩
      · have hw := hw.2 c17
        refine x_iload C d_Brt_stays_28 rfl ?_
        refine x_callS (As := [.int x13]) (rest := []) C (m_Int_bitCount (xg X) C.2.2.2.2.2.2.1 x13 s14 _ hw) cw_Int_bitCount ml_Brt_259 rfl ⟨rfl, rfl, Nat.le_of_ble_eq_true rfl, Nat.le_of_ble_eq_true rfl⟩ ⟨Nat.zero_le _, Nat.zero_le _⟩ rfl (Nat.le_of_ble_eq_true rfl) d_Brt_stays_30 ?_
        rintro _ _ ⟨x18, rfl, rfl, hw⟩
        show V X _ _ _ _ 33 [some (.ref (xa X 0)), some (.int x11), some (.int x12), some (.int x10), some (.int x13), none] [.int x18]
        refine x_istore (L' := [some (.ref (xa X 0)), some (.int x11), some (.int x12), some (.int x10), some (.int x13), some (.int x18)]) C d_Brt_stays_33 (Nat.le_of_ble_eq_true rfl) rfl ?_
        refine x_iload C d_Brt_stays_35 rfl ?_
        refine x_iload_n C d_Brt_stays_37 rfl ?_
        obtain ⟨J23, hJ23, hw⟩ := hw
        have kJ23 : ∀ (x20 : Int32) (x21 : Int32) (s22 : St), J23 x20 x21 s22 → V X (xQ X (fun v s' => ∃ r : Int32, v = some (.int r) ∧ Q r s')) 0 0 s22 56 [some (.ref (xa X 0)), some (.int x20), some (.int x21), some (.int x10), some (.int x13), some (.int x18)] [] := by
          intro x20 x21 s22 hv
          have hw := hJ23 x20 x21 s22 hv
          obtain ⟨x24, hx24⟩ : ∃ z : Int32, z = x13 + 1 := ⟨_, rfl⟩
          refine x_iinc (v := x24) (L' := [some (.ref (xa X 0)), some (.int x20), some (.int x21), some (.int x10), some (.int x24), some (.int x18)]) C d_Brt_stays_56 (Nat.le_of_ble_eq_true rfl) rfl (by rw [hx24]; rfl) rfl ?_
          have hw := hw x24 hx24
          refine x_goto (tgt := 22) C d_Brt_stays_59 (by decide) ?_
          obtain ⟨m25, hm25, hw⟩ := hw
          exact x_wk (ihI15 m25 hm25 x20 x21 x24 s22 hw) (And.intro rfl (And.intro rfl (And.intro rfl (And.intro rfl (And.intro rfl (trivial))))))
        refine x_icmp_ge (tgt := 56) C d_Brt_stays_38 (by decide) (fun c26 => ?_) (fun c26 => ?_)
        · have hw := hw.1 c26
          exact x_wk (kJ23 x11 x12 s14 hw) (And.intro rfl (And.intro rfl (And.intro rfl (And.intro rfl (And.intro rfl (And.intro rfl (trivial)))))))
        · have hw := hw.2 c26
          refine x_aload_n C d_Brt_stays_41 rfl ?_
          refine x_iload C d_Brt_stays_42 rfl ?_
          refine x_callV (As := [.int x13]) (rest := []) (p := 0) C (m_Brt_othersAreBack (xg X) C.2.2.2.2.2.2.1 x13 s14 _ hw) cw_Brt_othersAreBack ml_Brt_264 rfl (by decide) (by decide) rfl rfl rfl ⟨rfl, rfl, Nat.le_of_ble_eq_true rfl, Nat.le_of_ble_eq_true rfl⟩ ⟨Nat.zero_le _, Nat.zero_le _⟩ rfl (Nat.le_of_ble_eq_true rfl) d_Brt_stays_44 ?_
          rintro _ s28 ⟨b27, rfl, hw⟩
          show V X _ _ _ _ 47 [some (.ref (xa X 0)), some (.int x11), some (.int x12), some (.int x10), some (.int x13), some (.int x18)] [.int (bi b27)]
          refine x_if_eq (tgt := 56) C d_Brt_stays_47 (by decide) (fun c29 => ?_) (fun c29 => ?_)
          · have hw := hw.1 c29
            exact x_wk (kJ23 x11 x12 s28 hw) (And.intro rfl (And.intro rfl (And.intro rfl (And.intro rfl (And.intro rfl (And.intro rfl (trivial)))))))
          · have hw := hw.2 c29
            refine x_iload C d_Brt_stays_50 rfl ?_
            refine x_istore_n (L' := [some (.ref (xa X 0)), some (.int x11), some (.int x18), some (.int x10), some (.int x13), some (.int x18)]) C d_Brt_stays_52 (Nat.le_of_ble_eq_true rfl) rfl ?_
            refine x_iload C d_Brt_stays_53 rfl ?_
            refine x_istore_n (L' := [some (.ref (xa X 0)), some (.int x13), some (.int x18), some (.int x10), some (.int x13), some (.int x18)]) C d_Brt_stays_55 (Nat.le_of_ble_eq_true rfl) rfl ?_
            exact x_wk (kJ23 x13 x18 s28 hw) (And.intro rfl (And.intro rfl (And.intro rfl (And.intro rfl (And.intro rfl (And.intro rfl (trivial)))))))
  exact x_wk (lI15 n16 (-4) 7 0 s hn16) (And.intro rfl (And.intro rfl (And.intro rfl (And.intro rfl (And.intro rfl (trivial))))))
def vc_Brt_calms (x1 : Int32) (s : St) (Q : Int32 → St → Prop) : Prop :=
    vc_Bod_has 11 x1 s (fun b10 => ((¬ (bi b10) = 0 → vc_Cav_become 35 1 s (fun s13 => (vp_in x1 6 ∧ (∀ x15 : Int32, x15 = s13 14 (Int32.toNatClampNeg x1) → (∃ I18 : Nat → Int32 → St → Prop, (∃ n19, I18 n19 0 s13) ∧ ∀ (nI18 : Nat) (x16 : Int32) (s17 : St), I18 nI18 x16 s17 → ((x15 < x16 → Q (-4) s17) ∧ (¬ x15 < x16 → (vp_in x1 6 ∧ (∀ s22 : St, s22 = wr s17 48 (Int32.toNatClampNeg x1) (x15 - x16) → vc_Tri_alone 52 35 x1 0 s22 (fun p23 s24 => kd p23 = 6 → ((¬ (s24 p23 2) = (-4) → (∀ x26 : Int32, x26 = x16 + 1 → ∃ m27, m27 < nI18 ∧ I18 m27 x26 s24)) ∧ ((s24 p23 2) = (-4) → Q (x16 * (s24 1 3)) s24)))))))))))) ∧ ((bi b10) = 0 → Q (-1) s)))
def rm_Brt_calms : Room := { frames := 5, cells := 0, slots := 0, locals := 130 }
set_option maxHeartbeats 4000000 in
set_option maxRecDepth 20000 in
theorem m_Brt_calms (g : Gx) (hg : gOk g) (x1 : Int32)  (s : St) (Q : Int32 → St → Prop) (hw : vc_Brt_calms x1 s Q) : Mc g y_Brt_calms b_Brt_calms 4 (some FieldType.int) rm_Brt_calms [.ref (ga g 0), .int x1] s (fun v s' => ∃ r : Int32, v = some (.int r) ∧ Q r s') := by
  refine mc_ofV (j := 2) (L := [some (.ref (ga g 0)), some (.int x1), none, none]) hg (by decide) (Nat.le_of_ble_eq_true rfl) rfl ?_
  intro X hX C
  subst hX
  unfold vc_Brt_calms at hw
  refine x_aload_n C d_Brt_calms_0 rfl ?_
  refine g_Brt_0 (p := 0) C rfl fl_Brt_10 d_Brt_calms_1 ?_
  refine g_Cav_1 (p := 1) C rfl fl_Brt_127 d_Brt_calms_4 ?_
  refine x_iload_n C d_Brt_calms_7 rfl ?_
  refine x_callV (As := [.int x1]) (rest := []) (p := 11) C (m_Bod_has (xg X) C.2.2.2.2.2.2.1 11 x1 rfl s _ hw) cw_Bod_has ml_Brt_131 rfl (by decide) (by decide) rfl rfl rfl ⟨rfl, rfl, Nat.le_of_ble_eq_true rfl, Nat.le_of_ble_eq_true rfl⟩ ⟨Nat.zero_le _, Nat.zero_le _⟩ rfl (Nat.le_of_ble_eq_true rfl) d_Brt_calms_8 ?_
  rintro _ _ ⟨b10, rfl, rfl, hw⟩
  show V X _ _ _ _ 11 [some (.ref (xa X 0)), some (.int x1), none, none] [.int (bi b10)]
  refine x_if_ne (tgt := 16) C d_Brt_calms_11 (by decide) (fun c12 => ?_) (fun c12 => ?_)
  · have hw := hw.1 c12
    refine x_aload_n C d_Brt_calms_16 rfl ?_
    refine g_Brt_2 (p := 0) C rfl fl_Brt_19 d_Brt_calms_17 ?_
    refine x_aload_n C d_Brt_calms_20 rfl ?_
    refine g_Brt_0 (p := 0) C rfl fl_Brt_10 d_Brt_calms_21 ?_
    refine x_callV (As := [.ref (xa X 1)]) (rest := []) (p := 35) C (m_Cav_become (xg X) C.2.2.2.2.2.2.1 35 1 rfl rfl s _ hw) cw_Cav_become ml_Brt_72 rfl (by decide) (by decide) rfl rfl rfl ⟨rfl, rfl, Nat.le_of_ble_eq_true rfl, Nat.le_of_ble_eq_true rfl⟩ ⟨Nat.zero_le _, Nat.zero_le _⟩ rfl (Nat.le_of_ble_eq_true rfl) d_Brt_calms_24 ?_
    rintro _ s13 ⟨rfl, hw⟩
    show V X _ _ _ _ 27 [some (.ref (xa X 0)), some (.int x1), none, none] []
    refine x_aload_n C d_Brt_calms_27 rfl ?_
    refine g_Brt_0 (p := 0) C rfl fl_Brt_10 d_Brt_calms_28 ?_
    refine g_Cav_1 (p := 1) C rfl fl_Brt_127 d_Brt_calms_31 ?_
    refine g_Bod_3 (p := 11) C rfl fl_Brt_140 d_Brt_calms_34 ?_
    refine x_iload_n C d_Brt_calms_37 rfl ?_
    obtain ⟨h14, hw⟩ := hw
    refine x_iald (p := 14) (n := 6) C rfl h14 d_Brt_calms_38 ?_
    refine x_nm (fun x15 hx15 => ?_)
    have hw := hw x15 hx15
    refine x_istore_n (L' := [some (.ref (xa X 0)), some (.int x1), some (.int x15), none]) C d_Brt_calms_39 (Nat.le_of_ble_eq_true rfl) rfl ?_
    refine x_iconst (v := 0) C d_Brt_calms_40 rfl ?_
    refine x_istore_n (L' := [some (.ref (xa X 0)), some (.int x1), some (.int x15), some (.int 0)]) C d_Brt_calms_41 (Nat.le_of_ble_eq_true rfl) rfl ?_
    obtain ⟨I18, ⟨n19, hn19⟩, hI18⟩ := hw
    have lI18 : ∀ (nI18 : Nat) (x16 : Int32) (s17 : St), I18 nI18 x16 s17 → V X (xQ X (fun v s' => ∃ r : Int32, v = some (.int r) ∧ Q r s')) 0 0 s17 42 [some (.ref (xa X 0)), some (.int x1), some (.int x15), some (.int x16)] [] := by
      intro nI18
      induction nI18 using Nat.strongRecOn with
      | ind nI18 ihI18 =>
        intro x16 s17 hv
        have hw := hI18 nI18 x16 s17 hv
        refine x_iload_n C d_Brt_calms_42 rfl ?_
        refine x_iload_n C d_Brt_calms_43 rfl ?_
        refine x_icmp_gt (tgt := 99) C d_Brt_calms_44 (by decide) (fun c20 => ?_) (fun c20 => ?_)
        · have hw := hw.1 c20
          refine x_bipush (v := (-4)) C d_Brt_calms_99 rfl ?_
          exact x_ireturn C d_Brt_calms_101 ⟨_, rfl, hw⟩
        · have hw := hw.2 c20
          refine x_aload_n C d_Brt_calms_47 rfl ?_
          refine g_Brt_2 (p := 0) C rfl fl_Brt_19 d_Brt_calms_48 ?_
          refine g_Cav_1 (p := 35) C rfl fl_Brt_127 d_Brt_calms_51 ?_
          refine g_Bod_3 (p := 45) C rfl fl_Brt_140 d_Brt_calms_54 ?_
          refine x_iload_n C d_Brt_calms_57 rfl ?_
          refine x_iload_n C d_Brt_calms_58 rfl ?_
          refine x_iload_n C d_Brt_calms_59 rfl ?_
          refine x_isub C d_Brt_calms_60 ?_
          obtain ⟨h21, hw⟩ := hw
          refine x_iast (p := 48) (n := 6) C rfl h21 d_Brt_calms_61 ?_
          refine x_st (fun s22 hs22 => ?_)
          have hw := hw s22 hs22
          refine x_aload_n C d_Brt_calms_62 rfl ?_
          refine g_Brt_3 (p := 0) C rfl fl_Brt_25 d_Brt_calms_63 ?_
          refine x_aload_n C d_Brt_calms_66 rfl ?_
          refine g_Brt_2 (p := 0) C rfl fl_Brt_19 d_Brt_calms_67 ?_
          refine x_iload_n C d_Brt_calms_70 rfl ?_
          refine x_iconst (v := 0) C d_Brt_calms_71 rfl ?_
          refine x_callV (As := [.ref (xa X 35), .int x1, .int 0]) (rest := []) (p := 52) C (m_Tri_alone (xg X) C.2.2.2.2.2.2.1 52 35 x1 0 rfl rfl s22 _ hw) cw_Tri_alone ml_Brt_205 rfl (by decide) (by decide) rfl rfl rfl ⟨rfl, rfl, Nat.le_of_ble_eq_true rfl, Nat.le_of_ble_eq_true rfl⟩ ⟨Nat.zero_le _, Nat.zero_le _⟩ rfl (Nat.le_of_ble_eq_true rfl) d_Brt_calms_72 ?_
          rintro _ s24 ⟨p23, rfl, hkp23, hw⟩
          have hw := hw hkp23
          show V X _ _ _ _ 75 [some (.ref (xa X 0)), some (.int x1), some (.int x15), some (.int x16)] [.ref (xa X p23)]
          refine g_Leg_2 (p := p23) C hkp23 fl_Brt_219 d_Brt_calms_75 ?_
          refine x_bipush (v := (-4)) C d_Brt_calms_78 rfl ?_
          refine x_icmp_ne (tgt := 93) C d_Brt_calms_80 (by decide) (fun c25 => ?_) (fun c25 => ?_)
          · have hw := hw.1 c25
            obtain ⟨x26, hx26⟩ : ∃ z : Int32, z = x16 + 1 := ⟨_, rfl⟩
            refine x_iinc (v := x26) (L' := [some (.ref (xa X 0)), some (.int x1), some (.int x15), some (.int x26)]) C d_Brt_calms_93 (Nat.le_of_ble_eq_true rfl) rfl (by rw [hx26]; rfl) rfl ?_
            have hw := hw x26 hx26
            refine x_goto (tgt := 42) C d_Brt_calms_96 (by decide) ?_
            obtain ⟨m27, hm27, hw⟩ := hw
            exact x_wk (ihI18 m27 hm27 x26 s24 hw) (And.intro rfl (And.intro rfl (And.intro rfl (And.intro rfl (trivial)))))
          · have hw := hw.2 c25
            refine x_iload_n C d_Brt_calms_83 rfl ?_
            refine x_aload_n C d_Brt_calms_84 rfl ?_
            refine g_Brt_0 (p := 0) C rfl fl_Brt_10 d_Brt_calms_85 ?_
            refine g_Cav_3 (p := 1) C rfl fl_Brt_267 d_Brt_calms_88 ?_
            refine x_imul C d_Brt_calms_91 ?_
            exact x_ireturn C d_Brt_calms_92 ⟨_, rfl, hw⟩
    exact x_wk (lI18 n19 0 s13 hn19) (And.intro rfl (And.intro rfl (And.intro rfl (And.intro rfl (trivial)))))
  · have hw := hw.2 c12
    refine x_iconst (v := (-1)) C d_Brt_calms_14 rfl ?_
    exact x_ireturn C d_Brt_calms_15 ⟨_, rfl, hw⟩
