theorem d_Bod_swap_0 : decode b_Bod_swap 0 = .ok (.aload_n 0, 1) := by decide +kernel
theorem d_Bod_swap_1 : decode b_Bod_swap 1 = .ok (.iload_n 1, 1) := by decide +kernel
theorem d_Bod_swap_2 : decode b_Bod_swap 2 = .ok (.invokevirtual 38, 3) := by decide +kernel
theorem d_Bod_swap_5 : decode b_Bod_swap 5 = .ok (.ifCond .eq 16, 3) := by decide +kernel
theorem d_Bod_swap_8 : decode b_Bod_swap 8 = .ok (.aload_n 0, 1) := by decide +kernel
theorem d_Bod_swap_9 : decode b_Bod_swap 9 = .ok (.iload_n 2, 1) := by decide +kernel
theorem d_Bod_swap_10 : decode b_Bod_swap 10 = .ok (.invokevirtual 38, 3) := by decide +kernel
theorem d_Bod_swap_13 : decode b_Bod_swap 13 = .ok (.ifCond .eq 8, 3) := by decide +kernel
theorem d_Bod_swap_16 : decode b_Bod_swap 16 = .ok (.iload_n 1, 1) := by decide +kernel
theorem d_Bod_swap_17 : decode b_Bod_swap 17 = .ok (.iload_n 2, 1) := by decide +kernel
theorem d_Bod_swap_18 : decode b_Bod_swap 18 = .ok (.if_icmp .ne 5, 3) := by decide +kernel
theorem d_Bod_swap_21 : decode b_Bod_swap 21 = .ok (.iconst 0, 1) := by decide +kernel
theorem d_Bod_swap_22 : decode b_Bod_swap 22 = .ok (.ireturn, 1) := by decide +kernel
theorem d_Bod_swap_23 : decode b_Bod_swap 23 = .ok (.iconst 0, 1) := by decide +kernel
theorem d_Bod_swap_24 : decode b_Bod_swap 24 = .ok (.istore_n 3, 1) := by decide +kernel
theorem d_Bod_swap_25 : decode b_Bod_swap 25 = .ok (.iload_n 3, 1) := by decide +kernel
theorem d_Bod_swap_26 : decode b_Bod_swap 26 = .ok (.aload_n 0, 1) := by decide +kernel
theorem d_Bod_swap_27 : decode b_Bod_swap 27 = .ok (.getfield 9, 3) := by decide +kernel
theorem d_Bod_swap_30 : decode b_Bod_swap 30 = .ok (.if_icmp .ge 46, 3) := by decide +kernel
theorem d_Bod_swap_33 : decode b_Bod_swap 33 = .ok (.aload_n 0, 1) := by decide +kernel
theorem d_Bod_swap_34 : decode b_Bod_swap 34 = .ok (.getfield 31, 3) := by decide +kernel
theorem d_Bod_swap_37 : decode b_Bod_swap 37 = .ok (.iload_n 3, 1) := by decide +kernel
theorem d_Bod_swap_38 : decode b_Bod_swap 38 = .ok (.iaload, 1) := by decide +kernel
theorem d_Bod_swap_39 : decode b_Bod_swap 39 = .ok (.iload_n 1, 1) := by decide +kernel
theorem d_Bod_swap_40 : decode b_Bod_swap 40 = .ok (.if_icmp .ne 13, 3) := by decide +kernel
theorem d_Bod_swap_43 : decode b_Bod_swap 43 = .ok (.aload_n 0, 1) := by decide +kernel
theorem d_Bod_swap_44 : decode b_Bod_swap 44 = .ok (.getfield 31, 3) := by decide +kernel
theorem d_Bod_swap_47 : decode b_Bod_swap 47 = .ok (.iload_n 3, 1) := by decide +kernel
theorem d_Bod_swap_48 : decode b_Bod_swap 48 = .ok (.iload_n 2, 1) := by decide +kernel
theorem d_Bod_swap_49 : decode b_Bod_swap 49 = .ok (.iastore, 1) := by decide +kernel
theorem d_Bod_swap_50 : decode b_Bod_swap 50 = .ok (.goto 20, 3) := by decide +kernel
theorem d_Bod_swap_53 : decode b_Bod_swap 53 = .ok (.aload_n 0, 1) := by decide +kernel
theorem d_Bod_swap_54 : decode b_Bod_swap 54 = .ok (.getfield 31, 3) := by decide +kernel
theorem d_Bod_swap_57 : decode b_Bod_swap 57 = .ok (.iload_n 3, 1) := by decide +kernel
theorem d_Bod_swap_58 : decode b_Bod_swap 58 = .ok (.iaload, 1) := by decide +kernel
theorem d_Bod_swap_59 : decode b_Bod_swap 59 = .ok (.iload_n 2, 1) := by decide +kernel
theorem d_Bod_swap_60 : decode b_Bod_swap 60 = .ok (.if_icmp .ne 10, 3) := by decide +kernel
theorem d_Bod_swap_63 : decode b_Bod_swap 63 = .ok (.aload_n 0, 1) := by decide +kernel
theorem d_Bod_swap_64 : decode b_Bod_swap 64 = .ok (.getfield 31, 3) := by decide +kernel
theorem d_Bod_swap_67 : decode b_Bod_swap 67 = .ok (.iload_n 3, 1) := by decide +kernel
theorem d_Bod_swap_68 : decode b_Bod_swap 68 = .ok (.iload_n 1, 1) := by decide +kernel
theorem d_Bod_swap_69 : decode b_Bod_swap 69 = .ok (.iastore, 1) := by decide +kernel
theorem d_Bod_swap_70 : decode b_Bod_swap 70 = .ok (.iinc 3 1, 3) := by decide +kernel
theorem d_Bod_swap_73 : decode b_Bod_swap 73 = .ok (.goto (-48), 3) := by decide +kernel
theorem d_Bod_swap_76 : decode b_Bod_swap 76 = .ok (.iconst 1, 1) := by decide +kernel
theorem d_Bod_swap_77 : decode b_Bod_swap 77 = .ok (.ireturn, 1) := by decide +kernel
theorem d_Bod_strongestPullBut_0 : decode b_Bod_strongestPullBut 0 = .ok (.iconst 0, 1) := by decide +kernel
theorem d_Bod_strongestPullBut_1 : decode b_Bod_strongestPullBut 1 = .ok (.istore_n 2, 1) := by decide +kernel
theorem d_Bod_strongestPullBut_2 : decode b_Bod_strongestPullBut 2 = .ok (.iconst 0, 1) := by decide +kernel
theorem d_Bod_strongestPullBut_3 : decode b_Bod_strongestPullBut 3 = .ok (.istore_n 3, 1) := by decide +kernel
theorem d_Bod_strongestPullBut_4 : decode b_Bod_strongestPullBut 4 = .ok (.iload_n 3, 1) := by decide +kernel
theorem d_Bod_strongestPullBut_5 : decode b_Bod_strongestPullBut 5 = .ok (.aload_n 0, 1) := by decide +kernel
theorem d_Bod_strongestPullBut_6 : decode b_Bod_strongestPullBut 6 = .ok (.getfield 9, 3) := by decide +kernel
theorem d_Bod_strongestPullBut_9 : decode b_Bod_strongestPullBut 9 = .ok (.if_icmp .ge 25, 3) := by decide +kernel
theorem d_Bod_strongestPullBut_12 : decode b_Bod_strongestPullBut 12 = .ok (.iload_n 3, 1) := by decide +kernel
theorem d_Bod_strongestPullBut_13 : decode b_Bod_strongestPullBut 13 = .ok (.iload_n 1, 1) := by decide +kernel
theorem d_Bod_strongestPullBut_14 : decode b_Bod_strongestPullBut 14 = .ok (.if_icmp .eq 14, 3) := by decide +kernel
theorem d_Bod_strongestPullBut_17 : decode b_Bod_strongestPullBut 17 = .ok (.iload_n 2, 1) := by decide +kernel
theorem d_Bod_strongestPullBut_18 : decode b_Bod_strongestPullBut 18 = .ok (.aload_n 0, 1) := by decide +kernel
theorem d_Bod_strongestPullBut_19 : decode b_Bod_strongestPullBut 19 = .ok (.getfield 25, 3) := by decide +kernel
theorem d_Bod_strongestPullBut_22 : decode b_Bod_strongestPullBut 22 = .ok (.iload_n 3, 1) := by decide +kernel
theorem d_Bod_strongestPullBut_23 : decode b_Bod_strongestPullBut 23 = .ok (.iaload, 1) := by decide +kernel
theorem d_Bod_strongestPullBut_24 : decode b_Bod_strongestPullBut 24 = .ok (.invokestatic 42, 3) := by decide +kernel
theorem d_Bod_strongestPullBut_27 : decode b_Bod_strongestPullBut 27 = .ok (.istore_n 2, 1) := by decide +kernel
theorem d_Bod_strongestPullBut_28 : decode b_Bod_strongestPullBut 28 = .ok (.iinc 3 1, 3) := by decide +kernel
theorem d_Bod_strongestPullBut_31 : decode b_Bod_strongestPullBut 31 = .ok (.goto (-27), 3) := by decide +kernel
theorem d_Bod_strongestPullBut_34 : decode b_Bod_strongestPullBut 34 = .ok (.iload_n 2, 1) := by decide +kernel
theorem d_Bod_strongestPullBut_35 : decode b_Bod_strongestPullBut 35 = .ok (.ireturn, 1) := by decide +kernel
theorem d_Bod_weakestPullBut_0 : decode b_Bod_weakestPullBut 0 = .ok (.bipush 9, 2) := by decide +kernel
theorem d_Bod_weakestPullBut_2 : decode b_Bod_weakestPullBut 2 = .ok (.istore_n 2, 1) := by decide +kernel
theorem d_Bod_weakestPullBut_3 : decode b_Bod_weakestPullBut 3 = .ok (.iconst 0, 1) := by decide +kernel
theorem d_Bod_weakestPullBut_4 : decode b_Bod_weakestPullBut 4 = .ok (.istore_n 3, 1) := by decide +kernel
theorem d_Bod_weakestPullBut_5 : decode b_Bod_weakestPullBut 5 = .ok (.iload_n 3, 1) := by decide +kernel
theorem d_Bod_weakestPullBut_6 : decode b_Bod_weakestPullBut 6 = .ok (.aload_n 0, 1) := by decide +kernel
theorem d_Bod_weakestPullBut_7 : decode b_Bod_weakestPullBut 7 = .ok (.getfield 9, 3) := by decide +kernel
theorem d_Bod_weakestPullBut_10 : decode b_Bod_weakestPullBut 10 = .ok (.if_icmp .ge 25, 3) := by decide +kernel
theorem d_Bod_weakestPullBut_13 : decode b_Bod_weakestPullBut 13 = .ok (.iload_n 3, 1) := by decide +kernel
theorem d_Bod_weakestPullBut_14 : decode b_Bod_weakestPullBut 14 = .ok (.iload_n 1, 1) := by decide +kernel
theorem d_Bod_weakestPullBut_15 : decode b_Bod_weakestPullBut 15 = .ok (.if_icmp .eq 14, 3) := by decide +kernel
theorem d_Bod_weakestPullBut_18 : decode b_Bod_weakestPullBut 18 = .ok (.iload_n 2, 1) := by decide +kernel
theorem d_Bod_weakestPullBut_19 : decode b_Bod_weakestPullBut 19 = .ok (.aload_n 0, 1) := by decide +kernel
theorem d_Bod_weakestPullBut_20 : decode b_Bod_weakestPullBut 20 = .ok (.getfield 25, 3) := by decide +kernel
theorem d_Bod_weakestPullBut_23 : decode b_Bod_weakestPullBut 23 = .ok (.iload_n 3, 1) := by decide +kernel
theorem d_Bod_weakestPullBut_24 : decode b_Bod_weakestPullBut 24 = .ok (.iaload, 1) := by decide +kernel
theorem d_Bod_weakestPullBut_25 : decode b_Bod_weakestPullBut 25 = .ok (.invokestatic 48, 3) := by decide +kernel
theorem d_Bod_weakestPullBut_28 : decode b_Bod_weakestPullBut 28 = .ok (.istore_n 2, 1) := by decide +kernel
theorem d_Bod_weakestPullBut_29 : decode b_Bod_weakestPullBut 29 = .ok (.iinc 3 1, 3) := by decide +kernel
theorem d_Bod_weakestPullBut_32 : decode b_Bod_weakestPullBut 32 = .ok (.goto (-27), 3) := by decide +kernel
theorem d_Bod_weakestPullBut_35 : decode b_Bod_weakestPullBut 35 = .ok (.aload_n 0, 1) := by decide +kernel
theorem d_Bod_weakestPullBut_36 : decode b_Bod_weakestPullBut 36 = .ok (.getfield 9, 3) := by decide +kernel
theorem d_Bod_weakestPullBut_39 : decode b_Bod_weakestPullBut 39 = .ok (.iconst 1, 1) := by decide +kernel
theorem d_Bod_weakestPullBut_40 : decode b_Bod_weakestPullBut 40 = .ok (.if_icmp .le 7, 3) := by decide +kernel
theorem d_Bod_weakestPullBut_43 : decode b_Bod_weakestPullBut 43 = .ok (.iload_n 2, 1) := by decide +kernel
theorem d_Bod_weakestPullBut_44 : decode b_Bod_weakestPullBut 44 = .ok (.goto 4, 3) := by decide +kernel
theorem d_Bod_weakestPullBut_47 : decode b_Bod_weakestPullBut 47 = .ok (.iconst 0, 1) := by decide +kernel
theorem d_Bod_weakestPullBut_48 : decode b_Bod_weakestPullBut 48 = .ok (.ireturn, 1) := by decide +kernel
theorem d_Bod_become_0 : decode b_Bod_become 0 = .ok (.aload_n 0, 1) := by decide +kernel
theorem d_Bod_become_1 : decode b_Bod_become 1 = .ok (.aload_n 1, 1) := by decide +kernel
theorem d_Bod_become_2 : decode b_Bod_become 2 = .ok (.getfield 9, 3) := by decide +kernel
theorem d_Bod_become_5 : decode b_Bod_become 5 = .ok (.putfield 9, 3) := by decide +kernel
theorem d_Bod_become_8 : decode b_Bod_become 8 = .ok (.aload_n 1, 1) := by decide +kernel
theorem d_Bod_become_9 : decode b_Bod_become 9 = .ok (.getfield 15, 3) := by decide +kernel
theorem d_Bod_become_12 : decode b_Bod_become 12 = .ok (.iconst 0, 1) := by decide +kernel
theorem d_Bod_become_13 : decode b_Bod_become 13 = .ok (.aload_n 0, 1) := by decide +kernel
theorem d_Bod_become_14 : decode b_Bod_become 14 = .ok (.getfield 15, 3) := by decide +kernel
theorem d_Bod_become_17 : decode b_Bod_become 17 = .ok (.iconst 0, 1) := by decide +kernel
theorem d_Bod_become_18 : decode b_Bod_become 18 = .ok (.bipush 6, 2) := by decide +kernel
theorem d_Bod_become_20 : decode b_Bod_become 20 = .ok (.invokestatic 51, 3) := by decide +kernel
theorem d_Bod_become_23 : decode b_Bod_become 23 = .ok (.aload_n 1, 1) := by decide +kernel
theorem d_Bod_become_24 : decode b_Bod_become 24 = .ok (.getfield 19, 3) := by decide +kernel
theorem d_Bod_become_27 : decode b_Bod_become 27 = .ok (.iconst 0, 1) := by decide +kernel
theorem d_Bod_become_28 : decode b_Bod_become 28 = .ok (.aload_n 0, 1) := by decide +kernel
theorem d_Bod_become_29 : decode b_Bod_become 29 = .ok (.getfield 19, 3) := by decide +kernel
theorem d_Bod_become_32 : decode b_Bod_become 32 = .ok (.iconst 0, 1) := by decide +kernel
theorem d_Bod_become_33 : decode b_Bod_become 33 = .ok (.bipush 6, 2) := by decide +kernel
theorem d_Bod_become_35 : decode b_Bod_become 35 = .ok (.invokestatic 51, 3) := by decide +kernel
theorem d_Bod_become_38 : decode b_Bod_become 38 = .ok (.aload_n 1, 1) := by decide +kernel
theorem d_Bod_become_39 : decode b_Bod_become 39 = .ok (.getfield 22, 3) := by decide +kernel
theorem d_Bod_become_42 : decode b_Bod_become 42 = .ok (.iconst 0, 1) := by decide +kernel
theorem d_Bod_become_43 : decode b_Bod_become 43 = .ok (.aload_n 0, 1) := by decide +kernel
theorem d_Bod_become_44 : decode b_Bod_become 44 = .ok (.getfield 22, 3) := by decide +kernel
theorem d_Bod_become_47 : decode b_Bod_become 47 = .ok (.iconst 0, 1) := by decide +kernel
theorem d_Bod_become_48 : decode b_Bod_become 48 = .ok (.bipush 6, 2) := by decide +kernel
theorem d_Bod_become_50 : decode b_Bod_become 50 = .ok (.invokestatic 51, 3) := by decide +kernel
theorem d_Bod_become_53 : decode b_Bod_become 53 = .ok (.aload_n 1, 1) := by decide +kernel
theorem d_Bod_become_54 : decode b_Bod_become 54 = .ok (.getfield 25, 3) := by decide +kernel
theorem d_Bod_become_57 : decode b_Bod_become 57 = .ok (.iconst 0, 1) := by decide +kernel
theorem d_Bod_become_58 : decode b_Bod_become 58 = .ok (.aload_n 0, 1) := by decide +kernel
theorem d_Bod_become_59 : decode b_Bod_become 59 = .ok (.getfield 25, 3) := by decide +kernel
theorem d_Bod_become_62 : decode b_Bod_become 62 = .ok (.iconst 0, 1) := by decide +kernel
theorem d_Bod_become_63 : decode b_Bod_become 63 = .ok (.bipush 6, 2) := by decide +kernel
theorem d_Bod_become_65 : decode b_Bod_become 65 = .ok (.invokestatic 51, 3) := by decide +kernel
theorem d_Bod_become_68 : decode b_Bod_become 68 = .ok (.aload_n 1, 1) := by decide +kernel
theorem d_Bod_become_69 : decode b_Bod_become 69 = .ok (.getfield 28, 3) := by decide +kernel
theorem d_Bod_become_72 : decode b_Bod_become 72 = .ok (.iconst 0, 1) := by decide +kernel
theorem d_Bod_become_73 : decode b_Bod_become 73 = .ok (.aload_n 0, 1) := by decide +kernel
theorem d_Bod_become_74 : decode b_Bod_become 74 = .ok (.getfield 28, 3) := by decide +kernel
theorem d_Bod_become_77 : decode b_Bod_become 77 = .ok (.iconst 0, 1) := by decide +kernel
theorem d_Bod_become_78 : decode b_Bod_become 78 = .ok (.bipush 6, 2) := by decide +kernel
theorem d_Bod_become_80 : decode b_Bod_become 80 = .ok (.invokestatic 51, 3) := by decide +kernel
theorem d_Bod_become_83 : decode b_Bod_become 83 = .ok (.aload_n 1, 1) := by decide +kernel
theorem d_Bod_become_84 : decode b_Bod_become 84 = .ok (.getfield 31, 3) := by decide +kernel
theorem d_Bod_become_87 : decode b_Bod_become 87 = .ok (.iconst 0, 1) := by decide +kernel
theorem d_Bod_become_88 : decode b_Bod_become 88 = .ok (.aload_n 0, 1) := by decide +kernel
theorem d_Bod_become_89 : decode b_Bod_become 89 = .ok (.getfield 31, 3) := by decide +kernel
theorem d_Bod_become_92 : decode b_Bod_become 92 = .ok (.iconst 0, 1) := by decide +kernel
theorem d_Bod_become_93 : decode b_Bod_become 93 = .ok (.bipush 6, 2) := by decide +kernel
theorem d_Bod_become_95 : decode b_Bod_become 95 = .ok (.invokestatic 51, 3) := by decide +kernel
theorem d_Bod_become_98 : decode b_Bod_become 98 = .ok (.return_, 1) := by decide +kernel
theorem d_Yar_has_0 : decode b_Yar_has 0 = .ok (.iload_n 1, 1) := by decide +kernel
theorem d_Yar_has_1 : decode b_Yar_has 1 = .ok (.iconst 0, 1) := by decide +kernel
theorem d_Yar_has_2 : decode b_Yar_has 2 = .ok (.aload_n 0, 1) := by decide +kernel
theorem d_Yar_has_3 : decode b_Yar_has 3 = .ok (.getfield 9, 3) := by decide +kernel
theorem d_Yar_has_6 : decode b_Yar_has 6 = .ok (.iconst 1, 1) := by decide +kernel
theorem d_Yar_has_7 : decode b_Yar_has 7 = .ok (.isub, 1) := by decide +kernel
theorem d_Yar_has_8 : decode b_Yar_has 8 = .ok (.invokestatic 40, 3) := by decide +kernel
theorem d_Yar_has_11 : decode b_Yar_has 11 = .ok (.ireturn, 1) := by decide +kernel
theorem d_Cav_hasBoth_0 : decode b_Cav_hasBoth 0 = .ok (.aload_n 0, 1) := by decide +kernel
theorem d_Cav_hasBoth_1 : decode b_Cav_hasBoth 1 = .ok (.getfield 21, 3) := by decide +kernel
theorem d_Cav_hasBoth_4 : decode b_Cav_hasBoth 4 = .ok (.iload_n 1, 1) := by decide +kernel
theorem d_Cav_hasBoth_5 : decode b_Cav_hasBoth 5 = .ok (.invokevirtual 38, 3) := by decide +kernel
theorem d_Cav_hasBoth_8 : decode b_Cav_hasBoth 8 = .ok (.ifCond .eq 18, 3) := by decide +kernel
theorem d_Cav_hasBoth_11 : decode b_Cav_hasBoth 11 = .ok (.aload_n 0, 1) := by decide +kernel
theorem d_Cav_hasBoth_12 : decode b_Cav_hasBoth 12 = .ok (.getfield 12, 3) := by decide +kernel
theorem d_Cav_hasBoth_15 : decode b_Cav_hasBoth 15 = .ok (.iload_n 2, 1) := by decide +kernel
theorem d_Cav_hasBoth_16 : decode b_Cav_hasBoth 16 = .ok (.invokevirtual 42, 3) := by decide +kernel
theorem d_Cav_hasBoth_19 : decode b_Cav_hasBoth 19 = .ok (.ifCond .eq 7, 3) := by decide +kernel
theorem d_Cav_hasBoth_22 : decode b_Cav_hasBoth 22 = .ok (.iconst 1, 1) := by decide +kernel
theorem d_Cav_hasBoth_23 : decode b_Cav_hasBoth 23 = .ok (.goto 4, 3) := by decide +kernel
theorem d_Cav_hasBoth_26 : decode b_Cav_hasBoth 26 = .ok (.iconst 0, 1) := by decide +kernel
theorem d_Cav_hasBoth_27 : decode b_Cav_hasBoth 27 = .ok (.ireturn, 1) := by decide +kernel
theorem d_Cav_settingOf_0 : decode b_Cav_settingOf 0 = .ok (.iload_n 1, 1) := by decide +kernel
theorem d_Cav_settingOf_1 : decode b_Cav_settingOf 1 = .ok (.tableswitch 42 0 2 #[27, 32, 37], 27) := by decide +kernel
theorem d_Cav_settingOf_28 : decode b_Cav_settingOf 28 = .ok (.aload_n 0, 1) := by decide +kernel
theorem d_Cav_settingOf_29 : decode b_Cav_settingOf 29 = .ok (.getfield 25, 3) := by decide +kernel
theorem d_Cav_settingOf_32 : decode b_Cav_settingOf 32 = .ok (.ireturn, 1) := by decide +kernel
theorem d_Cav_settingOf_33 : decode b_Cav_settingOf 33 = .ok (.aload_n 0, 1) := by decide +kernel
theorem d_Cav_settingOf_34 : decode b_Cav_settingOf 34 = .ok (.getfield 29, 3) := by decide +kernel
theorem d_Cav_settingOf_37 : decode b_Cav_settingOf 37 = .ok (.ireturn, 1) := by decide +kernel
theorem d_Cav_settingOf_38 : decode b_Cav_settingOf 38 = .ok (.aload_n 0, 1) := by decide +kernel
theorem d_Cav_settingOf_39 : decode b_Cav_settingOf 39 = .ok (.getfield 32, 3) := by decide +kernel
theorem d_Cav_settingOf_42 : decode b_Cav_settingOf 42 = .ok (.ireturn, 1) := by decide +kernel
theorem d_Cav_settingOf_43 : decode b_Cav_settingOf 43 = .ok (.iconst (-1), 1) := by decide +kernel
theorem d_Cav_settingOf_44 : decode b_Cav_settingOf 44 = .ok (.ireturn, 1) := by decide +kernel
theorem d_Cav_adjust_0 : decode b_Cav_adjust 0 = .ok (.iload_n 1, 1) := by decide +kernel
theorem d_Cav_adjust_1 : decode b_Cav_adjust 1 = .ok (.ifCond .ne 20, 3) := by decide +kernel
theorem d_Cav_adjust_4 : decode b_Cav_adjust 4 = .ok (.iload_n 2, 1) := by decide +kernel
theorem d_Cav_adjust_5 : decode b_Cav_adjust 5 = .ok (.iconst 0, 1) := by decide +kernel
theorem d_Cav_adjust_6 : decode b_Cav_adjust 6 = .ok (.bipush 9, 2) := by decide +kernel
theorem d_Cav_adjust_8 : decode b_Cav_adjust 8 = .ok (.invokestatic 43, 3) := by decide +kernel
theorem d_Cav_adjust_11 : decode b_Cav_adjust 11 = .ok (.ifCond .eq 10, 3) := by decide +kernel
theorem d_Cav_adjust_14 : decode b_Cav_adjust 14 = .ok (.aload_n 0, 1) := by decide +kernel
theorem d_Cav_adjust_15 : decode b_Cav_adjust 15 = .ok (.iload_n 2, 1) := by decide +kernel
theorem d_Cav_adjust_16 : decode b_Cav_adjust 16 = .ok (.putfield 25, 3) := by decide +kernel
theorem d_Cav_adjust_19 : decode b_Cav_adjust 19 = .ok (.iconst 1, 1) := by decide +kernel
theorem d_Cav_adjust_20 : decode b_Cav_adjust 20 = .ok (.ireturn, 1) := by decide +kernel
theorem d_Cav_adjust_21 : decode b_Cav_adjust 21 = .ok (.iload_n 1, 1) := by decide +kernel
theorem d_Cav_adjust_22 : decode b_Cav_adjust 22 = .ok (.iconst 1, 1) := by decide +kernel
theorem d_Cav_adjust_23 : decode b_Cav_adjust 23 = .ok (.if_icmp .ne 20, 3) := by decide +kernel
theorem d_Cav_adjust_26 : decode b_Cav_adjust 26 = .ok (.iload_n 2, 1) := by decide +kernel
theorem d_Cav_adjust_27 : decode b_Cav_adjust 27 = .ok (.iconst 1, 1) := by decide +kernel
theorem d_Cav_adjust_28 : decode b_Cav_adjust 28 = .ok (.bipush 60, 2) := by decide +kernel
theorem d_Cav_adjust_30 : decode b_Cav_adjust 30 = .ok (.invokestatic 43, 3) := by decide +kernel
theorem d_Cav_adjust_33 : decode b_Cav_adjust 33 = .ok (.ifCond .eq 10, 3) := by decide +kernel
theorem d_Cav_adjust_36 : decode b_Cav_adjust 36 = .ok (.aload_n 0, 1) := by decide +kernel
theorem d_Cav_adjust_37 : decode b_Cav_adjust 37 = .ok (.iload_n 2, 1) := by decide +kernel
theorem d_Cav_adjust_38 : decode b_Cav_adjust 38 = .ok (.putfield 29, 3) := by decide +kernel
theorem d_Cav_adjust_41 : decode b_Cav_adjust 41 = .ok (.iconst 1, 1) := by decide +kernel
theorem d_Cav_adjust_42 : decode b_Cav_adjust 42 = .ok (.ireturn, 1) := by decide +kernel
theorem d_Cav_adjust_43 : decode b_Cav_adjust 43 = .ok (.iload_n 1, 1) := by decide +kernel
theorem d_Cav_adjust_44 : decode b_Cav_adjust 44 = .ok (.iconst 2, 1) := by decide +kernel
theorem d_Cav_adjust_45 : decode b_Cav_adjust 45 = .ok (.if_icmp .ne 21, 3) := by decide +kernel
theorem d_Cav_adjust_48 : decode b_Cav_adjust 48 = .ok (.iload_n 2, 1) := by decide +kernel
theorem d_Cav_adjust_49 : decode b_Cav_adjust 49 = .ok (.iconst 0, 1) := by decide +kernel
theorem d_Cav_adjust_50 : decode b_Cav_adjust 50 = .ok (.sipush 999, 3) := by decide +kernel
theorem d_Cav_adjust_53 : decode b_Cav_adjust 53 = .ok (.invokestatic 43, 3) := by decide +kernel
theorem d_Cav_adjust_56 : decode b_Cav_adjust 56 = .ok (.ifCond .eq 10, 3) := by decide +kernel
theorem d_Cav_adjust_59 : decode b_Cav_adjust 59 = .ok (.aload_n 0, 1) := by decide +kernel
theorem d_Cav_adjust_60 : decode b_Cav_adjust 60 = .ok (.iload_n 2, 1) := by decide +kernel
theorem d_Cav_adjust_61 : decode b_Cav_adjust 61 = .ok (.putfield 32, 3) := by decide +kernel
theorem d_Cav_adjust_64 : decode b_Cav_adjust 64 = .ok (.iconst 1, 1) := by decide +kernel
theorem d_Cav_adjust_65 : decode b_Cav_adjust 65 = .ok (.ireturn, 1) := by decide +kernel
theorem d_Cav_adjust_66 : decode b_Cav_adjust 66 = .ok (.iconst 0, 1) := by decide +kernel
theorem d_Cav_adjust_67 : decode b_Cav_adjust 67 = .ok (.ireturn, 1) := by decide +kernel
theorem d_Cav_goOn_0 : decode b_Cav_goOn 0 = .ok (.aload_n 0, 1) := by decide +kernel
theorem d_Cav_goOn_1 : decode b_Cav_goOn 1 = .ok (.getfield 35, 3) := by decide +kernel
theorem d_Cav_goOn_4 : decode b_Cav_goOn 4 = .ok (.iload_n 1, 1) := by decide +kernel
theorem d_Cav_goOn_5 : decode b_Cav_goOn 5 = .ok (.iadd, 1) := by decide +kernel
theorem d_Cav_goOn_6 : decode b_Cav_goOn 6 = .ok (.sipush 9999, 3) := by decide +kernel
theorem d_Cav_goOn_9 : decode b_Cav_goOn 9 = .ok (.if_icmp .le 5, 3) := by decide +kernel
theorem d_Cav_goOn_12 : decode b_Cav_goOn 12 = .ok (.iconst 0, 1) := by decide +kernel
theorem d_Cav_goOn_13 : decode b_Cav_goOn 13 = .ok (.ireturn, 1) := by decide +kernel
theorem d_Cav_goOn_14 : decode b_Cav_goOn 14 = .ok (.aload_n 0, 1) := by decide +kernel
theorem d_Cav_goOn_15 : decode b_Cav_goOn 15 = .ok (.dup, 1) := by decide +kernel
theorem d_Cav_goOn_16 : decode b_Cav_goOn 16 = .ok (.getfield 35, 3) := by decide +kernel
theorem d_Cav_goOn_19 : decode b_Cav_goOn 19 = .ok (.iload_n 1, 1) := by decide +kernel
theorem d_Cav_goOn_20 : decode b_Cav_goOn 20 = .ok (.iadd, 1) := by decide +kernel
theorem d_Cav_goOn_21 : decode b_Cav_goOn 21 = .ok (.putfield 35, 3) := by decide +kernel
theorem d_Cav_goOn_24 : decode b_Cav_goOn 24 = .ok (.iconst 1, 1) := by decide +kernel
theorem d_Cav_goOn_25 : decode b_Cav_goOn 25 = .ok (.ireturn, 1) := by decide +kernel
theorem d_Cav_lackingOf_0 : decode b_Cav_lackingOf 0 = .ok (.aload_n 0, 1) := by decide +kernel
theorem d_Cav_lackingOf_1 : decode b_Cav_lackingOf 1 = .ok (.getfield 21, 3) := by decide +kernel
theorem d_Cav_lackingOf_4 : decode b_Cav_lackingOf 4 = .ok (.getfield 47, 3) := by decide +kernel
theorem d_Cav_lackingOf_7 : decode b_Cav_lackingOf 7 = .ok (.iload_n 1, 1) := by decide +kernel
theorem d_Cav_lackingOf_8 : decode b_Cav_lackingOf 8 = .ok (.iaload, 1) := by decide +kernel
theorem d_Cav_lackingOf_9 : decode b_Cav_lackingOf 9 = .ok (.istore_n 3, 1) := by decide +kernel
theorem d_Cav_lackingOf_10 : decode b_Cav_lackingOf 10 = .ok (.aload_n 0, 1) := by decide +kernel
theorem d_Cav_lackingOf_11 : decode b_Cav_lackingOf 11 = .ok (.getfield 21, 3) := by decide +kernel
theorem d_Cav_lackingOf_14 : decode b_Cav_lackingOf 14 = .ok (.iload_n 1, 1) := by decide +kernel
theorem d_Cav_lackingOf_15 : decode b_Cav_lackingOf 15 = .ok (.iload_n 3, 1) := by decide +kernel
theorem d_Cav_lackingOf_16 : decode b_Cav_lackingOf 16 = .ok (.iconst 1, 1) := by decide +kernel
theorem d_Cav_lackingOf_17 : decode b_Cav_lackingOf 17 = .ok (.invokevirtual 51, 3) := by decide +kernel
theorem d_Cav_lackingOf_20 : decode b_Cav_lackingOf 20 = .ok (.aload_n 0, 1) := by decide +kernel
theorem d_Cav_lackingOf_21 : decode b_Cav_lackingOf 21 = .ok (.getfield 12, 3) := by decide +kernel
theorem d_Cav_lackingOf_24 : decode b_Cav_lackingOf 24 = .ok (.iload_n 3, 1) := by decide +kernel
theorem d_Cav_lackingOf_25 : decode b_Cav_lackingOf 25 = .ok (.invokevirtual 55, 3) := by decide +kernel
theorem d_Cav_lackingOf_28 : decode b_Cav_lackingOf 28 = .ok (.iload_n 2, 1) := by decide +kernel
theorem d_Cav_lackingOf_29 : decode b_Cav_lackingOf 29 = .ok (.iaload, 1) := by decide +kernel
theorem d_Cav_lackingOf_30 : decode b_Cav_lackingOf 30 = .ok (.iadd, 1) := by decide +kernel
theorem d_Cav_lackingOf_31 : decode b_Cav_lackingOf 31 = .ok (.istore 4, 2) := by decide +kernel
theorem d_Cav_lackingOf_33 : decode b_Cav_lackingOf 33 = .ok (.iload 4, 2) := by decide +kernel
theorem d_Cav_lackingOf_35 : decode b_Cav_lackingOf 35 = .ok (.aload_n 0, 1) := by decide +kernel
theorem d_Cav_lackingOf_36 : decode b_Cav_lackingOf 36 = .ok (.getfield 12, 3) := by decide +kernel
theorem d_Cav_lackingOf_39 : decode b_Cav_lackingOf 39 = .ok (.iload_n 2, 1) := by decide +kernel
theorem d_Cav_lackingOf_40 : decode b_Cav_lackingOf 40 = .ok (.aload_n 0, 1) := by decide +kernel
theorem d_Cav_lackingOf_41 : decode b_Cav_lackingOf 41 = .ok (.aload_n 0, 1) := by decide +kernel
theorem d_Cav_lackingOf_42 : decode b_Cav_lackingOf 42 = .ok (.getfield 35, 3) := by decide +kernel
theorem d_Cav_lackingOf_45 : decode b_Cav_lackingOf 45 = .ok (.invokevirtual 59, 3) := by decide +kernel
theorem d_Cav_lackingOf_48 : decode b_Cav_lackingOf 48 = .ok (.invokevirtual 63, 3) := by decide +kernel
theorem d_Cav_lackingOf_51 : decode b_Cav_lackingOf 51 = .ok (.isub, 1) := by decide +kernel
theorem d_Cav_lackingOf_52 : decode b_Cav_lackingOf 52 = .ok (.ireturn, 1) := by decide +kernel
theorem d_Cav_fitOf_0 : decode b_Cav_fitOf 0 = .ok (.aload_n 0, 1) := by decide +kernel
theorem d_Cav_fitOf_1 : decode b_Cav_fitOf 1 = .ok (.iload_n 1, 1) := by decide +kernel
theorem d_Cav_fitOf_2 : decode b_Cav_fitOf 2 = .ok (.iload_n 2, 1) := by decide +kernel
theorem d_Cav_fitOf_3 : decode b_Cav_fitOf 3 = .ok (.invokevirtual 67, 3) := by decide +kernel
theorem d_Cav_fitOf_6 : decode b_Cav_fitOf 6 = .ok (.istore_n 3, 1) := by decide +kernel
theorem d_Cav_fitOf_7 : decode b_Cav_fitOf 7 = .ok (.iload_n 3, 1) := by decide +kernel
theorem d_Cav_fitOf_8 : decode b_Cav_fitOf 8 = .ok (.ifCond .le 5, 3) := by decide +kernel
theorem d_Cav_fitOf_11 : decode b_Cav_fitOf 11 = .ok (.iconst 2, 1) := by decide +kernel
theorem d_Cav_fitOf_12 : decode b_Cav_fitOf 12 = .ok (.ireturn, 1) := by decide +kernel
theorem d_Cav_fitOf_13 : decode b_Cav_fitOf 13 = .ok (.iload_n 3, 1) := by decide +kernel
theorem d_Cav_fitOf_14 : decode b_Cav_fitOf 14 = .ok (.aload_n 0, 1) := by decide +kernel
theorem d_Cav_fitOf_15 : decode b_Cav_fitOf 15 = .ok (.getfield 21, 3) := by decide +kernel
theorem d_Cav_fitOf_18 : decode b_Cav_fitOf 18 = .ok (.getfield 70, 3) := by decide +kernel
theorem d_Cav_fitOf_21 : decode b_Cav_fitOf 21 = .ok (.iload_n 1, 1) := by decide +kernel
theorem d_Cav_fitOf_22 : decode b_Cav_fitOf 22 = .ok (.iaload, 1) := by decide +kernel
theorem d_Cav_fitOf_23 : decode b_Cav_fitOf 23 = .ok (.iadd, 1) := by decide +kernel
theorem d_Cav_fitOf_24 : decode b_Cav_fitOf 24 = .ok (.ifCond .le 7, 3) := by decide +kernel
theorem d_Cav_fitOf_27 : decode b_Cav_fitOf 27 = .ok (.iconst 1, 1) := by decide +kernel
theorem d_Cav_fitOf_28 : decode b_Cav_fitOf 28 = .ok (.goto 4, 3) := by decide +kernel
theorem d_Cav_fitOf_31 : decode b_Cav_fitOf 31 = .ok (.iconst 0, 1) := by decide +kernel
theorem d_Cav_fitOf_32 : decode b_Cav_fitOf 32 = .ok (.ireturn, 1) := by decide +kernel
theorem d_Yar_become_0 : decode b_Yar_become 0 = .ok (.aload_n 0, 1) := by decide +kernel
theorem d_Yar_become_1 : decode b_Yar_become 1 = .ok (.aload_n 1, 1) := by decide +kernel
theorem d_Yar_become_2 : decode b_Yar_become 2 = .ok (.getfield 9, 3) := by decide +kernel
theorem d_Yar_become_5 : decode b_Yar_become 5 = .ok (.putfield 9, 3) := by decide +kernel
theorem d_Yar_become_8 : decode b_Yar_become 8 = .ok (.aload_n 1, 1) := by decide +kernel
theorem d_Yar_become_9 : decode b_Yar_become 9 = .ok (.getfield 15, 3) := by decide +kernel
theorem d_Yar_become_12 : decode b_Yar_become 12 = .ok (.iconst 0, 1) := by decide +kernel
theorem d_Yar_become_13 : decode b_Yar_become 13 = .ok (.aload_n 0, 1) := by decide +kernel
theorem d_Yar_become_14 : decode b_Yar_become 14 = .ok (.getfield 15, 3) := by decide +kernel
theorem d_Yar_become_17 : decode b_Yar_become 17 = .ok (.iconst 0, 1) := by decide +kernel
theorem d_Yar_become_18 : decode b_Yar_become 18 = .ok (.bipush 12, 2) := by decide +kernel
theorem d_Yar_become_20 : decode b_Yar_become 20 = .ok (.invokestatic 68, 3) := by decide +kernel
theorem d_Yar_become_23 : decode b_Yar_become 23 = .ok (.aload_n 1, 1) := by decide +kernel
theorem d_Yar_become_24 : decode b_Yar_become 24 = .ok (.getfield 19, 3) := by decide +kernel
theorem d_Yar_become_27 : decode b_Yar_become 27 = .ok (.iconst 0, 1) := by decide +kernel
theorem d_Yar_become_28 : decode b_Yar_become 28 = .ok (.aload_n 0, 1) := by decide +kernel
theorem d_Yar_become_29 : decode b_Yar_become 29 = .ok (.getfield 19, 3) := by decide +kernel
theorem d_Yar_become_32 : decode b_Yar_become 32 = .ok (.iconst 0, 1) := by decide +kernel
theorem d_Yar_become_33 : decode b_Yar_become 33 = .ok (.bipush 12, 2) := by decide +kernel
theorem d_Yar_become_35 : decode b_Yar_become 35 = .ok (.invokestatic 68, 3) := by decide +kernel
theorem d_Yar_become_38 : decode b_Yar_become 38 = .ok (.aload_n 1, 1) := by decide +kernel
theorem d_Yar_become_39 : decode b_Yar_become 39 = .ok (.getfield 22, 3) := by decide +kernel
theorem d_Yar_become_42 : decode b_Yar_become 42 = .ok (.iconst 0, 1) := by decide +kernel
theorem d_Yar_become_43 : decode b_Yar_become 43 = .ok (.aload_n 0, 1) := by decide +kernel
theorem d_Yar_become_44 : decode b_Yar_become 44 = .ok (.getfield 22, 3) := by decide +kernel
theorem d_Yar_become_47 : decode b_Yar_become 47 = .ok (.iconst 0, 1) := by decide +kernel
theorem d_Yar_become_48 : decode b_Yar_become 48 = .ok (.bipush 12, 2) := by decide +kernel
theorem d_Yar_become_50 : decode b_Yar_become 50 = .ok (.invokestatic 68, 3) := by decide +kernel
theorem d_Yar_become_53 : decode b_Yar_become 53 = .ok (.aload_n 1, 1) := by decide +kernel
theorem d_Yar_become_54 : decode b_Yar_become 54 = .ok (.getfield 25, 3) := by decide +kernel
theorem d_Yar_become_57 : decode b_Yar_become 57 = .ok (.iconst 0, 1) := by decide +kernel
theorem d_Yar_become_58 : decode b_Yar_become 58 = .ok (.aload_n 0, 1) := by decide +kernel
theorem d_Yar_become_59 : decode b_Yar_become 59 = .ok (.getfield 25, 3) := by decide +kernel
theorem d_Yar_become_62 : decode b_Yar_become 62 = .ok (.iconst 0, 1) := by decide +kernel
theorem d_Yar_become_63 : decode b_Yar_become 63 = .ok (.bipush 12, 2) := by decide +kernel
theorem d_Yar_become_65 : decode b_Yar_become 65 = .ok (.invokestatic 68, 3) := by decide +kernel
theorem d_Yar_become_68 : decode b_Yar_become 68 = .ok (.aload_n 1, 1) := by decide +kernel
theorem d_Yar_become_69 : decode b_Yar_become 69 = .ok (.getfield 28, 3) := by decide +kernel
theorem d_Yar_become_72 : decode b_Yar_become 72 = .ok (.iconst 0, 1) := by decide +kernel
theorem d_Yar_become_73 : decode b_Yar_become 73 = .ok (.aload_n 0, 1) := by decide +kernel
theorem d_Yar_become_74 : decode b_Yar_become 74 = .ok (.getfield 28, 3) := by decide +kernel
theorem d_Yar_become_77 : decode b_Yar_become 77 = .ok (.iconst 0, 1) := by decide +kernel
theorem d_Yar_become_78 : decode b_Yar_become 78 = .ok (.bipush 12, 2) := by decide +kernel
theorem d_Yar_become_80 : decode b_Yar_become 80 = .ok (.invokestatic 68, 3) := by decide +kernel
theorem d_Yar_become_83 : decode b_Yar_become 83 = .ok (.aload_n 1, 1) := by decide +kernel
theorem d_Yar_become_84 : decode b_Yar_become 84 = .ok (.getfield 31, 3) := by decide +kernel
theorem d_Yar_become_87 : decode b_Yar_become 87 = .ok (.iconst 0, 1) := by decide +kernel
theorem d_Yar_become_88 : decode b_Yar_become 88 = .ok (.aload_n 0, 1) := by decide +kernel
theorem d_Yar_become_89 : decode b_Yar_become 89 = .ok (.getfield 31, 3) := by decide +kernel
theorem d_Yar_become_92 : decode b_Yar_become 92 = .ok (.iconst 0, 1) := by decide +kernel
theorem d_Yar_become_93 : decode b_Yar_become 93 = .ok (.bipush 12, 2) := by decide +kernel
theorem d_Yar_become_95 : decode b_Yar_become 95 = .ok (.invokestatic 68, 3) := by decide +kernel
theorem d_Yar_become_98 : decode b_Yar_become 98 = .ok (.aload_n 1, 1) := by decide +kernel
theorem d_Yar_become_99 : decode b_Yar_become 99 = .ok (.getfield 34, 3) := by decide +kernel
theorem d_Yar_become_102 : decode b_Yar_become 102 = .ok (.iconst 0, 1) := by decide +kernel
theorem d_Yar_become_103 : decode b_Yar_become 103 = .ok (.aload_n 0, 1) := by decide +kernel
theorem d_Yar_become_104 : decode b_Yar_become 104 = .ok (.getfield 34, 3) := by decide +kernel
theorem d_Yar_become_107 : decode b_Yar_become 107 = .ok (.iconst 0, 1) := by decide +kernel
theorem d_Yar_become_108 : decode b_Yar_become 108 = .ok (.bipush 12, 2) := by decide +kernel
theorem d_Yar_become_110 : decode b_Yar_become 110 = .ok (.invokestatic 68, 3) := by decide +kernel
theorem d_Yar_become_113 : decode b_Yar_become 113 = .ok (.aload_n 1, 1) := by decide +kernel
theorem d_Yar_become_114 : decode b_Yar_become 114 = .ok (.getfield 37, 3) := by decide +kernel
theorem d_Yar_become_117 : decode b_Yar_become 117 = .ok (.iconst 0, 1) := by decide +kernel
theorem d_Yar_become_118 : decode b_Yar_become 118 = .ok (.aload_n 0, 1) := by decide +kernel
theorem d_Yar_become_119 : decode b_Yar_become 119 = .ok (.getfield 37, 3) := by decide +kernel
theorem d_Yar_become_122 : decode b_Yar_become 122 = .ok (.iconst 0, 1) := by decide +kernel
theorem d_Yar_become_123 : decode b_Yar_become 123 = .ok (.bipush 12, 2) := by decide +kernel
theorem d_Yar_become_125 : decode b_Yar_become 125 = .ok (.invokestatic 68, 3) := by decide +kernel
theorem d_Yar_become_128 : decode b_Yar_become 128 = .ok (.return_, 1) := by decide +kernel
theorem d_Cav_become_0 : decode b_Cav_become 0 = .ok (.aload_n 0, 1) := by decide +kernel
theorem d_Cav_become_1 : decode b_Cav_become 1 = .ok (.getfield 12, 3) := by decide +kernel
theorem d_Cav_become_4 : decode b_Cav_become 4 = .ok (.aload_n 1, 1) := by decide +kernel
theorem d_Cav_become_5 : decode b_Cav_become 5 = .ok (.getfield 12, 3) := by decide +kernel
theorem d_Cav_become_8 : decode b_Cav_become 8 = .ok (.invokevirtual 73, 3) := by decide +kernel
theorem d_Cav_become_11 : decode b_Cav_become 11 = .ok (.aload_n 0, 1) := by decide +kernel
theorem d_Cav_become_12 : decode b_Cav_become 12 = .ok (.getfield 21, 3) := by decide +kernel
theorem d_Cav_become_15 : decode b_Cav_become 15 = .ok (.aload_n 1, 1) := by decide +kernel
theorem d_Cav_become_16 : decode b_Cav_become 16 = .ok (.getfield 21, 3) := by decide +kernel
theorem d_Cav_become_19 : decode b_Cav_become 19 = .ok (.invokevirtual 77, 3) := by decide +kernel
theorem d_Cav_become_22 : decode b_Cav_become 22 = .ok (.aload_n 0, 1) := by decide +kernel
theorem d_Cav_become_23 : decode b_Cav_become 23 = .ok (.aload_n 1, 1) := by decide +kernel
theorem d_Cav_become_24 : decode b_Cav_become 24 = .ok (.getfield 25, 3) := by decide +kernel
theorem d_Cav_become_27 : decode b_Cav_become 27 = .ok (.putfield 25, 3) := by decide +kernel
theorem d_Cav_become_30 : decode b_Cav_become 30 = .ok (.aload_n 0, 1) := by decide +kernel
theorem d_Cav_become_31 : decode b_Cav_become 31 = .ok (.aload_n 1, 1) := by decide +kernel
theorem d_Cav_become_32 : decode b_Cav_become 32 = .ok (.getfield 29, 3) := by decide +kernel
theorem d_Cav_become_35 : decode b_Cav_become 35 = .ok (.putfield 29, 3) := by decide +kernel
theorem d_Cav_become_38 : decode b_Cav_become 38 = .ok (.aload_n 0, 1) := by decide +kernel
theorem d_Cav_become_39 : decode b_Cav_become 39 = .ok (.aload_n 1, 1) := by decide +kernel
theorem d_Cav_become_40 : decode b_Cav_become 40 = .ok (.getfield 32, 3) := by decide +kernel
theorem d_Cav_become_43 : decode b_Cav_become 43 = .ok (.putfield 32, 3) := by decide +kernel
theorem d_Cav_become_46 : decode b_Cav_become 46 = .ok (.aload_n 0, 1) := by decide +kernel
theorem d_Cav_become_47 : decode b_Cav_become 47 = .ok (.aload_n 1, 1) := by decide +kernel
theorem d_Cav_become_48 : decode b_Cav_become 48 = .ok (.getfield 35, 3) := by decide +kernel
theorem d_Cav_become_51 : decode b_Cav_become 51 = .ok (.putfield 35, 3) := by decide +kernel
theorem d_Cav_become_54 : decode b_Cav_become 54 = .ok (.return_, 1) := by decide +kernel
theorem d_Kin_roomOf_0 : decode b_Kin_roomOf 0 = .ok (.iload_n 0, 1) := by decide +kernel
theorem d_Kin_roomOf_1 : decode b_Kin_roomOf 1 = .ok (.tableswitch 79 1 7 #[43, 47, 47, 79, 79, 57, 70], 43) := by decide +kernel
theorem d_Kin_roomOf_44 : decode b_Kin_roomOf 44 = .ok (.iload_n 2, 1) := by decide +kernel
theorem d_Kin_roomOf_45 : decode b_Kin_roomOf 45 = .ok (.iconst 4, 1) := by decide +kernel
theorem d_Kin_roomOf_46 : decode b_Kin_roomOf 46 = .ok (.iadd, 1) := by decide +kernel
theorem d_Kin_roomOf_47 : decode b_Kin_roomOf 47 = .ok (.ireturn, 1) := by decide +kernel
theorem d_Kin_roomOf_48 : decode b_Kin_roomOf 48 = .ok (.iconst 0, 1) := by decide +kernel
theorem d_Kin_roomOf_49 : decode b_Kin_roomOf 49 = .ok (.iload_n 2, 1) := by decide +kernel
theorem d_Kin_roomOf_50 : decode b_Kin_roomOf 50 = .ok (.iload_n 1, 1) := by decide +kernel
theorem d_Kin_roomOf_51 : decode b_Kin_roomOf 51 = .ok (.iconst 3, 1) := by decide +kernel
theorem d_Kin_roomOf_52 : decode b_Kin_roomOf 52 = .ok (.idiv, 1) := by decide +kernel
theorem d_Kin_roomOf_53 : decode b_Kin_roomOf 53 = .ok (.isub, 1) := by decide +kernel
theorem d_Kin_roomOf_54 : decode b_Kin_roomOf 54 = .ok (.invokestatic 9, 3) := by decide +kernel
theorem d_Kin_roomOf_57 : decode b_Kin_roomOf 57 = .ok (.ireturn, 1) := by decide +kernel
theorem d_Kin_roomOf_58 : decode b_Kin_roomOf 58 = .ok (.iconst 0, 1) := by decide +kernel
theorem d_Kin_roomOf_59 : decode b_Kin_roomOf 59 = .ok (.iconst 2, 1) := by decide +kernel
theorem d_Kin_roomOf_60 : decode b_Kin_roomOf 60 = .ok (.iload_n 1, 1) := by decide +kernel
theorem d_Kin_roomOf_61 : decode b_Kin_roomOf 61 = .ok (.iload_n 2, 1) := by decide +kernel
theorem d_Kin_roomOf_62 : decode b_Kin_roomOf 62 = .ok (.invokestatic 15, 3) := by decide +kernel
theorem d_Kin_roomOf_65 : decode b_Kin_roomOf 65 = .ok (.iconst 1, 1) := by decide +kernel
theorem d_Kin_roomOf_66 : decode b_Kin_roomOf 66 = .ok (.isub, 1) := by decide +kernel
theorem d_Kin_roomOf_67 : decode b_Kin_roomOf 67 = .ok (.invokestatic 9, 3) := by decide +kernel
theorem d_Kin_roomOf_70 : decode b_Kin_roomOf 70 = .ok (.ireturn, 1) := by decide +kernel
theorem d_Kin_roomOf_71 : decode b_Kin_roomOf 71 = .ok (.iconst 2, 1) := by decide +kernel
theorem d_Kin_roomOf_72 : decode b_Kin_roomOf 72 = .ok (.iconst 1, 1) := by decide +kernel
theorem d_Kin_roomOf_73 : decode b_Kin_roomOf 73 = .ok (.iload_n 1, 1) := by decide +kernel
theorem d_Kin_roomOf_74 : decode b_Kin_roomOf 74 = .ok (.iload_n 2, 1) := by decide +kernel
theorem d_Kin_roomOf_75 : decode b_Kin_roomOf 75 = .ok (.invokestatic 15, 3) := by decide +kernel
theorem d_Kin_roomOf_78 : decode b_Kin_roomOf 78 = .ok (.imul, 1) := by decide +kernel
theorem d_Kin_roomOf_79 : decode b_Kin_roomOf 79 = .ok (.ireturn, 1) := by decide +kernel
theorem d_Kin_roomOf_80 : decode b_Kin_roomOf 80 = .ok (.iload_n 2, 1) := by decide +kernel
theorem d_Kin_roomOf_81 : decode b_Kin_roomOf 81 = .ok (.ireturn, 1) := by decide +kernel
theorem d_Kin_moreOf_0 : decode b_Kin_moreOf 0 = .ok (.iload_n 0, 1) := by decide +kernel
theorem d_Kin_moreOf_1 : decode b_Kin_moreOf 1 = .ok (.lookupswitch 47 #[(3, 27), (4, 37)], 27) := by decide +kernel
theorem d_Kin_moreOf_28 : decode b_Kin_moreOf 28 = .ok (.iload_n 1, 1) := by decide +kernel
theorem d_Kin_moreOf_29 : decode b_Kin_moreOf 29 = .ok (.ifCond .eq 7, 3) := by decide +kernel
theorem d_Kin_moreOf_32 : decode b_Kin_moreOf 32 = .ok (.iconst 0, 1) := by decide +kernel
theorem d_Kin_moreOf_33 : decode b_Kin_moreOf 33 = .ok (.goto 4, 3) := by decide +kernel
theorem d_Kin_moreOf_36 : decode b_Kin_moreOf 36 = .ok (.iconst 2, 1) := by decide +kernel
theorem d_Kin_moreOf_37 : decode b_Kin_moreOf 37 = .ok (.ireturn, 1) := by decide +kernel
theorem d_Kin_moreOf_38 : decode b_Kin_moreOf 38 = .ok (.iload_n 1, 1) := by decide +kernel
theorem d_Kin_moreOf_39 : decode b_Kin_moreOf 39 = .ok (.ifCond .eq 7, 3) := by decide +kernel
theorem d_Kin_moreOf_42 : decode b_Kin_moreOf 42 = .ok (.iconst 1, 1) := by decide +kernel
theorem d_Kin_moreOf_43 : decode b_Kin_moreOf 43 = .ok (.goto 4, 3) := by decide +kernel
theorem d_Kin_moreOf_46 : decode b_Kin_moreOf 46 = .ok (.iconst 0, 1) := by decide +kernel
theorem d_Kin_moreOf_47 : decode b_Kin_moreOf 47 = .ok (.ireturn, 1) := by decide +kernel
theorem d_Kin_moreOf_48 : decode b_Kin_moreOf 48 = .ok (.iconst 0, 1) := by decide +kernel
theorem d_Kin_moreOf_49 : decode b_Kin_moreOf 49 = .ok (.ireturn, 1) := by decide +kernel
theorem d_Kin_minutesOf_0 : decode b_Kin_minutesOf 0 = .ok (.iload_n 0, 1) := by decide +kernel
theorem d_Kin_minutesOf_1 : decode b_Kin_minutesOf 1 = .ok (.tableswitch 68 1 7 #[43, 45, 45, 49, 68, 59, 43], 43) := by decide +kernel
theorem d_Kin_minutesOf_44 : decode b_Kin_minutesOf 44 = .ok (.iconst 1, 1) := by decide +kernel
theorem d_Kin_minutesOf_45 : decode b_Kin_minutesOf 45 = .ok (.ireturn, 1) := by decide +kernel
theorem d_Kin_minutesOf_46 : decode b_Kin_minutesOf 46 = .ok (.iconst 2, 1) := by decide +kernel
theorem d_Kin_minutesOf_47 : decode b_Kin_minutesOf 47 = .ok (.iload_n 1, 1) := by decide +kernel
theorem d_Kin_minutesOf_48 : decode b_Kin_minutesOf 48 = .ok (.iadd, 1) := by decide +kernel
theorem d_Kin_minutesOf_49 : decode b_Kin_minutesOf 49 = .ok (.ireturn, 1) := by decide +kernel
theorem d_Kin_minutesOf_50 : decode b_Kin_minutesOf 50 = .ok (.iload_n 2, 1) := by decide +kernel
theorem d_Kin_minutesOf_51 : decode b_Kin_minutesOf 51 = .ok (.ifCond .eq 7, 3) := by decide +kernel
theorem d_Kin_minutesOf_54 : decode b_Kin_minutesOf 54 = .ok (.iconst 5, 1) := by decide +kernel
theorem d_Kin_minutesOf_55 : decode b_Kin_minutesOf 55 = .ok (.goto 4, 3) := by decide +kernel
theorem d_Kin_minutesOf_58 : decode b_Kin_minutesOf 58 = .ok (.iconst 1, 1) := by decide +kernel
theorem d_Kin_minutesOf_59 : decode b_Kin_minutesOf 59 = .ok (.ireturn, 1) := by decide +kernel
theorem d_Kin_minutesOf_60 : decode b_Kin_minutesOf 60 = .ok (.iconst 2, 1) := by decide +kernel
theorem d_Kin_minutesOf_61 : decode b_Kin_minutesOf 61 = .ok (.iload_n 1, 1) := by decide +kernel
theorem d_Kin_minutesOf_62 : decode b_Kin_minutesOf 62 = .ok (.iload_n 2, 1) := by decide +kernel
theorem d_Kin_minutesOf_63 : decode b_Kin_minutesOf 63 = .ok (.invokestatic 21, 3) := by decide +kernel
theorem d_Kin_minutesOf_66 : decode b_Kin_minutesOf 66 = .ok (.iconst 5, 1) := by decide +kernel
theorem d_Kin_minutesOf_67 : decode b_Kin_minutesOf 67 = .ok (.iadd, 1) := by decide +kernel
theorem d_Kin_minutesOf_68 : decode b_Kin_minutesOf 68 = .ok (.ireturn, 1) := by decide +kernel
theorem d_Kin_minutesOf_69 : decode b_Kin_minutesOf 69 = .ok (.iconst 2, 1) := by decide +kernel
theorem d_Kin_minutesOf_70 : decode b_Kin_minutesOf 70 = .ok (.ireturn, 1) := by decide +kernel
theorem d_Kin_costOf_0 : decode b_Kin_costOf 0 = .ok (.iload_n 0, 1) := by decide +kernel
theorem d_Kin_costOf_1 : decode b_Kin_costOf 1 = .ok (.tableswitch 79 1 7 #[43, 45, 49, 57, 60, 62, 71], 43) := by decide +kernel
theorem d_Kin_costOf_44 : decode b_Kin_costOf 44 = .ok (.iconst 1, 1) := by decide +kernel
theorem d_Kin_costOf_45 : decode b_Kin_costOf 45 = .ok (.ireturn, 1) := by decide +kernel
theorem d_Kin_costOf_46 : decode b_Kin_costOf 46 = .ok (.iconst 3, 1) := by decide +kernel
theorem d_Kin_costOf_47 : decode b_Kin_costOf 47 = .ok (.iload_n 1, 1) := by decide +kernel
theorem d_Kin_costOf_48 : decode b_Kin_costOf 48 = .ok (.iadd, 1) := by decide +kernel
theorem d_Kin_costOf_49 : decode b_Kin_costOf 49 = .ok (.ireturn, 1) := by decide +kernel
theorem d_Kin_costOf_50 : decode b_Kin_costOf 50 = .ok (.iconst 2, 1) := by decide +kernel
theorem d_Kin_costOf_51 : decode b_Kin_costOf 51 = .ok (.iconst 2, 1) := by decide +kernel
theorem d_Kin_costOf_52 : decode b_Kin_costOf 52 = .ok (.iload_n 1, 1) := by decide +kernel
theorem d_Kin_costOf_53 : decode b_Kin_costOf 53 = .ok (.invokestatic 25, 3) := by decide +kernel
theorem d_Kin_costOf_56 : decode b_Kin_costOf 56 = .ok (.imul, 1) := by decide +kernel
theorem d_Kin_costOf_57 : decode b_Kin_costOf 57 = .ok (.ireturn, 1) := by decide +kernel
theorem d_Kin_costOf_58 : decode b_Kin_costOf 58 = .ok (.bipush 9, 2) := by decide +kernel
theorem d_Kin_costOf_60 : decode b_Kin_costOf 60 = .ok (.ireturn, 1) := by decide +kernel
theorem d_Kin_costOf_61 : decode b_Kin_costOf 61 = .ok (.iconst 4, 1) := by decide +kernel
theorem d_Kin_costOf_62 : decode b_Kin_costOf 62 = .ok (.ireturn, 1) := by decide +kernel
theorem d_Kin_costOf_63 : decode b_Kin_costOf 63 = .ok (.iconst 2, 1) := by decide +kernel
theorem d_Kin_costOf_64 : decode b_Kin_costOf 64 = .ok (.iload_n 1, 1) := by decide +kernel
theorem d_Kin_costOf_65 : decode b_Kin_costOf 65 = .ok (.invokestatic 25, 3) := by decide +kernel
theorem d_Kin_costOf_68 : decode b_Kin_costOf 68 = .ok (.bipush 9, 2) := by decide +kernel
theorem d_Kin_costOf_70 : decode b_Kin_costOf 70 = .ok (.iadd, 1) := by decide +kernel
theorem d_Kin_costOf_71 : decode b_Kin_costOf 71 = .ok (.ireturn, 1) := by decide +kernel
theorem d_Kin_costOf_72 : decode b_Kin_costOf 72 = .ok (.iconst 1, 1) := by decide +kernel
theorem d_Kin_costOf_73 : decode b_Kin_costOf 73 = .ok (.iload_n 1, 1) := by decide +kernel
theorem d_Kin_costOf_74 : decode b_Kin_costOf 74 = .ok (.invokestatic 25, 3) := by decide +kernel
theorem d_Kin_costOf_77 : decode b_Kin_costOf 77 = .ok (.iload_n 1, 1) := by decide +kernel
theorem d_Kin_costOf_78 : decode b_Kin_costOf 78 = .ok (.iadd, 1) := by decide +kernel
theorem d_Kin_costOf_79 : decode b_Kin_costOf 79 = .ok (.ireturn, 1) := by decide +kernel
theorem d_Kin_costOf_80 : decode b_Kin_costOf 80 = .ok (.iconst 3, 1) := by decide +kernel
theorem d_Kin_costOf_81 : decode b_Kin_costOf 81 = .ok (.ireturn, 1) := by decide +kernel
theorem d_Res_search_0 : decode b_Res_search 0 = .ok (.iload 4, 2) := by decide +kernel
theorem d_Res_search_2 : decode b_Res_search 2 = .ok (.aload_n 0, 1) := by decide +kernel
theorem d_Res_search_3 : decode b_Res_search 3 = .ok (.getfield 19, 3) := by decide +kernel
theorem d_Res_search_6 : decode b_Res_search 6 = .ok (.if_icmp .lt 4, 3) := by decide +kernel
theorem d_Res_search_9 : decode b_Res_search 9 = .ok (.return_, 1) := by decide +kernel
theorem d_Res_search_10 : decode b_Res_search 10 = .ok (.aload_n 0, 1) := by decide +kernel
theorem d_Res_search_11 : decode b_Res_search 11 = .ok (.getfield 32, 3) := by decide +kernel
theorem d_Res_search_14 : decode b_Res_search 14 = .ok (.iload_n 2, 1) := by decide +kernel
theorem d_Res_search_15 : decode b_Res_search 15 = .ok (.iconst 3, 1) := by decide +kernel
theorem d_Res_search_16 : decode b_Res_search 16 = .ok (.idiv, 1) := by decide +kernel
theorem d_Res_search_17 : decode b_Res_search 17 = .ok (.iadd, 1) := by decide +kernel
theorem d_Res_search_18 : decode b_Res_search 18 = .ok (.iload_n 3, 1) := by decide +kernel
theorem d_Res_search_19 : decode b_Res_search 19 = .ok (.if_icmp .gt 35, 3) := by decide +kernel
theorem d_Res_search_22 : decode b_Res_search 22 = .ok (.aload_n 0, 1) := by decide +kernel
theorem d_Res_search_23 : decode b_Res_search 23 = .ok (.iconst 1, 1) := by decide +kernel
theorem d_Res_search_24 : decode b_Res_search 24 = .ok (.putfield 22, 3) := by decide +kernel
theorem d_Res_search_27 : decode b_Res_search 27 = .ok (.aload_n 0, 1) := by decide +kernel
theorem d_Res_search_28 : decode b_Res_search 28 = .ok (.iload 4, 2) := by decide +kernel
theorem d_Res_search_30 : decode b_Res_search 30 = .ok (.putfield 19, 3) := by decide +kernel
theorem d_Res_search_33 : decode b_Res_search 33 = .ok (.aload_n 0, 1) := by decide +kernel
theorem d_Res_search_34 : decode b_Res_search 34 = .ok (.iload_n 1, 1) := by decide +kernel
theorem d_Res_search_35 : decode b_Res_search 35 = .ok (.putfield 15, 3) := by decide +kernel
theorem d_Res_search_38 : decode b_Res_search 38 = .ok (.aload_n 0, 1) := by decide +kernel
theorem d_Res_search_39 : decode b_Res_search 39 = .ok (.getfield 26, 3) := by decide +kernel
theorem d_Res_search_42 : decode b_Res_search 42 = .ok (.iconst 0, 1) := by decide +kernel
theorem d_Res_search_43 : decode b_Res_search 43 = .ok (.aload_n 0, 1) := by decide +kernel
theorem d_Res_search_44 : decode b_Res_search 44 = .ok (.getfield 9, 3) := by decide +kernel
theorem d_Res_search_47 : decode b_Res_search 47 = .ok (.iconst 0, 1) := by decide +kernel
theorem d_Res_search_48 : decode b_Res_search 48 = .ok (.bipush 6, 2) := by decide +kernel
theorem d_Res_search_50 : decode b_Res_search 50 = .ok (.invokestatic 77, 3) := by decide +kernel
theorem d_Res_search_53 : decode b_Res_search 53 = .ok (.return_, 1) := by decide +kernel
theorem d_Res_search_54 : decode b_Res_search 54 = .ok (.iload_n 1, 1) := by decide +kernel
theorem d_Res_search_55 : decode b_Res_search 55 = .ok (.aload_n 0, 1) := by decide +kernel
theorem d_Res_search_56 : decode b_Res_search 56 = .ok (.getfield 29, 3) := by decide +kernel
theorem d_Res_search_59 : decode b_Res_search 59 = .ok (.if_icmp .lt 4, 3) := by decide +kernel
theorem d_Res_search_62 : decode b_Res_search 62 = .ok (.return_, 1) := by decide +kernel
theorem d_Res_search_63 : decode b_Res_search 63 = .ok (.aload_n 0, 1) := by decide +kernel
theorem d_Res_search_64 : decode b_Res_search 64 = .ok (.getfield 26, 3) := by decide +kernel
theorem d_Res_search_67 : decode b_Res_search 67 = .ok (.iload_n 1, 1) := by decide +kernel
theorem d_Res_search_68 : decode b_Res_search 68 = .ok (.iconst 0, 1) := by decide +kernel
theorem d_Res_search_69 : decode b_Res_search 69 = .ok (.iastore, 1) := by decide +kernel
theorem d_Res_search_70 : decode b_Res_search 70 = .ok (.aload_n 0, 1) := by decide +kernel
theorem d_Res_search_71 : decode b_Res_search 71 = .ok (.iload_n 1, 1) := by decide +kernel
theorem d_Res_search_72 : decode b_Res_search 72 = .ok (.iconst 1, 1) := by decide +kernel
theorem d_Res_search_73 : decode b_Res_search 73 = .ok (.iadd, 1) := by decide +kernel
theorem d_Res_search_74 : decode b_Res_search 74 = .ok (.iload_n 2, 1) := by decide +kernel
theorem d_Res_search_75 : decode b_Res_search 75 = .ok (.iload_n 3, 1) := by decide +kernel
theorem d_Res_search_76 : decode b_Res_search 76 = .ok (.aload_n 0, 1) := by decide +kernel
theorem d_Res_search_77 : decode b_Res_search 77 = .ok (.getfield 35, 3) := by decide +kernel
theorem d_Res_search_80 : decode b_Res_search 80 = .ok (.iadd, 1) := by decide +kernel
theorem d_Res_search_81 : decode b_Res_search 81 = .ok (.iload 4, 2) := by decide +kernel
theorem d_Res_search_83 : decode b_Res_search 83 = .ok (.bipush 10, 2) := by decide +kernel
theorem d_Res_search_85 : decode b_Res_search 85 = .ok (.iadd, 1) := by decide +kernel
theorem d_Res_search_86 : decode b_Res_search 86 = .ok (.invokevirtual 73, 3) := by decide +kernel
theorem d_Res_search_89 : decode b_Res_search 89 = .ok (.aload_n 0, 1) := by decide +kernel
theorem d_Res_search_90 : decode b_Res_search 90 = .ok (.getfield 26, 3) := by decide +kernel
theorem d_Res_search_93 : decode b_Res_search 93 = .ok (.iload_n 1, 1) := by decide +kernel
theorem d_Res_search_94 : decode b_Res_search 94 = .ok (.iconst 1, 1) := by decide +kernel
theorem d_Res_search_95 : decode b_Res_search 95 = .ok (.iastore, 1) := by decide +kernel
theorem d_Res_search_96 : decode b_Res_search 96 = .ok (.aload_n 0, 1) := by decide +kernel
theorem d_Res_search_97 : decode b_Res_search 97 = .ok (.iload_n 1, 1) := by decide +kernel
theorem d_Res_search_98 : decode b_Res_search 98 = .ok (.iconst 1, 1) := by decide +kernel
theorem d_Res_search_99 : decode b_Res_search 99 = .ok (.iadd, 1) := by decide +kernel
theorem d_Res_search_100 : decode b_Res_search 100 = .ok (.iload_n 2, 1) := by decide +kernel
theorem d_Res_search_101 : decode b_Res_search 101 = .ok (.iload_n 3, 1) := by decide +kernel
theorem d_Res_search_102 : decode b_Res_search 102 = .ok (.aload_n 0, 1) := by decide +kernel
theorem d_Res_search_103 : decode b_Res_search 103 = .ok (.getfield 38, 3) := by decide +kernel
theorem d_Res_search_106 : decode b_Res_search 106 = .ok (.iadd, 1) := by decide +kernel
theorem d_Res_search_107 : decode b_Res_search 107 = .ok (.iload 4, 2) := by decide +kernel
theorem d_Res_search_109 : decode b_Res_search 109 = .ok (.bipush 10, 2) := by decide +kernel
theorem d_Res_search_111 : decode b_Res_search 111 = .ok (.iadd, 1) := by decide +kernel
theorem d_Res_search_112 : decode b_Res_search 112 = .ok (.invokevirtual 73, 3) := by decide +kernel
theorem d_Res_search_115 : decode b_Res_search 115 = .ok (.aload_n 0, 1) := by decide +kernel
theorem d_Res_search_116 : decode b_Res_search 116 = .ok (.getfield 26, 3) := by decide +kernel
theorem d_Res_search_119 : decode b_Res_search 119 = .ok (.iload_n 1, 1) := by decide +kernel
theorem d_Res_search_120 : decode b_Res_search 120 = .ok (.iconst 2, 1) := by decide +kernel
theorem d_Res_search_121 : decode b_Res_search 121 = .ok (.iastore, 1) := by decide +kernel
theorem d_Res_search_122 : decode b_Res_search 122 = .ok (.aload_n 0, 1) := by decide +kernel
theorem d_Res_search_123 : decode b_Res_search 123 = .ok (.iload_n 1, 1) := by decide +kernel
theorem d_Res_search_124 : decode b_Res_search 124 = .ok (.iconst 1, 1) := by decide +kernel
theorem d_Res_search_125 : decode b_Res_search 125 = .ok (.iadd, 1) := by decide +kernel
theorem d_Res_search_126 : decode b_Res_search 126 = .ok (.iconst 0, 1) := by decide +kernel
theorem d_Res_search_127 : decode b_Res_search 127 = .ok (.iload_n 2, 1) := by decide +kernel
theorem d_Res_search_128 : decode b_Res_search 128 = .ok (.iconst 1, 1) := by decide +kernel
theorem d_Res_search_129 : decode b_Res_search 129 = .ok (.isub, 1) := by decide +kernel
theorem d_Res_search_130 : decode b_Res_search 130 = .ok (.invokestatic 83, 3) := by decide +kernel
theorem d_Res_search_133 : decode b_Res_search 133 = .ok (.iload_n 3, 1) := by decide +kernel
theorem d_Res_search_134 : decode b_Res_search 134 = .ok (.iload 4, 2) := by decide +kernel
theorem d_Res_search_136 : decode b_Res_search 136 = .ok (.aload_n 0, 1) := by decide +kernel
theorem d_Res_search_137 : decode b_Res_search 137 = .ok (.getfield 41, 3) := by decide +kernel
theorem d_Res_search_140 : decode b_Res_search 140 = .ok (.iadd, 1) := by decide +kernel
theorem d_Res_search_141 : decode b_Res_search 141 = .ok (.invokevirtual 73, 3) := by decide +kernel
theorem d_Res_search_144 : decode b_Res_search 144 = .ok (.aload_n 0, 1) := by decide +kernel
theorem d_Res_search_145 : decode b_Res_search 145 = .ok (.getfield 26, 3) := by decide +kernel
theorem d_Res_search_148 : decode b_Res_search 148 = .ok (.iload_n 1, 1) := by decide +kernel
theorem d_Res_search_149 : decode b_Res_search 149 = .ok (.iconst 3, 1) := by decide +kernel
theorem d_Res_search_150 : decode b_Res_search 150 = .ok (.iastore, 1) := by decide +kernel
theorem d_Res_search_151 : decode b_Res_search 151 = .ok (.aload_n 0, 1) := by decide +kernel
theorem d_Res_search_152 : decode b_Res_search 152 = .ok (.iload_n 1, 1) := by decide +kernel
theorem d_Res_search_153 : decode b_Res_search 153 = .ok (.iconst 1, 1) := by decide +kernel
theorem d_Res_search_154 : decode b_Res_search 154 = .ok (.iadd, 1) := by decide +kernel
theorem d_Res_search_155 : decode b_Res_search 155 = .ok (.bipush 9, 2) := by decide +kernel
theorem d_Res_search_157 : decode b_Res_search 157 = .ok (.iload_n 2, 1) := by decide +kernel
theorem d_Res_search_158 : decode b_Res_search 158 = .ok (.iconst 1, 1) := by decide +kernel
theorem d_Res_search_159 : decode b_Res_search 159 = .ok (.iadd, 1) := by decide +kernel
theorem d_Res_search_160 : decode b_Res_search 160 = .ok (.invokestatic 55, 3) := by decide +kernel
theorem d_Res_search_163 : decode b_Res_search 163 = .ok (.iload_n 3, 1) := by decide +kernel
theorem d_Res_search_164 : decode b_Res_search 164 = .ok (.iconst 1, 1) := by decide +kernel
theorem d_Res_search_165 : decode b_Res_search 165 = .ok (.iadd, 1) := by decide +kernel
theorem d_Res_search_166 : decode b_Res_search 166 = .ok (.iload 4, 2) := by decide +kernel
theorem d_Res_search_168 : decode b_Res_search 168 = .ok (.iconst 2, 1) := by decide +kernel
theorem d_Res_search_169 : decode b_Res_search 169 = .ok (.iadd, 1) := by decide +kernel
theorem d_Res_search_170 : decode b_Res_search 170 = .ok (.invokevirtual 73, 3) := by decide +kernel
theorem d_Res_search_173 : decode b_Res_search 173 = .ok (.return_, 1) := by decide +kernel
theorem d_Res_find_0 : decode b_Res_find 0 = .ok (.aload_n 1, 1) := by decide +kernel
theorem d_Res_find_1 : decode b_Res_find 1 = .ok (.getfield 44, 3) := by decide +kernel
theorem d_Res_find_4 : decode b_Res_find 4 = .ok (.getfield 50, 3) := by decide +kernel
theorem d_Res_find_7 : decode b_Res_find 7 = .ok (.iload_n 2, 1) := by decide +kernel
theorem d_Res_find_8 : decode b_Res_find 8 = .ok (.iaload, 1) := by decide +kernel
theorem d_Res_find_9 : decode b_Res_find 9 = .ok (.istore 5, 2) := by decide +kernel
theorem d_Res_find_11 : decode b_Res_find 11 = .ok (.aload_n 0, 1) := by decide +kernel
theorem d_Res_find_12 : decode b_Res_find 12 = .ok (.iload 4, 2) := by decide +kernel
theorem d_Res_find_14 : decode b_Res_find 14 = .ok (.bipush 6, 2) := by decide +kernel
theorem d_Res_find_16 : decode b_Res_find 16 = .ok (.invokestatic 55, 3) := by decide +kernel
theorem d_Res_find_19 : decode b_Res_find 19 = .ok (.putfield 29, 3) := by decide +kernel
theorem d_Res_find_22 : decode b_Res_find 22 = .ok (.aload_n 0, 1) := by decide +kernel
theorem d_Res_find_23 : decode b_Res_find 23 = .ok (.aload_n 1, 1) := by decide +kernel
theorem d_Res_find_24 : decode b_Res_find 24 = .ok (.iload_n 2, 1) := by decide +kernel
theorem d_Res_find_25 : decode b_Res_find 25 = .ok (.iload_n 3, 1) := by decide +kernel
theorem d_Res_find_26 : decode b_Res_find 26 = .ok (.invokevirtual 61, 3) := by decide +kernel
theorem d_Res_find_29 : decode b_Res_find 29 = .ok (.iload 5, 2) := by decide +kernel
theorem d_Res_find_31 : decode b_Res_find 31 = .ok (.iconst 3, 1) := by decide +kernel
theorem d_Res_find_32 : decode b_Res_find 32 = .ok (.idiv, 1) := by decide +kernel
theorem d_Res_find_33 : decode b_Res_find 33 = .ok (.isub, 1) := by decide +kernel
theorem d_Res_find_34 : decode b_Res_find 34 = .ok (.putfield 32, 3) := by decide +kernel
theorem d_Res_find_37 : decode b_Res_find 37 = .ok (.aload_n 0, 1) := by decide +kernel
theorem d_Res_find_38 : decode b_Res_find 38 = .ok (.aload_n 1, 1) := by decide +kernel
theorem d_Res_find_39 : decode b_Res_find 39 = .ok (.getfield 44, 3) := by decide +kernel
theorem d_Res_find_42 : decode b_Res_find 42 = .ok (.iload_n 2, 1) := by decide +kernel
theorem d_Res_find_43 : decode b_Res_find 43 = .ok (.invokevirtual 64, 3) := by decide +kernel
theorem d_Res_find_46 : decode b_Res_find 46 = .ok (.iconst 3, 1) := by decide +kernel
theorem d_Res_find_47 : decode b_Res_find 47 = .ok (.idiv, 1) := by decide +kernel
theorem d_Res_find_48 : decode b_Res_find 48 = .ok (.putfield 35, 3) := by decide +kernel
theorem d_Res_find_51 : decode b_Res_find 51 = .ok (.aload_n 0, 1) := by decide +kernel
theorem d_Res_find_52 : decode b_Res_find 52 = .ok (.aload_n 1, 1) := by decide +kernel
theorem d_Res_find_53 : decode b_Res_find 53 = .ok (.getfield 44, 3) := by decide +kernel
theorem d_Res_find_56 : decode b_Res_find 56 = .ok (.iload_n 2, 1) := by decide +kernel
theorem d_Res_find_57 : decode b_Res_find 57 = .ok (.invokevirtual 68, 3) := by decide +kernel
theorem d_Res_find_60 : decode b_Res_find 60 = .ok (.iconst 3, 1) := by decide +kernel
theorem d_Res_find_61 : decode b_Res_find 61 = .ok (.idiv, 1) := by decide +kernel
theorem d_Res_find_62 : decode b_Res_find 62 = .ok (.putfield 38, 3) := by decide +kernel
theorem d_Res_find_65 : decode b_Res_find 65 = .ok (.aload_n 0, 1) := by decide +kernel
theorem d_Res_find_66 : decode b_Res_find 66 = .ok (.aload_n 1, 1) := by decide +kernel
theorem d_Res_find_67 : decode b_Res_find 67 = .ok (.getfield 71, 3) := by decide +kernel
theorem d_Res_find_70 : decode b_Res_find 70 = .ok (.putfield 41, 3) := by decide +kernel
theorem d_Res_find_73 : decode b_Res_find 73 = .ok (.aload_n 0, 1) := by decide +kernel
theorem d_Res_find_74 : decode b_Res_find 74 = .ok (.iconst 0, 1) := by decide +kernel
theorem d_Res_find_75 : decode b_Res_find 75 = .ok (.putfield 22, 3) := by decide +kernel
theorem d_Res_find_78 : decode b_Res_find 78 = .ok (.aload_n 0, 1) := by decide +kernel
theorem d_Res_find_79 : decode b_Res_find 79 = .ok (.iconst 0, 1) := by decide +kernel
theorem d_Res_find_80 : decode b_Res_find 80 = .ok (.putfield 15, 3) := by decide +kernel
theorem d_Res_find_83 : decode b_Res_find 83 = .ok (.aload_n 0, 1) := by decide +kernel
theorem d_Res_find_84 : decode b_Res_find 84 = .ok (.ldc 72, 2) := by decide +kernel
theorem d_Res_find_86 : decode b_Res_find 86 = .ok (.putfield 19, 3) := by decide +kernel
theorem d_Res_find_89 : decode b_Res_find 89 = .ok (.aload_n 0, 1) := by decide +kernel
theorem d_Res_find_90 : decode b_Res_find 90 = .ok (.iconst 0, 1) := by decide +kernel
theorem d_Res_find_91 : decode b_Res_find 91 = .ok (.iload 5, 2) := by decide +kernel
theorem d_Res_find_93 : decode b_Res_find 93 = .ok (.iconst 0, 1) := by decide +kernel
theorem d_Res_find_94 : decode b_Res_find 94 = .ok (.iconst 0, 1) := by decide +kernel
theorem d_Res_find_95 : decode b_Res_find 95 = .ok (.invokevirtual 73, 3) := by decide +kernel
theorem d_Res_find_98 : decode b_Res_find 98 = .ok (.return_, 1) := by decide +kernel
theorem d_She_holdKind_0 : decode b_She_holdKind 0 = .ok (.aload_n 0, 1) := by decide +kernel
theorem d_She_holdKind_1 : decode b_She_holdKind 1 = .ok (.iconst 1, 1) := by decide +kernel
theorem d_She_holdKind_2 : decode b_She_holdKind 2 = .ok (.putfield 9, 3) := by decide +kernel
theorem d_She_holdKind_5 : decode b_She_holdKind 5 = .ok (.aload_n 0, 1) := by decide +kernel
theorem d_She_holdKind_6 : decode b_She_holdKind 6 = .ok (.iload_n 1, 1) := by decide +kernel
theorem d_She_holdKind_7 : decode b_She_holdKind 7 = .ok (.putfield 15, 3) := by decide +kernel
theorem d_She_holdKind_10 : decode b_She_holdKind 10 = .ok (.aload_n 0, 1) := by decide +kernel
theorem d_She_holdKind_11 : decode b_She_holdKind 11 = .ok (.iload_n 2, 1) := by decide +kernel
theorem d_She_holdKind_12 : decode b_She_holdKind 12 = .ok (.putfield 18, 3) := by decide +kernel
theorem d_She_holdKind_15 : decode b_She_holdKind 15 = .ok (.return_, 1) := by decide +kernel
theorem d_Arr_fill_0 : decode b_Arr_fill 0 = .ok (.iconst 0, 1) := by decide +kernel
theorem d_Arr_fill_1 : decode b_Arr_fill 1 = .ok (.istore_n 2, 1) := by decide +kernel
theorem d_Arr_fill_2 : decode b_Arr_fill 2 = .ok (.aload_n 0, 1) := by decide +kernel
theorem d_Arr_fill_3 : decode b_Arr_fill 3 = .ok (.arraylength, 1) := by decide +kernel
theorem d_Arr_fill_4 : decode b_Arr_fill 4 = .ok (.istore_n 3, 1) := by decide +kernel
theorem d_Arr_fill_5 : decode b_Arr_fill 5 = .ok (.iload_n 2, 1) := by decide +kernel
theorem d_Arr_fill_6 : decode b_Arr_fill 6 = .ok (.iload_n 3, 1) := by decide +kernel
theorem d_Arr_fill_7 : decode b_Arr_fill 7 = .ok (.if_icmp .ge 13, 3) := by decide +kernel
theorem d_Arr_fill_10 : decode b_Arr_fill 10 = .ok (.aload_n 0, 1) := by decide +kernel
theorem d_Arr_fill_11 : decode b_Arr_fill 11 = .ok (.iload_n 2, 1) := by decide +kernel
theorem d_Arr_fill_12 : decode b_Arr_fill 12 = .ok (.iload_n 1, 1) := by decide +kernel
theorem d_Arr_fill_13 : decode b_Arr_fill 13 = .ok (.iastore, 1) := by decide +kernel
theorem d_Arr_fill_14 : decode b_Arr_fill 14 = .ok (.iinc 2 1, 3) := by decide +kernel
theorem d_Arr_fill_17 : decode b_Arr_fill 17 = .ok (.goto (-12), 3) := by decide +kernel
theorem d_Arr_fill_20 : decode b_Arr_fill 20 = .ok (.return_, 1) := by decide +kernel
set_option maxRecDepth 100000 in
theorem cw_Bod_become : CwV y_Bod_become b_Bod_become 2 (none) 1 := ⟨tbl_at 427 (by decide +kernel) rfl, tbl_at 428 (by decide +kernel) rfl, tbl_at 51 (by decide +kernel) rfl, tbl_at 429 rfl rfl, by decide +kernel, by decide +kernel, by decide +kernel⟩
set_option maxRecDepth 100000 in
theorem cw_Bod_strongestPullBut : CwV y_Bod_strongestPullBut b_Bod_strongestPullBut 4 (some FieldType.int) 1 := ⟨tbl_at 715 (by decide +kernel) rfl, tbl_at 716 (by decide +kernel) rfl, tbl_at 51 (by decide +kernel) rfl, tbl_at 717 rfl rfl, by decide +kernel, by decide +kernel, by decide +kernel⟩
set_option maxRecDepth 100000 in
theorem cw_Bod_weakestPullBut : CwV y_Bod_weakestPullBut b_Bod_weakestPullBut 4 (some FieldType.int) 1 := ⟨tbl_at 720 (by decide +kernel) rfl, tbl_at 721 (by decide +kernel) rfl, tbl_at 51 (by decide +kernel) rfl, tbl_at 722 rfl rfl, by decide +kernel, by decide +kernel, by decide +kernel⟩
set_option maxRecDepth 100000 in
theorem cw_Cav_lackingOf : CwV y_Cav_lackingOf b_Cav_lackingOf 5 (some FieldType.int) 2 := ⟨tbl_at 585 (by decide +kernel) rfl, tbl_at 586 (by decide +kernel) rfl, tbl_at 49 (by decide +kernel) rfl, tbl_at 587 rfl rfl, by decide +kernel, by decide +kernel, by decide +kernel⟩
set_option maxRecDepth 100000 in
theorem cw_Kin_costOf : CwS y_Kin_costOf b_Kin_costOf 2 (some FieldType.int) 2 := ⟨tbl_at 862 (by decide +kernel) rfl, tbl_at 60 (by decide +kernel) rfl, tbl_at 863 rfl rfl, by decide +kernel, by decide +kernel, by decide +kernel⟩
set_option maxRecDepth 100000 in
theorem cw_Kin_minutesOf : CwS y_Kin_minutesOf b_Kin_minutesOf 3 (some FieldType.int) 3 := ⟨tbl_at 453 (by decide +kernel) rfl, tbl_at 60 (by decide +kernel) rfl, tbl_at 454 rfl rfl, by decide +kernel, by decide +kernel, by decide +kernel⟩
set_option maxRecDepth 100000 in
theorem cw_Kin_roomOf : CwS y_Kin_roomOf b_Kin_roomOf 3 (some FieldType.int) 3 := ⟨tbl_at 446 (by decide +kernel) rfl, tbl_at 60 (by decide +kernel) rfl, tbl_at 447 rfl rfl, by decide +kernel, by decide +kernel, by decide +kernel⟩
set_option maxRecDepth 100000 in
theorem cw_Res_search : CwV y_Res_search b_Res_search 5 (none) 4 := ⟨tbl_at 727 (by decide +kernel) rfl, tbl_at 10 (by decide +kernel) rfl, tbl_at 55 (by decide +kernel) rfl, tbl_at 728 rfl rfl, by decide +kernel, by decide +kernel, by decide +kernel⟩
set_option maxRecDepth 100000 in
theorem cw_Yar_become : CwV y_Yar_become b_Yar_become 2 (none) 1 := ⟨tbl_at 420 (by decide +kernel) rfl, tbl_at 421 (by decide +kernel) rfl, tbl_at 50 (by decide +kernel) rfl, tbl_at 422 rfl rfl, by decide +kernel, by decide +kernel, by decide +kernel⟩
set_option maxRecDepth 100000 in
theorem cw_Yar_has : CwV y_Yar_has b_Yar_has 2 (some FieldType.boolean) 1 := ⟨tbl_at 495 (by decide +kernel) rfl, tbl_at 496 (by decide +kernel) rfl, tbl_at 50 (by decide +kernel) rfl, tbl_at 497 rfl rfl, by decide +kernel, by decide +kernel, by decide +kernel⟩
theorem fl_Cav_12 : Cond.fieldLink R_Cav 12 "BreatheOut$Cave" "yards" "LBreatheOut$Yards;" ∈ tbl := tbl_at 170 (by decide +kernel) rfl
theorem fl_Cav_21 : Cond.fieldLink R_Cav 21 "BreatheOut$Cave" "bodies" "LBreatheOut$Bodies;" ∈ tbl := tbl_at 174 (by decide +kernel) rfl
theorem fl_Cav_29 : Cond.fieldLink R_Cav 29 "BreatheOut$Cave" "calm" "I" ∈ tbl := tbl_at 182 (by decide +kernel) rfl
theorem fl_Cav_32 : Cond.fieldLink R_Cav 32 "BreatheOut$Cave" "light" "I" ∈ tbl := tbl_at 185 (by decide +kernel) rfl
theorem fl_Cav_35 : Cond.fieldLink R_Cav 35 "BreatheOut$Cave" "clock" "I" ∈ tbl := tbl_at 187 (by decide +kernel) rfl
theorem fl_Cav_47 : Cond.fieldLink R_Cav 47 "BreatheOut$Bodies" "posture" "[I" ∈ tbl := tbl_at 152 (by decide +kernel) rfl
theorem fl_Cav_70 : Cond.fieldLink R_Cav 70 "BreatheOut$Bodies" "out" "[I" ∈ tbl := tbl_at 142 (by decide +kernel) rfl
theorem fl_Res_15 : Cond.fieldLink R_Res 15 "BreatheOut$Rescuers" "bestCount" "I" ∈ tbl := tbl_at 295 (by decide +kernel) rfl
theorem fl_Res_19 : Cond.fieldLink R_Res 19 "BreatheOut$Rescuers" "bestMinutes" "I" ∈ tbl := tbl_at 297 (by decide +kernel) rfl
theorem fl_Res_22 : Cond.fieldLink R_Res 22 "BreatheOut$Rescuers" "found" "Z" ∈ tbl := tbl_at 299 (by decide +kernel) rfl
theorem fl_Res_26 : Cond.fieldLink R_Res 26 "BreatheOut$Rescuers" "deeds" "[I" ∈ tbl := tbl_at 301 (by decide +kernel) rfl
theorem fl_Res_29 : Cond.fieldLink R_Res 29 "BreatheOut$Rescuers" "most" "I" ∈ tbl := tbl_at 302 (by decide +kernel) rfl
theorem fl_Res_32 : Cond.fieldLink R_Res 32 "BreatheOut$Rescuers" "lackingWithoutFear" "I" ∈ tbl := tbl_at 303 (by decide +kernel) rfl
theorem fl_Res_35 : Cond.fieldLink R_Res 35 "BreatheOut$Rescuers" "pulling" "I" ∈ tbl := tbl_at 304 (by decide +kernel) rfl
theorem fl_Res_38 : Cond.fieldLink R_Res 38 "BreatheOut$Rescuers" "pushing" "I" ∈ tbl := tbl_at 305 (by decide +kernel) rfl
theorem fl_Res_41 : Cond.fieldLink R_Res 41 "BreatheOut$Rescuers" "calm" "I" ∈ tbl := tbl_at 306 (by decide +kernel) rfl
theorem fl_Res_44 : Cond.fieldLink R_Res 44 "BreatheOut$Cave" "bodies" "LBreatheOut$Bodies;" ∈ tbl := tbl_at 175 (by decide +kernel) rfl
theorem fl_Res_50 : Cond.fieldLink R_Res 50 "BreatheOut$Bodies" "fear" "[I" ∈ tbl := tbl_at 144 (by decide +kernel) rfl
theorem fl_Res_71 : Cond.fieldLink R_Res 71 "BreatheOut$Cave" "calm" "I" ∈ tbl := tbl_at 183 (by decide +kernel) rfl
theorem fl_Res_9 : Cond.fieldLink R_Res 9 "BreatheOut$Rescuers" "bestDeeds" "[I" ∈ tbl := tbl_at 293 (by decide +kernel) rfl
theorem fl_She_15 : Cond.fieldLink R_She 15 "BreatheOut$Shelf" "kind" "I" ∈ tbl := tbl_at 337 (by decide +kernel) rfl
theorem fl_She_18 : Cond.fieldLink R_She 18 "BreatheOut$Shelf" "figure" "I" ∈ tbl := tbl_at 339 (by decide +kernel) rfl
theorem fl_She_9 : Cond.fieldLink R_She 9 "BreatheOut$Shelf" "holds" "I" ∈ tbl := tbl_at 335 (by decide +kernel) rfl
theorem fl_Yar_19 : Cond.fieldLink R_Yar 19 "BreatheOut$Yards" "figure" "[I" ∈ tbl := tbl_at 95 (by decide +kernel) rfl
theorem fl_Yar_22 : Cond.fieldLink R_Yar 22 "BreatheOut$Yards" "width" "[I" ∈ tbl := tbl_at 97 (by decide +kernel) rfl
theorem fl_Yar_28 : Cond.fieldLink R_Yar 28 "BreatheOut$Yards" "minutesThere" "[I" ∈ tbl := tbl_at 100 (by decide +kernel) rfl
theorem fl_Yar_31 : Cond.fieldLink R_Yar 31 "BreatheOut$Yards" "minutesBack" "[I" ∈ tbl := tbl_at 103 (by decide +kernel) rfl
theorem fl_Yar_9 : Cond.fieldLink R_Yar 9 "BreatheOut$Yards" "count" "I" ∈ tbl := tbl_at 90 (by decide +kernel) rfl
theorem lc_Res_72 : Cond.constant R_Res 72 (2147483647) ∈ tbl := tbl_at 724 (by decide +kernel) rfl
theorem ml_Bod_42 : Cond.methodLink R_Bod 42 Lib.Math.max.name ∈ tbl := tbl_at 718 (by decide +kernel) rfl
theorem ml_Bod_48 : Cond.methodLink R_Bod 48 Lib.Math.min.name ∈ tbl := tbl_at 723 (by decide +kernel) rfl
theorem ml_Bod_51 : Cond.methodLink R_Bod 51 arraycopyName ∈ tbl := tbl_at 430 (by decide +kernel) rfl
theorem ml_Cav_38 : Cond.methodLink R_Cav 38 y_Bod_has ∈ tbl := tbl_at 566 (by decide +kernel) rfl
theorem ml_Cav_42 : Cond.methodLink R_Cav 42 y_Yar_has ∈ tbl := tbl_at 567 (by decide +kernel) rfl
theorem ml_Cav_43 : (R_Cav, 43) ∈ nst := by decide +kernel
theorem ml_Cav_51 : Cond.methodLink R_Cav 51 y_Bod_bulkOf ∈ tbl := tbl_at 588 (by decide +kernel) rfl
theorem ml_Cav_55 : Cond.methodLink R_Cav 55 y_Yar_moreBy ∈ tbl := tbl_at 589 (by decide +kernel) rfl
theorem ml_Cav_59 : Cond.methodLink R_Cav 59 y_Cav_waterAt ∈ tbl := tbl_at 590 (by decide +kernel) rfl
theorem ml_Cav_63 : Cond.methodLink R_Cav 63 y_Yar_roomAt ∈ tbl := tbl_at 591 (by decide +kernel) rfl
theorem ml_Cav_67 : Cond.methodLink R_Cav 67 y_Cav_lackingOf ∈ tbl := tbl_at 584 (by decide +kernel) rfl
theorem ml_Cav_73 : Cond.methodLink R_Cav 73 y_Yar_become ∈ tbl := tbl_at 419 (by decide +kernel) rfl
theorem ml_Cav_77 : Cond.methodLink R_Cav 77 y_Bod_become ∈ tbl := tbl_at 426 (by decide +kernel) rfl
theorem ml_Kin_15 : Cond.methodLink R_Kin 15 y_Kin_roomOf ∈ tbl := tbl_at 451 (by decide +kernel) rfl
theorem ml_Kin_21 : Cond.methodLink R_Kin 21 y_Kin_minutesOf ∈ tbl := tbl_at 455 (by decide +kernel) rfl
theorem ml_Kin_25 : Cond.methodLink R_Kin 25 y_Kin_costOf ∈ tbl := tbl_at 864 (by decide +kernel) rfl
theorem ml_Kin_9 : Cond.methodLink R_Kin 9 Lib.Math.max.name ∈ tbl := tbl_at 448 (by decide +kernel) rfl
theorem ml_Res_55 : Cond.methodLink R_Res 55 Lib.Math.min.name ∈ tbl := tbl_at 710 (by decide +kernel) rfl
theorem ml_Res_61 : Cond.methodLink R_Res 61 y_Cav_lackingOf ∈ tbl := tbl_at 713 (by decide +kernel) rfl
theorem ml_Res_64 : Cond.methodLink R_Res 64 y_Bod_strongestPullBut ∈ tbl := tbl_at 714 (by decide +kernel) rfl
theorem ml_Res_68 : Cond.methodLink R_Res 68 y_Bod_weakestPullBut ∈ tbl := tbl_at 719 (by decide +kernel) rfl
theorem ml_Res_73 : Cond.methodLink R_Res 73 y_Res_search ∈ tbl := tbl_at 725 (by decide +kernel) rfl
theorem ml_Res_77 : Cond.methodLink R_Res 77 arraycopyName ∈ tbl := tbl_at 729 (by decide +kernel) rfl
theorem ml_Res_83 : Cond.methodLink R_Res 83 Lib.Math.max.name ∈ tbl := tbl_at 730 (by decide +kernel) rfl
theorem ml_Yar_40 : (R_Yar, 40) ∈ nst := by decide +kernel
theorem ml_Yar_68 : Cond.methodLink R_Yar 68 arraycopyName ∈ tbl := tbl_at 423 (by decide +kernel) rfl
def vc_Bod_swap (p0 : Nat) (x1 : Int32) (x2 : Int32) (s : St) (Q : Bool → St → Prop) : Prop :=
    vc_Bod_has p0 x1 s (fun b10 => (((bi b10) = 0 → Q false s) ∧ (¬ (bi b10) = 0 → vc_Bod_has p0 x2 s (fun b13 => (((bi b13) = 0 → Q false s) ∧ (¬ (bi b13) = 0 → ((¬ x1 = x2 → (∃ I19 : Nat → Int32 → St → Prop, (∃ n20, I19 n20 0 s) ∧ ∀ (nI19 : Nat) (x17 : Int32) (s18 : St), I19 nI19 x17 s18 → (((s18 p0 0) ≤ x17 → Q true s18) ∧ (¬ (s18 p0 0) ≤ x17 → (vp_in x17 6 ∧ (∃ J24 : St → Prop, (∀ (s23 : St), J24 s23 → (∀ x25 : Int32, x25 = x17 + 1 → ∃ m26, m26 < nI19 ∧ I19 m26 x25 s23)) ∧ ((¬ (s18 (p0 + 6) (Int32.toNatClampNeg x17)) = x1 → (vp_in x17 6 ∧ ((¬ (s18 (p0 + 6) (Int32.toNatClampNeg x17)) = x2 → J24 s18) ∧ ((s18 (p0 + 6) (Int32.toNatClampNeg x17)) = x2 → (vp_in x17 6 ∧ (∀ s31 : St, s31 = wr s18 (p0 + 6) (Int32.toNatClampNeg x17) x1 → J24 s31)))))) ∧ ((s18 (p0 + 6) (Int32.toNatClampNeg x17)) = x1 → (vp_in x17 6 ∧ (∀ s33 : St, s33 = wr s18 (p0 + 6) (Int32.toNatClampNeg x17) x2 → J24 s33)))))))))) ∧ (x1 = x2 → Q false s))))))))
def rm_Bod_swap : Room := { frames := 2, cells := 0, slots := 0, locals := 43 }
set_option maxHeartbeats 4000000 in
set_option maxRecDepth 20000 in
theorem m_Bod_swap (g : Gx) (hg : gOk g) (p0 : Nat) (x1 : Int32) (x2 : Int32) (hk0 : kd p0 = 4) (s : St) (Q : Bool → St → Prop) (hw : vc_Bod_swap p0 x1 x2 s Q) : Mc g y_Bod_swap b_Bod_swap 4 (some FieldType.boolean) rm_Bod_swap [.ref (ga g p0), .int x1, .int x2] s (fun v s' => ∃ r : Bool, v = some (.int (bi r)) ∧ Q r s') := by
  refine mc_ofV (j := 1) (L := [some (.ref (ga g p0)), some (.int x1), some (.int x2), none]) hg (by decide) (Nat.le_of_ble_eq_true rfl) rfl ?_
  intro X hX C
  subst hX
  unfold vc_Bod_swap at hw
  refine x_aload_n C d_Bod_swap_0 rfl ?_
  refine x_iload_n C d_Bod_swap_1 rfl ?_
  refine x_callV (As := [.int x1]) (rest := []) (p := p0) C (m_Bod_has (xg X) C.2.2.2.2.2.2.1 p0 x1 hk0 s _ hw) cw_Bod_has ml_Bod_38 hk0 (by decide) (by decide) rfl rfl rfl ⟨rfl, rfl, Nat.le_of_ble_eq_true rfl, Nat.le_of_ble_eq_true rfl⟩ ⟨Nat.zero_le _, Nat.zero_le _⟩ rfl (Nat.le_of_ble_eq_true rfl) d_Bod_swap_2 ?_
  rintro _ _ ⟨b10, rfl, rfl, hw⟩
  show V X _ _ _ _ 5 [some (.ref (xa X p0)), some (.int x1), some (.int x2), none] [.int (bi b10)]
  refine x_if_eq (tgt := 21) C d_Bod_swap_5 (by decide) (fun c12 => ?_) (fun c12 => ?_)
  · have hw := hw.1 c12
    refine x_iconst (v := 0) C d_Bod_swap_21 rfl ?_
    exact x_zreturn (b := false) C d_Bod_swap_22 ⟨_, rfl, hw⟩
  · have hw := hw.2 c12
    refine x_aload_n C d_Bod_swap_8 rfl ?_
    refine x_iload_n C d_Bod_swap_9 rfl ?_
    refine x_callV (As := [.int x2]) (rest := []) (p := p0) C (m_Bod_has (xg X) C.2.2.2.2.2.2.1 p0 x2 hk0 s _ hw) cw_Bod_has ml_Bod_38 hk0 (by decide) (by decide) rfl rfl rfl ⟨rfl, rfl, Nat.le_of_ble_eq_true rfl, Nat.le_of_ble_eq_true rfl⟩ ⟨Nat.zero_le _, Nat.zero_le _⟩ rfl (Nat.le_of_ble_eq_true rfl) d_Bod_swap_10 ?_
    rintro _ _ ⟨b13, rfl, rfl, hw⟩
    show V X _ _ _ _ 13 [some (.ref (xa X p0)), some (.int x1), some (.int x2), none] [.int (bi b13)]
    refine x_if_eq (tgt := 21) C d_Bod_swap_13 (by decide) (fun c15 => ?_) (fun c15 => ?_)
    · have hw := hw.1 c15
      refine x_iconst (v := 0) C d_Bod_swap_21 rfl ?_
      exact x_zreturn (b := false) C d_Bod_swap_22 ⟨_, rfl, hw⟩
    · have hw := hw.2 c15
      refine x_iload_n C d_Bod_swap_16 rfl ?_
      refine x_iload_n C d_Bod_swap_17 rfl ?_
      refine x_icmp_ne (tgt := 23) C d_Bod_swap_18 (by decide) (fun c16 => ?_) (fun c16 => ?_)
      · have hw := hw.1 c16
        refine x_iconst (v := 0) C d_Bod_swap_23 rfl ?_
        refine x_istore_n (L' := [some (.ref (xa X p0)), some (.int x1), some (.int x2), some (.int 0)]) C d_Bod_swap_24 (Nat.le_of_ble_eq_true rfl) rfl ?_
        obtain ⟨I19, ⟨n20, hn20⟩, hI19⟩ := hw
        have lI19 : ∀ (nI19 : Nat) (x17 : Int32) (s18 : St), I19 nI19 x17 s18 → V X (xQ X (fun v s' => ∃ r : Bool, v = some (.int (bi r)) ∧ Q r s')) 0 0 s18 25 [some (.ref (xa X p0)), some (.int x1), some (.int x2), some (.int x17)] [] := by
          intro nI19
          induction nI19 using Nat.strongRecOn with
          | ind nI19 ihI19 =>
            intro x17 s18 hv
            have hw := hI19 nI19 x17 s18 hv
            refine x_iload_n C d_Bod_swap_25 rfl ?_
            refine x_aload_n C d_Bod_swap_26 rfl ?_
            refine g_Bod_0 (p := p0) C hk0 fl_Bod_9 d_Bod_swap_27 ?_
            refine x_icmp_ge (tgt := 76) C d_Bod_swap_30 (by decide) (fun c21 => ?_) (fun c21 => ?_)
            · have hw := hw.1 c21
              refine x_iconst (v := 1) C d_Bod_swap_76 rfl ?_
              exact x_zreturn (b := true) C d_Bod_swap_77 ⟨_, rfl, hw⟩
            · have hw := hw.2 c21
              refine x_aload_n C d_Bod_swap_33 rfl ?_
              refine g_Bod_6 (p := p0) C hk0 fl_Bod_31 d_Bod_swap_34 ?_
              refine x_iload_n C d_Bod_swap_37 rfl ?_
              obtain ⟨h22, hw⟩ := hw
              refine x_iald (p := (p0 + 6)) (n := 6) C (ks_4_6 hk0) h22 d_Bod_swap_38 ?_
              refine x_iload_n C d_Bod_swap_39 rfl ?_
              obtain ⟨J24, hJ24, hw⟩ := hw
              have kJ24 : ∀ (s23 : St), J24 s23 → V X (xQ X (fun v s' => ∃ r : Bool, v = some (.int (bi r)) ∧ Q r s')) 0 0 s23 70 [some (.ref (xa X p0)), some (.int x1), some (.int x2), some (.int x17)] [] := by
                intro s23 hv
                have hw := hJ24 s23 hv
                obtain ⟨x25, hx25⟩ : ∃ z : Int32, z = x17 + 1 := ⟨_, rfl⟩
                refine x_iinc (v := x25) (L' := [some (.ref (xa X p0)), some (.int x1), some (.int x2), some (.int x25)]) C d_Bod_swap_70 (Nat.le_of_ble_eq_true rfl) rfl (by rw [hx25]; rfl) rfl ?_
                have hw := hw x25 hx25
                refine x_goto (tgt := 25) C d_Bod_swap_73 (by decide) ?_
                obtain ⟨m26, hm26, hw⟩ := hw
                exact x_wk (ihI19 m26 hm26 x25 s23 hw) (And.intro rfl (And.intro rfl (And.intro rfl (And.intro rfl (trivial)))))
              refine x_icmp_ne (tgt := 53) C d_Bod_swap_40 (by decide) (fun c27 => ?_) (fun c27 => ?_)
              · have hw := hw.1 c27
                refine x_aload_n C d_Bod_swap_53 rfl ?_
                refine g_Bod_6 (p := p0) C hk0 fl_Bod_31 d_Bod_swap_54 ?_
                refine x_iload_n C d_Bod_swap_57 rfl ?_
                obtain ⟨h28, hw⟩ := hw
                refine x_iald (p := (p0 + 6)) (n := 6) C (ks_4_6 hk0) h28 d_Bod_swap_58 ?_
                refine x_iload_n C d_Bod_swap_59 rfl ?_
                refine x_icmp_ne (tgt := 70) C d_Bod_swap_60 (by decide) (fun c29 => ?_) (fun c29 => ?_)
                · have hw := hw.1 c29
                  exact x_wk (kJ24 s18 hw) (And.intro rfl (And.intro rfl (And.intro rfl (And.intro rfl (trivial)))))
                · have hw := hw.2 c29
                  refine x_aload_n C d_Bod_swap_63 rfl ?_
                  refine g_Bod_6 (p := p0) C hk0 fl_Bod_31 d_Bod_swap_64 ?_
                  refine x_iload_n C d_Bod_swap_67 rfl ?_
                  refine x_iload_n C d_Bod_swap_68 rfl ?_
                  obtain ⟨h30, hw⟩ := hw
                  refine x_iast (p := (p0 + 6)) (n := 6) C (ks_4_6 hk0) h30 d_Bod_swap_69 ?_
                  refine x_st (fun s31 hs31 => ?_)
                  have hw := hw s31 hs31
                  exact x_wk (kJ24 s31 hw) (And.intro rfl (And.intro rfl (And.intro rfl (And.intro rfl (trivial)))))
              · have hw := hw.2 c27
                refine x_aload_n C d_Bod_swap_43 rfl ?_
                refine g_Bod_6 (p := p0) C hk0 fl_Bod_31 d_Bod_swap_44 ?_
                refine x_iload_n C d_Bod_swap_47 rfl ?_
                refine x_iload_n C d_Bod_swap_48 rfl ?_
                obtain ⟨h32, hw⟩ := hw
                refine x_iast (p := (p0 + 6)) (n := 6) C (ks_4_6 hk0) h32 d_Bod_swap_49 ?_
                refine x_st (fun s33 hs33 => ?_)
                have hw := hw s33 hs33
                refine x_goto (tgt := 70) C d_Bod_swap_50 (by decide) ?_
                exact x_wk (kJ24 s33 hw) (And.intro rfl (And.intro rfl (And.intro rfl (And.intro rfl (trivial)))))
        exact x_wk (lI19 n20 0 s hn20) (And.intro rfl (And.intro rfl (And.intro rfl (And.intro rfl (trivial)))))
      · have hw := hw.2 c16
        refine x_iconst (v := 0) C d_Bod_swap_21 rfl ?_
        exact x_zreturn (b := false) C d_Bod_swap_22 ⟨_, rfl, hw⟩
def vc_Bod_strongestPullBut (p0 : Nat) (x1 : Int32) (s : St) (Q : Int32 → Prop) : Prop :=
    (∃ I12 : Nat → Int32 → Int32 → Prop, (∃ n13, I12 n13 0 0) ∧ ∀ (nI12 : Nat) (x10 : Int32) (x11 : Int32), I12 nI12 x10 x11 → (((s p0 0) ≤ x11 → Q x10) ∧ (¬ (s p0 0) ≤ x11 → (∃ J16 : Int32 → Prop, (∀ (x15 : Int32), J16 x15 → (∀ x17 : Int32, x17 = x11 + 1 → ∃ m18, m18 < nI12 ∧ I12 m18 x15 x17)) ∧ ((x11 = x1 → J16 x10) ∧ (¬ x11 = x1 → (vp_in x11 6 ∧ (∀ x21 : Int32, x21 = imax x10 (s (p0 + 4) (Int32.toNatClampNeg x11)) → J16 x21))))))))
def rm_Bod_strongestPullBut : Room := { frames := 1, cells := 0, slots := 0, locals := 21 }
set_option maxHeartbeats 4000000 in
set_option maxRecDepth 20000 in
theorem m_Bod_strongestPullBut (g : Gx) (hg : gOk g) (p0 : Nat) (x1 : Int32) (hk0 : kd p0 = 4) (s : St) (Q : Int32 → Prop) (hw : vc_Bod_strongestPullBut p0 x1 s Q) : Mc g y_Bod_strongestPullBut b_Bod_strongestPullBut 4 (some FieldType.int) rm_Bod_strongestPullBut [.ref (ga g p0), .int x1] s (fun v s' => ∃ r : Int32, v = some (.int r) ∧ s = s' ∧ Q r) := by
  refine mc_ofV (j := 2) (L := [some (.ref (ga g p0)), some (.int x1), none, none]) hg (by decide) (Nat.le_of_ble_eq_true rfl) rfl ?_
  intro X hX C
  subst hX
  unfold vc_Bod_strongestPullBut at hw
  refine x_iconst (v := 0) C d_Bod_strongestPullBut_0 rfl ?_
  refine x_istore_n (L' := [some (.ref (xa X p0)), some (.int x1), some (.int 0), none]) C d_Bod_strongestPullBut_1 (Nat.le_of_ble_eq_true rfl) rfl ?_
  refine x_iconst (v := 0) C d_Bod_strongestPullBut_2 rfl ?_
  refine x_istore_n (L' := [some (.ref (xa X p0)), some (.int x1), some (.int 0), some (.int 0)]) C d_Bod_strongestPullBut_3 (Nat.le_of_ble_eq_true rfl) rfl ?_
  obtain ⟨I12, ⟨n13, hn13⟩, hI12⟩ := hw
  have lI12 : ∀ (nI12 : Nat) (x10 : Int32) (x11 : Int32), I12 nI12 x10 x11 → V X (xQ X (fun v s' => ∃ r : Int32, v = some (.int r) ∧ s = s' ∧ Q r)) 0 0 s 4 [some (.ref (xa X p0)), some (.int x1), some (.int x10), some (.int x11)] [] := by
    intro nI12
    induction nI12 using Nat.strongRecOn with
    | ind nI12 ihI12 =>
      intro x10 x11 hv
      have hw := hI12 nI12 x10 x11 hv
      refine x_iload_n C d_Bod_strongestPullBut_4 rfl ?_
      refine x_aload_n C d_Bod_strongestPullBut_5 rfl ?_
      refine g_Bod_0 (p := p0) C hk0 fl_Bod_9 d_Bod_strongestPullBut_6 ?_
      refine x_icmp_ge (tgt := 34) C d_Bod_strongestPullBut_9 (by decide) (fun c14 => ?_) (fun c14 => ?_)
      · have hw := hw.1 c14
        refine x_iload_n C d_Bod_strongestPullBut_34 rfl ?_
        exact x_ireturn C d_Bod_strongestPullBut_35 ⟨_, rfl, rfl, hw⟩
      · have hw := hw.2 c14
        refine x_iload_n C d_Bod_strongestPullBut_12 rfl ?_
        refine x_iload_n C d_Bod_strongestPullBut_13 rfl ?_
        obtain ⟨J16, hJ16, hw⟩ := hw
        have kJ16 : ∀ (x15 : Int32), J16 x15 → V X (xQ X (fun v s' => ∃ r : Int32, v = some (.int r) ∧ s = s' ∧ Q r)) 0 0 s 28 [some (.ref (xa X p0)), some (.int x1), some (.int x15), some (.int x11)] [] := by
          intro x15 hv
          have hw := hJ16 x15 hv
          obtain ⟨x17, hx17⟩ : ∃ z : Int32, z = x11 + 1 := ⟨_, rfl⟩
          refine x_iinc (v := x17) (L' := [some (.ref (xa X p0)), some (.int x1), some (.int x15), some (.int x17)]) C d_Bod_strongestPullBut_28 (Nat.le_of_ble_eq_true rfl) rfl (by rw [hx17]; rfl) rfl ?_
          have hw := hw x17 hx17
          refine x_goto (tgt := 4) C d_Bod_strongestPullBut_31 (by decide) ?_
          obtain ⟨m18, hm18, hw⟩ := hw
          exact x_wk (ihI12 m18 hm18 x15 x17 hw) (And.intro rfl (And.intro rfl (And.intro rfl (And.intro rfl (trivial)))))
        refine x_icmp_eq (tgt := 28) C d_Bod_strongestPullBut_14 (by decide) (fun c19 => ?_) (fun c19 => ?_)
        · have hw := hw.1 c19
          exact x_wk (kJ16 x10 hw) (And.intro rfl (And.intro rfl (And.intro rfl (And.intro rfl (trivial)))))
        · have hw := hw.2 c19
          refine x_iload_n C d_Bod_strongestPullBut_17 rfl ?_
          refine x_aload_n C d_Bod_strongestPullBut_18 rfl ?_
          refine g_Bod_4 (p := p0) C hk0 fl_Bod_25 d_Bod_strongestPullBut_19 ?_
          refine x_iload_n C d_Bod_strongestPullBut_22 rfl ?_
          obtain ⟨h20, hw⟩ := hw
          refine x_iald (p := (p0 + 4)) (n := 6) C (ks_4_4 hk0) h20 d_Bod_strongestPullBut_23 ?_
          refine x_mmax C ml_Bod_42 (Nat.le_of_ble_eq_true rfl) (Nat.le_of_ble_eq_true rfl) ⟨Nat.zero_le _, Nat.zero_le _⟩ d_Bod_strongestPullBut_24 ?_
          refine x_nm (fun x21 hx21 => ?_)
          have hw := hw x21 hx21
          refine x_istore_n (L' := [some (.ref (xa X p0)), some (.int x1), some (.int x21), some (.int x11)]) C d_Bod_strongestPullBut_27 (Nat.le_of_ble_eq_true rfl) rfl ?_
          exact x_wk (kJ16 x21 hw) (And.intro rfl (And.intro rfl (And.intro rfl (And.intro rfl (trivial)))))
  exact x_wk (lI12 n13 0 0 hn13) (And.intro rfl (And.intro rfl (And.intro rfl (And.intro rfl (trivial)))))
def vc_Bod_weakestPullBut (p0 : Nat) (x1 : Int32) (s : St) (Q : Int32 → Prop) : Prop :=
    (∃ I12 : Nat → Int32 → Int32 → Prop, (∃ n13, I12 n13 9 0) ∧ ∀ (nI12 : Nat) (x10 : Int32) (x11 : Int32), I12 nI12 x10 x11 → (((s p0 0) ≤ x11 → (((s p0 0) ≤ 1 → Q 0) ∧ (¬ (s p0 0) ≤ 1 → Q x10))) ∧ (¬ (s p0 0) ≤ x11 → (∃ J17 : Int32 → Prop, (∀ (x16 : Int32), J17 x16 → (∀ x18 : Int32, x18 = x11 + 1 → ∃ m19, m19 < nI12 ∧ I12 m19 x16 x18)) ∧ ((x11 = x1 → J17 x10) ∧ (¬ x11 = x1 → (vp_in x11 6 ∧ (∀ x22 : Int32, x22 = imin x10 (s (p0 + 4) (Int32.toNatClampNeg x11)) → J17 x22))))))))
def rm_Bod_weakestPullBut : Room := { frames := 1, cells := 0, slots := 0, locals := 21 }
set_option maxHeartbeats 4000000 in
set_option maxRecDepth 20000 in
theorem m_Bod_weakestPullBut (g : Gx) (hg : gOk g) (p0 : Nat) (x1 : Int32) (hk0 : kd p0 = 4) (s : St) (Q : Int32 → Prop) (hw : vc_Bod_weakestPullBut p0 x1 s Q) : Mc g y_Bod_weakestPullBut b_Bod_weakestPullBut 4 (some FieldType.int) rm_Bod_weakestPullBut [.ref (ga g p0), .int x1] s (fun v s' => ∃ r : Int32, v = some (.int r) ∧ s = s' ∧ Q r) := by
  refine mc_ofV (j := 2) (L := [some (.ref (ga g p0)), some (.int x1), none, none]) hg (by decide) (Nat.le_of_ble_eq_true rfl) rfl ?_
  intro X hX C
  subst hX
  unfold vc_Bod_weakestPullBut at hw
  refine x_bipush (v := 9) C d_Bod_weakestPullBut_0 rfl ?_
  refine x_istore_n (L' := [some (.ref (xa X p0)), some (.int x1), some (.int 9), none]) C d_Bod_weakestPullBut_2 (Nat.le_of_ble_eq_true rfl) rfl ?_
  refine x_iconst (v := 0) C d_Bod_weakestPullBut_3 rfl ?_
  refine x_istore_n (L' := [some (.ref (xa X p0)), some (.int x1), some (.int 9), some (.int 0)]) C d_Bod_weakestPullBut_4 (Nat.le_of_ble_eq_true rfl) rfl ?_
  obtain ⟨I12, ⟨n13, hn13⟩, hI12⟩ := hw
  have lI12 : ∀ (nI12 : Nat) (x10 : Int32) (x11 : Int32), I12 nI12 x10 x11 → V X (xQ X (fun v s' => ∃ r : Int32, v = some (.int r) ∧ s = s' ∧ Q r)) 0 0 s 5 [some (.ref (xa X p0)), some (.int x1), some (.int x10), some (.int x11)] [] := by
    intro nI12
    induction nI12 using Nat.strongRecOn with
    | ind nI12 ihI12 =>
      intro x10 x11 hv
      have hw := hI12 nI12 x10 x11 hv
      refine x_iload_n C d_Bod_weakestPullBut_5 rfl ?_
      refine x_aload_n C d_Bod_weakestPullBut_6 rfl ?_
      refine g_Bod_0 (p := p0) C hk0 fl_Bod_9 d_Bod_weakestPullBut_7 ?_
      refine x_icmp_ge (tgt := 35) C d_Bod_weakestPullBut_10 (by decide) (fun c14 => ?_) (fun c14 => ?_)
      · have hw := hw.1 c14
        refine x_aload_n C d_Bod_weakestPullBut_35 rfl ?_
        refine g_Bod_0 (p := p0) C hk0 fl_Bod_9 d_Bod_weakestPullBut_36 ?_
        refine x_iconst (v := 1) C d_Bod_weakestPullBut_39 rfl ?_
        refine x_icmp_le (tgt := 47) C d_Bod_weakestPullBut_40 (by decide) (fun c15 => ?_) (fun c15 => ?_)
        · have hw := hw.1 c15
          refine x_iconst (v := 0) C d_Bod_weakestPullBut_47 rfl ?_
          exact x_ireturn C d_Bod_weakestPullBut_48 ⟨_, rfl, rfl, hw⟩
        · have hw := hw.2 c15
          refine x_iload_n C d_Bod_weakestPullBut_43 rfl ?_
          refine x_goto (tgt := 48) C d_Bod_weakestPullBut_44 (by decide) ?_
          exact x_ireturn C d_Bod_weakestPullBut_48 ⟨_, rfl, rfl, hw⟩
      · have hw := hw.2 c14
        refine x_iload_n C d_Bod_weakestPullBut_13 rfl ?_
        refine x_iload_n C d_Bod_weakestPullBut_14 rfl ?_
        obtain ⟨J17, hJ17, hw⟩ := hw
        have kJ17 : ∀ (x16 : Int32), J17 x16 → V X (xQ X (fun v s' => ∃ r : Int32, v = some (.int r) ∧ s = s' ∧ Q r)) 0 0 s 29 [some (.ref (xa X p0)), some (.int x1), some (.int x16), some (.int x11)] [] := by
          intro x16 hv
          have hw := hJ17 x16 hv
          obtain ⟨x18, hx18⟩ : ∃ z : Int32, z = x11 + 1 := ⟨_, rfl⟩
          refine x_iinc (v := x18) (L' := [some (.ref (xa X p0)), some (.int x1), some (.int x16), some (.int x18)]) C d_Bod_weakestPullBut_29 (Nat.le_of_ble_eq_true rfl) rfl (by rw [hx18]; rfl) rfl ?_
          have hw := hw x18 hx18
          refine x_goto (tgt := 5) C d_Bod_weakestPullBut_32 (by decide) ?_
          obtain ⟨m19, hm19, hw⟩ := hw
          exact x_wk (ihI12 m19 hm19 x16 x18 hw) (And.intro rfl (And.intro rfl (And.intro rfl (And.intro rfl (trivial)))))
        refine x_icmp_eq (tgt := 29) C d_Bod_weakestPullBut_15 (by decide) (fun c20 => ?_) (fun c20 => ?_)
        · have hw := hw.1 c20
          exact x_wk (kJ17 x10 hw) (And.intro rfl (And.intro rfl (And.intro rfl (And.intro rfl (trivial)))))
        · have hw := hw.2 c20
          refine x_iload_n C d_Bod_weakestPullBut_18 rfl ?_
          refine x_aload_n C d_Bod_weakestPullBut_19 rfl ?_
          refine g_Bod_4 (p := p0) C hk0 fl_Bod_25 d_Bod_weakestPullBut_20 ?_
          refine x_iload_n C d_Bod_weakestPullBut_23 rfl ?_
          obtain ⟨h21, hw⟩ := hw
          refine x_iald (p := (p0 + 4)) (n := 6) C (ks_4_4 hk0) h21 d_Bod_weakestPullBut_24 ?_
          refine x_mmin C ml_Bod_48 (Nat.le_of_ble_eq_true rfl) (Nat.le_of_ble_eq_true rfl) ⟨Nat.zero_le _, Nat.zero_le _⟩ d_Bod_weakestPullBut_25 ?_
          refine x_nm (fun x22 hx22 => ?_)
          have hw := hw x22 hx22
          refine x_istore_n (L' := [some (.ref (xa X p0)), some (.int x1), some (.int x22), some (.int x11)]) C d_Bod_weakestPullBut_28 (Nat.le_of_ble_eq_true rfl) rfl ?_
          exact x_wk (kJ17 x22 hw) (And.intro rfl (And.intro rfl (And.intro rfl (And.intro rfl (trivial)))))
  exact x_wk (lI12 n13 9 0 hn13) (And.intro rfl (And.intro rfl (And.intro rfl (And.intro rfl (trivial)))))
def vc_Bod_become (p0 : Nat) (p1 : Nat) (s : St) (Q : St → Prop) : Prop :=
    (∀ s10 : St, s10 = wr s p0 0 (s p1 0) → (cpok 0 0 6 6 6 ∧ (∀ s12 : St, s12 = wcp s10 (p1 + 1) (p0 + 1) (Int32.toNatClampNeg 0) (Int32.toNatClampNeg 0) (Int32.toNatClampNeg 6) → (cpok 0 0 6 6 6 ∧ (∀ s14 : St, s14 = wcp s12 (p1 + 2) (p0 + 2) (Int32.toNatClampNeg 0) (Int32.toNatClampNeg 0) (Int32.toNatClampNeg 6) → (cpok 0 0 6 6 6 ∧ (∀ s16 : St, s16 = wcp s14 (p1 + 3) (p0 + 3) (Int32.toNatClampNeg 0) (Int32.toNatClampNeg 0) (Int32.toNatClampNeg 6) → (cpok 0 0 6 6 6 ∧ (∀ s18 : St, s18 = wcp s16 (p1 + 4) (p0 + 4) (Int32.toNatClampNeg 0) (Int32.toNatClampNeg 0) (Int32.toNatClampNeg 6) → (cpok 0 0 6 6 6 ∧ (∀ s20 : St, s20 = wcp s18 (p1 + 5) (p0 + 5) (Int32.toNatClampNeg 0) (Int32.toNatClampNeg 0) (Int32.toNatClampNeg 6) → (cpok 0 0 6 6 6 ∧ (∀ s22 : St, s22 = wcp s20 (p1 + 6) (p0 + 6) (Int32.toNatClampNeg 0) (Int32.toNatClampNeg 0) (Int32.toNatClampNeg 6) → Q s22)))))))))))))
def rm_Bod_become : Room := { frames := 1, cells := 0, slots := 0, locals := 26 }
set_option maxHeartbeats 4000000 in
set_option maxRecDepth 20000 in
theorem m_Bod_become (g : Gx) (hg : gOk g) (p0 : Nat) (p1 : Nat) (hk0 : kd p0 = 4) (hk1 : kd p1 = 4) (s : St) (Q : St → Prop) (hw : vc_Bod_become p0 p1 s Q) : Mc g y_Bod_become b_Bod_become 2 (none) rm_Bod_become [.ref (ga g p0), .ref (ga g p1)] s (fun v s' => v = none ∧ Q s') := by
  refine mc_ofV (j := 0) (L := [some (.ref (ga g p0)), some (.ref (ga g p1))]) hg (by decide) (Nat.le_of_ble_eq_true rfl) rfl ?_
  intro X hX C
  subst hX
  unfold vc_Bod_become at hw
  refine x_aload_n C d_Bod_become_0 rfl ?_
  refine x_aload_n C d_Bod_become_1 rfl ?_
  refine g_Bod_0 (p := p1) C hk1 fl_Bod_9 d_Bod_become_2 ?_
  refine p_Bod_0 (p := p0) C hk0 fl_Bod_9 d_Bod_become_5 ?_
  refine x_st (fun s10 hs10 => ?_)
  have hw := hw s10 hs10
  refine x_aload_n C d_Bod_become_8 rfl ?_
  refine g_Bod_1 (p := p1) C hk1 fl_Bod_15 d_Bod_become_9 ?_
  refine x_iconst (v := 0) C d_Bod_become_12 rfl ?_
  refine x_aload_n C d_Bod_become_13 rfl ?_
  refine g_Bod_1 (p := p0) C hk0 fl_Bod_15 d_Bod_become_14 ?_
  refine x_iconst (v := 0) C d_Bod_become_17 rfl ?_
  refine x_bipush (v := 6) C d_Bod_become_18 rfl ?_
  obtain ⟨h11, hw⟩ := hw
  refine x_copy (d := (p1 + 1)) (e := (p0 + 1)) (n0 := 6) (n1 := 6) C (ks_4_1 hk1) (ks_4_1 hk0) h11 ml_Bod_51 (Nat.le_of_ble_eq_true rfl) (Nat.le_of_ble_eq_true rfl) d_Bod_become_20 ?_
  refine x_st (fun s12 hs12 => ?_)
  have hw := hw s12 hs12
  refine x_aload_n C d_Bod_become_23 rfl ?_
  refine g_Bod_2 (p := p1) C hk1 fl_Bod_19 d_Bod_become_24 ?_
  refine x_iconst (v := 0) C d_Bod_become_27 rfl ?_
  refine x_aload_n C d_Bod_become_28 rfl ?_
  refine g_Bod_2 (p := p0) C hk0 fl_Bod_19 d_Bod_become_29 ?_
  refine x_iconst (v := 0) C d_Bod_become_32 rfl ?_
  refine x_bipush (v := 6) C d_Bod_become_33 rfl ?_
  obtain ⟨h13, hw⟩ := hw
  refine x_copy (d := (p1 + 2)) (e := (p0 + 2)) (n0 := 6) (n1 := 6) C (ks_4_2 hk1) (ks_4_2 hk0) h13 ml_Bod_51 (Nat.le_of_ble_eq_true rfl) (Nat.le_of_ble_eq_true rfl) d_Bod_become_35 ?_
  refine x_st (fun s14 hs14 => ?_)
  have hw := hw s14 hs14
  refine x_aload_n C d_Bod_become_38 rfl ?_
  refine g_Bod_3 (p := p1) C hk1 fl_Bod_22 d_Bod_become_39 ?_
  refine x_iconst (v := 0) C d_Bod_become_42 rfl ?_
  refine x_aload_n C d_Bod_become_43 rfl ?_
  refine g_Bod_3 (p := p0) C hk0 fl_Bod_22 d_Bod_become_44 ?_
  refine x_iconst (v := 0) C d_Bod_become_47 rfl ?_
  refine x_bipush (v := 6) C d_Bod_become_48 rfl ?_
  obtain ⟨h15, hw⟩ := hw
  refine x_copy (d := (p1 + 3)) (e := (p0 + 3)) (n0 := 6) (n1 := 6) C (ks_4_3 hk1) (ks_4_3 hk0) h15 ml_Bod_51 (Nat.le_of_ble_eq_true rfl) (Nat.le_of_ble_eq_true rfl) d_Bod_become_50 ?_
  refine x_st (fun s16 hs16 => ?_)
  have hw := hw s16 hs16
  refine x_aload_n C d_Bod_become_53 rfl ?_
  refine g_Bod_4 (p := p1) C hk1 fl_Bod_25 d_Bod_become_54 ?_
  refine x_iconst (v := 0) C d_Bod_become_57 rfl ?_
  refine x_aload_n C d_Bod_become_58 rfl ?_
  refine g_Bod_4 (p := p0) C hk0 fl_Bod_25 d_Bod_become_59 ?_
  refine x_iconst (v := 0) C d_Bod_become_62 rfl ?_
  refine x_bipush (v := 6) C d_Bod_become_63 rfl ?_
  obtain ⟨h17, hw⟩ := hw
  refine x_copy (d := (p1 + 4)) (e := (p0 + 4)) (n0 := 6) (n1 := 6) C (ks_4_4 hk1) (ks_4_4 hk0) h17 ml_Bod_51 (Nat.le_of_ble_eq_true rfl) (Nat.le_of_ble_eq_true rfl) d_Bod_become_65 ?_
  refine x_st (fun s18 hs18 => ?_)
  have hw := hw s18 hs18
  refine x_aload_n C d_Bod_become_68 rfl ?_
  refine g_Bod_5 (p := p1) C hk1 fl_Bod_28 d_Bod_become_69 ?_
  refine x_iconst (v := 0) C d_Bod_become_72 rfl ?_
  refine x_aload_n C d_Bod_become_73 rfl ?_
  refine g_Bod_5 (p := p0) C hk0 fl_Bod_28 d_Bod_become_74 ?_
  refine x_iconst (v := 0) C d_Bod_become_77 rfl ?_
  refine x_bipush (v := 6) C d_Bod_become_78 rfl ?_
  obtain ⟨h19, hw⟩ := hw
  refine x_copy (d := (p1 + 5)) (e := (p0 + 5)) (n0 := 6) (n1 := 6) C (ks_4_5 hk1) (ks_4_5 hk0) h19 ml_Bod_51 (Nat.le_of_ble_eq_true rfl) (Nat.le_of_ble_eq_true rfl) d_Bod_become_80 ?_
  refine x_st (fun s20 hs20 => ?_)
  have hw := hw s20 hs20
  refine x_aload_n C d_Bod_become_83 rfl ?_
  refine g_Bod_6 (p := p1) C hk1 fl_Bod_31 d_Bod_become_84 ?_
  refine x_iconst (v := 0) C d_Bod_become_87 rfl ?_
  refine x_aload_n C d_Bod_become_88 rfl ?_
  refine g_Bod_6 (p := p0) C hk0 fl_Bod_31 d_Bod_become_89 ?_
  refine x_iconst (v := 0) C d_Bod_become_92 rfl ?_
  refine x_bipush (v := 6) C d_Bod_become_93 rfl ?_
  obtain ⟨h21, hw⟩ := hw
  refine x_copy (d := (p1 + 6)) (e := (p0 + 6)) (n0 := 6) (n1 := 6) C (ks_4_6 hk1) (ks_4_6 hk0) h21 ml_Bod_51 (Nat.le_of_ble_eq_true rfl) (Nat.le_of_ble_eq_true rfl) d_Bod_become_95 ?_
  refine x_st (fun s22 hs22 => ?_)
  have hw := hw s22 hs22
  exact x_return C d_Bod_become_98 ⟨rfl, hw⟩
def vc_Yar_has (p0 : Nat) (x1 : Int32) (s : St) (Q : Bool → Prop) : Prop :=
    vc_Brt_within x1 0 ((s p0 0) - 1) (fun b10 => Q b10)
def rm_Yar_has : Room := { frames := 1, cells := 0, slots := 0, locals := 22 }
set_option maxHeartbeats 4000000 in
set_option maxRecDepth 20000 in
theorem m_Yar_has (g : Gx) (hg : gOk g) (p0 : Nat) (x1 : Int32) (hk0 : kd p0 = 3) (s : St) (Q : Bool → Prop) (hw : vc_Yar_has p0 x1 s Q) : Mc g y_Yar_has b_Yar_has 2 (some FieldType.boolean) rm_Yar_has [.ref (ga g p0), .int x1] s (fun v s' => ∃ r : Bool, v = some (.int (bi r)) ∧ s = s' ∧ Q r) := by
  refine mc_ofV (j := 0) (L := [some (.ref (ga g p0)), some (.int x1)]) hg (by decide) (Nat.le_of_ble_eq_true rfl) rfl ?_
  intro X hX C
  subst hX
  unfold vc_Yar_has at hw
  refine x_iload_n C d_Yar_has_0 rfl ?_
  refine x_iconst (v := 0) C d_Yar_has_1 rfl ?_
  refine x_aload_n C d_Yar_has_2 rfl ?_
  refine g_Yar_0 (p := p0) C hk0 fl_Yar_9 d_Yar_has_3 ?_
  refine x_iconst (v := 1) C d_Yar_has_6 rfl ?_
  refine x_isub C d_Yar_has_7 ?_
  refine x_callSN (As := [.int x1, .int 0, .int ((s p0 0) - 1)]) (rest := []) C (m_Brt_within (xg X) C.2.2.2.2.2.2.1 x1 0 ((s p0 0) - 1) s _ hw) cw_Brt_within ml_Yar_40 rfl rfl rfl ⟨rfl, rfl, Nat.le_of_ble_eq_true rfl, Nat.le_of_ble_eq_true rfl⟩ ⟨Nat.zero_le _, Nat.zero_le _⟩ rfl (Nat.le_of_ble_eq_true rfl) d_Yar_has_8 ?_
  rintro _ _ ⟨b10, rfl, rfl, hw⟩
  show V X _ _ _ _ 11 [some (.ref (xa X p0)), some (.int x1)] [.int (bi b10)]
  exact x_zreturn (b := b10) C d_Yar_has_11 ⟨_, rfl, rfl, hw⟩
def vc_Cav_hasBoth (p0 : Nat) (x1 : Int32) (x2 : Int32) (s : St) (Q : Bool → Prop) : Prop :=
    vc_Bod_has (p0 + 10) x1 s (fun b10 => (((bi b10) = 0 → Q false) ∧ (¬ (bi b10) = 0 → vc_Yar_has (p0 + 1) x2 s (fun b13 => (((bi b13) = 0 → Q false) ∧ (¬ (bi b13) = 0 → Q true))))))
def rm_Cav_hasBoth : Room := { frames := 2, cells := 0, slots := 0, locals := 43 }
set_option maxHeartbeats 4000000 in
set_option maxRecDepth 20000 in
theorem m_Cav_hasBoth (g : Gx) (hg : gOk g) (p0 : Nat) (x1 : Int32) (x2 : Int32) (hk0 : kd p0 = 2) (s : St) (Q : Bool → Prop) (hw : vc_Cav_hasBoth p0 x1 x2 s Q) : Mc g y_Cav_hasBoth b_Cav_hasBoth 3 (some FieldType.boolean) rm_Cav_hasBoth [.ref (ga g p0), .int x1, .int x2] s (fun v s' => ∃ r : Bool, v = some (.int (bi r)) ∧ s = s' ∧ Q r) := by
  refine mc_ofV (j := 0) (L := [some (.ref (ga g p0)), some (.int x1), some (.int x2)]) hg (by decide) (Nat.le_of_ble_eq_true rfl) rfl ?_
  intro X hX C
  subst hX
  unfold vc_Cav_hasBoth at hw
  refine x_aload_n C d_Cav_hasBoth_0 rfl ?_
  refine g_Cav_1 (p := p0) C hk0 fl_Cav_21 d_Cav_hasBoth_1 ?_
  refine x_iload_n C d_Cav_hasBoth_4 rfl ?_
  refine x_callV (As := [.int x1]) (rest := []) (p := (p0 + 10)) C (m_Bod_has (xg X) C.2.2.2.2.2.2.1 (p0 + 10) x1 (ks_2_10 hk0) s _ hw) cw_Bod_has ml_Cav_38 (ks_2_10 hk0) (by decide) (by decide) rfl rfl rfl ⟨rfl, rfl, Nat.le_of_ble_eq_true rfl, Nat.le_of_ble_eq_true rfl⟩ ⟨Nat.zero_le _, Nat.zero_le _⟩ rfl (Nat.le_of_ble_eq_true rfl) d_Cav_hasBoth_5 ?_
  rintro _ _ ⟨b10, rfl, rfl, hw⟩
  show V X _ _ _ _ 8 [some (.ref (xa X p0)), some (.int x1), some (.int x2)] [.int (bi b10)]
  refine x_if_eq (tgt := 26) C d_Cav_hasBoth_8 (by decide) (fun c12 => ?_) (fun c12 => ?_)
  · have hw := hw.1 c12
    refine x_iconst (v := 0) C d_Cav_hasBoth_26 rfl ?_
    exact x_zreturn (b := false) C d_Cav_hasBoth_27 ⟨_, rfl, rfl, hw⟩
  · have hw := hw.2 c12
    refine x_aload_n C d_Cav_hasBoth_11 rfl ?_
    refine g_Cav_0 (p := p0) C hk0 fl_Cav_12 d_Cav_hasBoth_12 ?_
    refine x_iload_n C d_Cav_hasBoth_15 rfl ?_
    refine x_callV (As := [.int x2]) (rest := []) (p := (p0 + 1)) C (m_Yar_has (xg X) C.2.2.2.2.2.2.1 (p0 + 1) x2 (ks_2_1 hk0) s _ hw) cw_Yar_has ml_Cav_42 (ks_2_1 hk0) (by decide) (by decide) rfl rfl rfl ⟨rfl, rfl, Nat.le_of_ble_eq_true rfl, Nat.le_of_ble_eq_true rfl⟩ ⟨Nat.zero_le _, Nat.zero_le _⟩ rfl (Nat.le_of_ble_eq_true rfl) d_Cav_hasBoth_16 ?_
    rintro _ _ ⟨b13, rfl, rfl, hw⟩
    show V X _ _ _ _ 19 [some (.ref (xa X p0)), some (.int x1), some (.int x2)] [.int (bi b13)]
    refine x_if_eq (tgt := 26) C d_Cav_hasBoth_19 (by decide) (fun c15 => ?_) (fun c15 => ?_)
    · have hw := hw.1 c15
      refine x_iconst (v := 0) C d_Cav_hasBoth_26 rfl ?_
      exact x_zreturn (b := false) C d_Cav_hasBoth_27 ⟨_, rfl, rfl, hw⟩
    · have hw := hw.2 c15
      refine x_iconst (v := 1) C d_Cav_hasBoth_22 rfl ?_
      refine x_goto (tgt := 27) C d_Cav_hasBoth_23 (by decide) ?_
      exact x_zreturn (b := true) C d_Cav_hasBoth_27 ⟨_, rfl, rfl, hw⟩
def vc_Cav_settingOf (p0 : Nat) (x1 : Int32) (s : St) (Q : Int32 → Prop) : Prop :=
    ((x1 = 0 → Q (s p0 2)) ∧ (¬ x1 = 0 → ((x1 = 1 → Q (s p0 3)) ∧ (¬ x1 = 1 → ((x1 = 2 → Q (s p0 4)) ∧ (¬ x1 = 2 → Q (-1)))))))
def rm_Cav_settingOf : Room := { frames := 0, cells := 0, slots := 0, locals := 0 }
set_option maxHeartbeats 4000000 in
set_option maxRecDepth 20000 in
theorem m_Cav_settingOf (g : Gx) (hg : gOk g) (p0 : Nat) (x1 : Int32) (hk0 : kd p0 = 2) (s : St) (Q : Int32 → Prop) (hw : vc_Cav_settingOf p0 x1 s Q) : Mc g y_Cav_settingOf b_Cav_settingOf 2 (some FieldType.int) rm_Cav_settingOf [.ref (ga g p0), .int x1] s (fun v s' => ∃ r : Int32, v = some (.int r) ∧ s = s' ∧ Q r) := by
  refine mc_ofV (j := 0) (L := [some (.ref (ga g p0)), some (.int x1)]) hg (by decide) (Nat.le_of_ble_eq_true rfl) rfl ?_
  intro X hX C
  subst hX
  unfold vc_Cav_settingOf at hw
  refine x_iload_n C d_Cav_settingOf_0 rfl ?_
  by_cases c10 : x1 = 0
  · have hw := hw.1 c10
    refine x_tswIn (v := 0) (off := 27) (tgt := 28) C d_Cav_settingOf_1 c10 (by decide) (by decide) rfl (by decide) ?_
    refine x_aload_n C d_Cav_settingOf_28 rfl ?_
    refine g_Cav_2 (p := p0) C hk0 fl_Cav_25 d_Cav_settingOf_29 ?_
    exact x_ireturn C d_Cav_settingOf_32 ⟨_, rfl, rfl, hw⟩
  have hw := hw.2 c10
  by_cases c11 : x1 = 1
  · have hw := hw.1 c11
    refine x_tswIn (v := 1) (off := 32) (tgt := 33) C d_Cav_settingOf_1 c11 (by decide) (by decide) rfl (by decide) ?_
    refine x_aload_n C d_Cav_settingOf_33 rfl ?_
    refine g_Cav_3 (p := p0) C hk0 fl_Cav_29 d_Cav_settingOf_34 ?_
    exact x_ireturn C d_Cav_settingOf_37 ⟨_, rfl, rfl, hw⟩
  have hw := hw.2 c11
  by_cases c12 : x1 = 2
  · have hw := hw.1 c12
    refine x_tswIn (v := 2) (off := 37) (tgt := 38) C d_Cav_settingOf_1 c12 (by decide) (by decide) rfl (by decide) ?_
    refine x_aload_n C d_Cav_settingOf_38 rfl ?_
    refine g_Cav_4 (p := p0) C hk0 fl_Cav_32 d_Cav_settingOf_39 ?_
    exact x_ireturn C d_Cav_settingOf_42 ⟨_, rfl, rfl, hw⟩
  have hw := hw.2 c12
  refine x_tswD (tgt := 43) C d_Cav_settingOf_1 (fun j hj => by match j, hj with | 0, _ => exact Or.inr c10 | 1, _ => exact Or.inr c11 | 2, _ => exact Or.inr c12 | j + 3, hj => exact absurd hj (by omega)) (by decide) ?_
  refine x_iconst (v := (-1)) C d_Cav_settingOf_43 rfl ?_
  exact x_ireturn C d_Cav_settingOf_44 ⟨_, rfl, rfl, hw⟩
def vc_Cav_adjust (p0 : Nat) (x1 : Int32) (x2 : Int32) (s : St) (Q : Bool → St → Prop) : Prop :=
    (∃ J10 : Prop, (J10 → (∃ J11 : Prop, (J11 → ((¬ x1 = 2 → Q false s) ∧ (x1 = 2 → vc_Brt_within x2 0 999 (fun b13 => (((bi b13) = 0 → Q false s) ∧ (¬ (bi b13) = 0 → (∀ s16 : St, s16 = wr s p0 4 x2 → Q true s16))))))) ∧ ((¬ x1 = 1 → J11) ∧ (x1 = 1 → vc_Brt_within x2 1 60 (fun b18 => (((bi b18) = 0 → J11) ∧ (¬ (bi b18) = 0 → (∀ s21 : St, s21 = wr s p0 3 x2 → Q true s21)))))))) ∧ ((¬ x1 = 0 → J10) ∧ (x1 = 0 → vc_Brt_within x2 0 9 (fun b23 => (((bi b23) = 0 → J10) ∧ (¬ (bi b23) = 0 → (∀ s26 : St, s26 = wr s p0 2 x2 → Q true s26)))))))
def rm_Cav_adjust : Room := { frames := 1, cells := 0, slots := 0, locals := 22 }
set_option maxHeartbeats 4000000 in
set_option maxRecDepth 20000 in
theorem m_Cav_adjust (g : Gx) (hg : gOk g) (p0 : Nat) (x1 : Int32) (x2 : Int32) (hk0 : kd p0 = 2) (s : St) (Q : Bool → St → Prop) (hw : vc_Cav_adjust p0 x1 x2 s Q) : Mc g y_Cav_adjust b_Cav_adjust 3 (some FieldType.boolean) rm_Cav_adjust [.ref (ga g p0), .int x1, .int x2] s (fun v s' => ∃ r : Bool, v = some (.int (bi r)) ∧ Q r s') := by
  refine mc_ofV (j := 0) (L := [some (.ref (ga g p0)), some (.int x1), some (.int x2)]) hg (by decide) (Nat.le_of_ble_eq_true rfl) rfl ?_
  intro X hX C
  subst hX
  unfold vc_Cav_adjust at hw
  refine x_iload_n C d_Cav_adjust_0 rfl ?_
  obtain ⟨J10, hJ10, hw⟩ := hw
  have kJ10 : J10 → V X (xQ X (fun v s' => ∃ r : Bool, v = some (.int (bi r)) ∧ Q r s')) 0 0 s 21 [some (.ref (xa X p0)), some (.int x1), some (.int x2)] [] := by
    intro  hv
    have hw := hJ10  hv
    refine x_iload_n C d_Cav_adjust_21 rfl ?_
    refine x_iconst (v := 1) C d_Cav_adjust_22 rfl ?_
    obtain ⟨J11, hJ11, hw⟩ := hw
    have kJ11 : J11 → V X (xQ X (fun v s' => ∃ r : Bool, v = some (.int (bi r)) ∧ Q r s')) 0 0 s 43 [some (.ref (xa X p0)), some (.int x1), some (.int x2)] [] := by
      intro  hv
      have hw := hJ11  hv
      refine x_iload_n C d_Cav_adjust_43 rfl ?_
      refine x_iconst (v := 2) C d_Cav_adjust_44 rfl ?_
      refine x_icmp_ne (tgt := 66) C d_Cav_adjust_45 (by decide) (fun c12 => ?_) (fun c12 => ?_)
      · have hw := hw.1 c12
        refine x_iconst (v := 0) C d_Cav_adjust_66 rfl ?_
        exact x_zreturn (b := false) C d_Cav_adjust_67 ⟨_, rfl, hw⟩
      · have hw := hw.2 c12
        refine x_iload_n C d_Cav_adjust_48 rfl ?_
        refine x_iconst (v := 0) C d_Cav_adjust_49 rfl ?_
        refine x_sipush (v := 999) C d_Cav_adjust_50 rfl ?_
        refine x_callSN (As := [.int x2, .int 0, .int 999]) (rest := []) C (m_Brt_within (xg X) C.2.2.2.2.2.2.1 x2 0 999 s _ hw) cw_Brt_within ml_Cav_43 rfl rfl rfl ⟨rfl, rfl, Nat.le_of_ble_eq_true rfl, Nat.le_of_ble_eq_true rfl⟩ ⟨Nat.zero_le _, Nat.zero_le _⟩ rfl (Nat.le_of_ble_eq_true rfl) d_Cav_adjust_53 ?_
        rintro _ _ ⟨b13, rfl, rfl, hw⟩
        show V X _ _ _ _ 56 [some (.ref (xa X p0)), some (.int x1), some (.int x2)] [.int (bi b13)]
        refine x_if_eq (tgt := 66) C d_Cav_adjust_56 (by decide) (fun c15 => ?_) (fun c15 => ?_)
        · have hw := hw.1 c15
          refine x_iconst (v := 0) C d_Cav_adjust_66 rfl ?_
          exact x_zreturn (b := false) C d_Cav_adjust_67 ⟨_, rfl, hw⟩
        · have hw := hw.2 c15
          refine x_aload_n C d_Cav_adjust_59 rfl ?_
          refine x_iload_n C d_Cav_adjust_60 rfl ?_
          refine p_Cav_4 (p := p0) C hk0 fl_Cav_32 d_Cav_adjust_61 ?_
          refine x_st (fun s16 hs16 => ?_)
          have hw := hw s16 hs16
          refine x_iconst (v := 1) C d_Cav_adjust_64 rfl ?_
          exact x_zreturn (b := true) C d_Cav_adjust_65 ⟨_, rfl, hw⟩
    refine x_icmp_ne (tgt := 43) C d_Cav_adjust_23 (by decide) (fun c17 => ?_) (fun c17 => ?_)
    · have hw := hw.1 c17
      exact x_wk (kJ11  hw) (And.intro rfl (And.intro rfl (And.intro rfl (trivial))))
    · have hw := hw.2 c17
      refine x_iload_n C d_Cav_adjust_26 rfl ?_
      refine x_iconst (v := 1) C d_Cav_adjust_27 rfl ?_
      refine x_bipush (v := 60) C d_Cav_adjust_28 rfl ?_
      refine x_callSN (As := [.int x2, .int 1, .int 60]) (rest := []) C (m_Brt_within (xg X) C.2.2.2.2.2.2.1 x2 1 60 s _ hw) cw_Brt_within ml_Cav_43 rfl rfl rfl ⟨rfl, rfl, Nat.le_of_ble_eq_true rfl, Nat.le_of_ble_eq_true rfl⟩ ⟨Nat.zero_le _, Nat.zero_le _⟩ rfl (Nat.le_of_ble_eq_true rfl) d_Cav_adjust_30 ?_
      rintro _ _ ⟨b18, rfl, rfl, hw⟩
      show V X _ _ _ _ 33 [some (.ref (xa X p0)), some (.int x1), some (.int x2)] [.int (bi b18)]
      refine x_if_eq (tgt := 43) C d_Cav_adjust_33 (by decide) (fun c20 => ?_) (fun c20 => ?_)
      · have hw := hw.1 c20
        exact x_wk (kJ11  hw) (And.intro rfl (And.intro rfl (And.intro rfl (trivial))))
      · have hw := hw.2 c20
        refine x_aload_n C d_Cav_adjust_36 rfl ?_
        refine x_iload_n C d_Cav_adjust_37 rfl ?_
        refine p_Cav_3 (p := p0) C hk0 fl_Cav_29 d_Cav_adjust_38 ?_
        refine x_st (fun s21 hs21 => ?_)
        have hw := hw s21 hs21
        refine x_iconst (v := 1) C d_Cav_adjust_41 rfl ?_
        exact x_zreturn (b := true) C d_Cav_adjust_42 ⟨_, rfl, hw⟩
  refine x_if_ne (tgt := 21) C d_Cav_adjust_1 (by decide) (fun c22 => ?_) (fun c22 => ?_)
  · have hw := hw.1 c22
    exact x_wk (kJ10  hw) (And.intro rfl (And.intro rfl (And.intro rfl (trivial))))
  · have hw := hw.2 c22
    refine x_iload_n C d_Cav_adjust_4 rfl ?_
    refine x_iconst (v := 0) C d_Cav_adjust_5 rfl ?_
    refine x_bipush (v := 9) C d_Cav_adjust_6 rfl ?_
    refine x_callSN (As := [.int x2, .int 0, .int 9]) (rest := []) C (m_Brt_within (xg X) C.2.2.2.2.2.2.1 x2 0 9 s _ hw) cw_Brt_within ml_Cav_43 rfl rfl rfl ⟨rfl, rfl, Nat.le_of_ble_eq_true rfl, Nat.le_of_ble_eq_true rfl⟩ ⟨Nat.zero_le _, Nat.zero_le _⟩ rfl (Nat.le_of_ble_eq_true rfl) d_Cav_adjust_8 ?_
    rintro _ _ ⟨b23, rfl, rfl, hw⟩
    show V X _ _ _ _ 11 [some (.ref (xa X p0)), some (.int x1), some (.int x2)] [.int (bi b23)]
    refine x_if_eq (tgt := 21) C d_Cav_adjust_11 (by decide) (fun c25 => ?_) (fun c25 => ?_)
    · have hw := hw.1 c25
      exact x_wk (kJ10  hw) (And.intro rfl (And.intro rfl (And.intro rfl (trivial))))
    · have hw := hw.2 c25
      refine x_aload_n C d_Cav_adjust_14 rfl ?_
      refine x_iload_n C d_Cav_adjust_15 rfl ?_
      refine p_Cav_2 (p := p0) C hk0 fl_Cav_25 d_Cav_adjust_16 ?_
      refine x_st (fun s26 hs26 => ?_)
      have hw := hw s26 hs26
      refine x_iconst (v := 1) C d_Cav_adjust_19 rfl ?_
      exact x_zreturn (b := true) C d_Cav_adjust_20 ⟨_, rfl, hw⟩
def vc_Cav_goOn (p0 : Nat) (x1 : Int32) (s : St) (Q : Bool → St → Prop) : Prop :=
    ((((s p0 5) + x1) ≤ 9999 → (∀ s11 : St, s11 = wr s p0 5 ((s p0 5) + x1) → Q true s11)) ∧ (¬ ((s p0 5) + x1) ≤ 9999 → Q false s))
def rm_Cav_goOn : Room := { frames := 0, cells := 0, slots := 0, locals := 0 }
set_option maxHeartbeats 4000000 in
set_option maxRecDepth 20000 in
theorem m_Cav_goOn (g : Gx) (hg : gOk g) (p0 : Nat) (x1 : Int32) (hk0 : kd p0 = 2) (s : St) (Q : Bool → St → Prop) (hw : vc_Cav_goOn p0 x1 s Q) : Mc g y_Cav_goOn b_Cav_goOn 2 (some FieldType.boolean) rm_Cav_goOn [.ref (ga g p0), .int x1] s (fun v s' => ∃ r : Bool, v = some (.int (bi r)) ∧ Q r s') := by
  refine mc_ofV (j := 0) (L := [some (.ref (ga g p0)), some (.int x1)]) hg (by decide) (Nat.le_of_ble_eq_true rfl) rfl ?_
  intro X hX C
  subst hX
  unfold vc_Cav_goOn at hw
  refine x_aload_n C d_Cav_goOn_0 rfl ?_
  refine g_Cav_5 (p := p0) C hk0 fl_Cav_35 d_Cav_goOn_1 ?_
  refine x_iload_n C d_Cav_goOn_4 rfl ?_
  refine x_iadd C d_Cav_goOn_5 ?_
  refine x_sipush (v := 9999) C d_Cav_goOn_6 rfl ?_
  refine x_icmp_le (tgt := 14) C d_Cav_goOn_9 (by decide) (fun c10 => ?_) (fun c10 => ?_)
  · have hw := hw.1 c10
    refine x_aload_n C d_Cav_goOn_14 rfl ?_
    refine x_dup C d_Cav_goOn_15 rfl ?_
    refine g_Cav_5 (p := p0) C hk0 fl_Cav_35 d_Cav_goOn_16 ?_
    refine x_iload_n C d_Cav_goOn_19 rfl ?_
    refine x_iadd C d_Cav_goOn_20 ?_
    refine p_Cav_5 (p := p0) C hk0 fl_Cav_35 d_Cav_goOn_21 ?_
    refine x_st (fun s11 hs11 => ?_)
    have hw := hw s11 hs11
    refine x_iconst (v := 1) C d_Cav_goOn_24 rfl ?_
    exact x_zreturn (b := true) C d_Cav_goOn_25 ⟨_, rfl, hw⟩
  · have hw := hw.2 c10
    refine x_iconst (v := 0) C d_Cav_goOn_12 rfl ?_
    exact x_zreturn (b := false) C d_Cav_goOn_13 ⟨_, rfl, hw⟩
def vc_Cav_lackingOf (p0 : Nat) (x1 : Int32) (x2 : Int32) (s : St) (Q : Int32 → Prop) : Prop :=
    (vp_in x1 6 ∧ (∀ x11 : Int32, x11 = s (p0 + 10 + 5) (Int32.toNatClampNeg x1) → vc_Bod_bulkOf (p0 + 10) x1 x11 1 s (fun x12 => vc_Yar_moreBy (p0 + 1) x11 s (fun p14 => kd p14 = 112 → (vp_in x2 12 ∧ (∀ x17 : Int32, x17 = x12 + (s p14 (Int32.toNatClampNeg x2)) → vc_Cav_waterAt p0 (s p0 5) s (fun x18 => vc_Yar_roomAt (p0 + 1) x2 x18 s (fun x20 => Q (x17 - x20)))))))))
def rm_Cav_lackingOf : Room := { frames := 2, cells := 0, slots := 0, locals := 43 }
set_option maxHeartbeats 4000000 in
set_option maxRecDepth 20000 in
theorem m_Cav_lackingOf (g : Gx) (hg : gOk g) (p0 : Nat) (x1 : Int32) (x2 : Int32) (hk0 : kd p0 = 2) (s : St) (Q : Int32 → Prop) (hw : vc_Cav_lackingOf p0 x1 x2 s Q) : Mc g y_Cav_lackingOf b_Cav_lackingOf 5 (some FieldType.int) rm_Cav_lackingOf [.ref (ga g p0), .int x1, .int x2] s (fun v s' => ∃ r : Int32, v = some (.int r) ∧ s = s' ∧ Q r) := by
  refine mc_ofV (j := 2) (L := [some (.ref (ga g p0)), some (.int x1), some (.int x2), none, none]) hg (by decide) (Nat.le_of_ble_eq_true rfl) rfl ?_
  intro X hX C
  subst hX
  unfold vc_Cav_lackingOf at hw
  refine x_aload_n C d_Cav_lackingOf_0 rfl ?_
  refine g_Cav_1 (p := p0) C hk0 fl_Cav_21 d_Cav_lackingOf_1 ?_
  refine g_Bod_5 (p := (p0 + 10)) C (ks_2_10 hk0) fl_Cav_47 d_Cav_lackingOf_4 ?_
  refine x_iload_n C d_Cav_lackingOf_7 rfl ?_
  obtain ⟨h10, hw⟩ := hw
  refine x_iald (p := (p0 + 10 + 5)) (n := 6) C (ks_4_5 (ks_2_10 hk0)) h10 d_Cav_lackingOf_8 ?_
  refine x_nm (fun x11 hx11 => ?_)
  have hw := hw x11 hx11
  refine x_istore_n (L' := [some (.ref (xa X p0)), some (.int x1), some (.int x2), some (.int x11), none]) C d_Cav_lackingOf_9 (Nat.le_of_ble_eq_true rfl) rfl ?_
  refine x_aload_n C d_Cav_lackingOf_10 rfl ?_
  refine g_Cav_1 (p := p0) C hk0 fl_Cav_21 d_Cav_lackingOf_11 ?_
  refine x_iload_n C d_Cav_lackingOf_14 rfl ?_
  refine x_iload_n C d_Cav_lackingOf_15 rfl ?_
  refine x_iconst (v := 1) C d_Cav_lackingOf_16 rfl ?_
  refine x_callV (As := [.int x1, .int x11, .int 1]) (rest := []) (p := (p0 + 10)) C (m_Bod_bulkOf (xg X) C.2.2.2.2.2.2.1 (p0 + 10) x1 x11 1 (ks_2_10 hk0) s _ hw) cw_Bod_bulkOf ml_Cav_51 (ks_2_10 hk0) (by decide) (by decide) rfl rfl rfl ⟨rfl, rfl, Nat.le_of_ble_eq_true rfl, Nat.le_of_ble_eq_true rfl⟩ ⟨Nat.zero_le _, Nat.zero_le _⟩ rfl (Nat.le_of_ble_eq_true rfl) d_Cav_lackingOf_17 ?_
  rintro _ _ ⟨x12, rfl, rfl, hw⟩
  show V X _ _ _ _ 20 [some (.ref (xa X p0)), some (.int x1), some (.int x2), some (.int x11), none] [.int x12]
  refine x_aload_n C d_Cav_lackingOf_20 rfl ?_
  refine g_Cav_0 (p := p0) C hk0 fl_Cav_12 d_Cav_lackingOf_21 ?_
  refine x_iload_n C d_Cav_lackingOf_24 rfl ?_
  refine x_callV (As := [.int x11]) (rest := [.int x12]) (p := (p0 + 1)) C (m_Yar_moreBy (xg X) C.2.2.2.2.2.2.1 (p0 + 1) x11 (ks_2_1 hk0) s _ hw) cw_Yar_moreBy ml_Cav_55 (ks_2_1 hk0) (by decide) (by decide) rfl rfl rfl ⟨rfl, rfl, Nat.le_of_ble_eq_true rfl, Nat.le_of_ble_eq_true rfl⟩ ⟨Nat.zero_le _, Nat.zero_le _⟩ rfl (Nat.le_of_ble_eq_true rfl) d_Cav_lackingOf_25 ?_
  rintro _ _ ⟨p14, rfl, hkp14, rfl, hw⟩
  have hw := hw hkp14
  show V X _ _ _ _ 28 [some (.ref (xa X p0)), some (.int x1), some (.int x2), some (.int x11), none] [.ref (xa X p14), .int x12]
  refine x_iload_n C d_Cav_lackingOf_28 rfl ?_
  obtain ⟨h16, hw⟩ := hw
  refine x_iald (p := p14) (n := 12) C hkp14 h16 d_Cav_lackingOf_29 ?_
  refine x_iadd C d_Cav_lackingOf_30 ?_
  refine x_nm (fun x17 hx17 => ?_)
  have hw := hw x17 hx17
  refine x_istore (L' := [some (.ref (xa X p0)), some (.int x1), some (.int x2), some (.int x11), some (.int x17)]) C d_Cav_lackingOf_31 (Nat.le_of_ble_eq_true rfl) rfl ?_
  refine x_iload C d_Cav_lackingOf_33 rfl ?_
  refine x_aload_n C d_Cav_lackingOf_35 rfl ?_
  refine g_Cav_0 (p := p0) C hk0 fl_Cav_12 d_Cav_lackingOf_36 ?_
  refine x_iload_n C d_Cav_lackingOf_39 rfl ?_
  refine x_aload_n C d_Cav_lackingOf_40 rfl ?_
  refine x_aload_n C d_Cav_lackingOf_41 rfl ?_
  refine g_Cav_5 (p := p0) C hk0 fl_Cav_35 d_Cav_lackingOf_42 ?_
  refine x_callV (As := [.int (s p0 5)]) (rest := [.int x2, .ref (xa X (p0 + 1)), .int x17]) (p := p0) C (m_Cav_waterAt (xg X) C.2.2.2.2.2.2.1 p0 (s p0 5) hk0 s _ hw) cw_Cav_waterAt ml_Cav_59 hk0 (by decide) (by decide) rfl rfl rfl ⟨rfl, rfl, Nat.le_of_ble_eq_true rfl, Nat.le_of_ble_eq_true rfl⟩ ⟨Nat.zero_le _, Nat.zero_le _⟩ rfl (Nat.le_of_ble_eq_true rfl) d_Cav_lackingOf_45 ?_
  rintro _ _ ⟨x18, rfl, rfl, hw⟩
  show V X _ _ _ _ 48 [some (.ref (xa X p0)), some (.int x1), some (.int x2), some (.int x11), some (.int x17)] [.int x18, .int x2, .ref (xa X (p0 + 1)), .int x17]
  refine x_callV (As := [.int x2, .int x18]) (rest := [.int x17]) (p := (p0 + 1)) C (m_Yar_roomAt (xg X) C.2.2.2.2.2.2.1 (p0 + 1) x2 x18 (ks_2_1 hk0) s _ hw) cw_Yar_roomAt ml_Cav_63 (ks_2_1 hk0) (by decide) (by decide) rfl rfl rfl ⟨rfl, rfl, Nat.le_of_ble_eq_true rfl, Nat.le_of_ble_eq_true rfl⟩ ⟨Nat.zero_le _, Nat.zero_le _⟩ rfl (Nat.le_of_ble_eq_true rfl) d_Cav_lackingOf_48 ?_
  rintro _ _ ⟨x20, rfl, rfl, hw⟩
  show V X _ _ _ _ 51 [some (.ref (xa X p0)), some (.int x1), some (.int x2), some (.int x11), some (.int x17)] [.int x20, .int x17]
  refine x_isub C d_Cav_lackingOf_51 ?_
  exact x_ireturn C d_Cav_lackingOf_52 ⟨_, rfl, rfl, hw⟩
def vc_Cav_fitOf (p0 : Nat) (x1 : Int32) (x2 : Int32) (s : St) (Q : Int32 → Prop) : Prop :=
    vc_Cav_lackingOf p0 x1 x2 s (fun x10 => ((x10 ≤ 0 → (vp_in x1 6 ∧ (((x10 + (s (p0 + 10 + 2) (Int32.toNatClampNeg x1))) ≤ 0 → Q 0) ∧ (¬ (x10 + (s (p0 + 10 + 2) (Int32.toNatClampNeg x1))) ≤ 0 → Q 1)))) ∧ (¬ x10 ≤ 0 → Q 2)))
def rm_Cav_fitOf : Room := { frames := 3, cells := 0, slots := 0, locals := 67 }
set_option maxHeartbeats 4000000 in
set_option maxRecDepth 20000 in
theorem m_Cav_fitOf (g : Gx) (hg : gOk g) (p0 : Nat) (x1 : Int32) (x2 : Int32) (hk0 : kd p0 = 2) (s : St) (Q : Int32 → Prop) (hw : vc_Cav_fitOf p0 x1 x2 s Q) : Mc g y_Cav_fitOf b_Cav_fitOf 4 (some FieldType.int) rm_Cav_fitOf [.ref (ga g p0), .int x1, .int x2] s (fun v s' => ∃ r : Int32, v = some (.int r) ∧ s = s' ∧ Q r) := by
  refine mc_ofV (j := 1) (L := [some (.ref (ga g p0)), some (.int x1), some (.int x2), none]) hg (by decide) (Nat.le_of_ble_eq_true rfl) rfl ?_
  intro X hX C
  subst hX
  unfold vc_Cav_fitOf at hw
  refine x_aload_n C d_Cav_fitOf_0 rfl ?_
  refine x_iload_n C d_Cav_fitOf_1 rfl ?_
  refine x_iload_n C d_Cav_fitOf_2 rfl ?_
  refine x_callV (As := [.int x1, .int x2]) (rest := []) (p := p0) C (m_Cav_lackingOf (xg X) C.2.2.2.2.2.2.1 p0 x1 x2 hk0 s _ hw) cw_Cav_lackingOf ml_Cav_67 hk0 (by decide) (by decide) rfl rfl rfl ⟨rfl, rfl, Nat.le_of_ble_eq_true rfl, Nat.le_of_ble_eq_true rfl⟩ ⟨Nat.zero_le _, Nat.zero_le _⟩ rfl (Nat.le_of_ble_eq_true rfl) d_Cav_fitOf_3 ?_
  rintro _ _ ⟨x10, rfl, rfl, hw⟩
  show V X _ _ _ _ 6 [some (.ref (xa X p0)), some (.int x1), some (.int x2), none] [.int x10]
  refine x_istore_n (L' := [some (.ref (xa X p0)), some (.int x1), some (.int x2), some (.int x10)]) C d_Cav_fitOf_6 (Nat.le_of_ble_eq_true rfl) rfl ?_
  refine x_iload_n C d_Cav_fitOf_7 rfl ?_
  refine x_if_le (tgt := 13) C d_Cav_fitOf_8 (by decide) (fun c12 => ?_) (fun c12 => ?_)
  · have hw := hw.1 c12
    refine x_iload_n C d_Cav_fitOf_13 rfl ?_
    refine x_aload_n C d_Cav_fitOf_14 rfl ?_
    refine g_Cav_1 (p := p0) C hk0 fl_Cav_21 d_Cav_fitOf_15 ?_
    refine g_Bod_2 (p := (p0 + 10)) C (ks_2_10 hk0) fl_Cav_70 d_Cav_fitOf_18 ?_
    refine x_iload_n C d_Cav_fitOf_21 rfl ?_
    obtain ⟨h13, hw⟩ := hw
    refine x_iald (p := (p0 + 10 + 2)) (n := 6) C (ks_4_2 (ks_2_10 hk0)) h13 d_Cav_fitOf_22 ?_
    refine x_iadd C d_Cav_fitOf_23 ?_
    refine x_if_le (tgt := 31) C d_Cav_fitOf_24 (by decide) (fun c14 => ?_) (fun c14 => ?_)
    · have hw := hw.1 c14
      refine x_iconst (v := 0) C d_Cav_fitOf_31 rfl ?_
      exact x_ireturn C d_Cav_fitOf_32 ⟨_, rfl, rfl, hw⟩
    · have hw := hw.2 c14
      refine x_iconst (v := 1) C d_Cav_fitOf_27 rfl ?_
      refine x_goto (tgt := 32) C d_Cav_fitOf_28 (by decide) ?_
      exact x_ireturn C d_Cav_fitOf_32 ⟨_, rfl, rfl, hw⟩
  · have hw := hw.2 c12
    refine x_iconst (v := 2) C d_Cav_fitOf_11 rfl ?_
    exact x_ireturn C d_Cav_fitOf_12 ⟨_, rfl, rfl, hw⟩
def vc_Yar_become (p0 : Nat) (p1 : Nat) (s : St) (Q : St → Prop) : Prop :=
    (∀ s10 : St, s10 = wr s p0 0 (s p1 0) → (cpok 0 0 12 12 12 ∧ (∀ s12 : St, s12 = wcp s10 (p1 + 1) (p0 + 1) (Int32.toNatClampNeg 0) (Int32.toNatClampNeg 0) (Int32.toNatClampNeg 12) → (cpok 0 0 12 12 12 ∧ (∀ s14 : St, s14 = wcp s12 (p1 + 2) (p0 + 2) (Int32.toNatClampNeg 0) (Int32.toNatClampNeg 0) (Int32.toNatClampNeg 12) → (cpok 0 0 12 12 12 ∧ (∀ s16 : St, s16 = wcp s14 (p1 + 3) (p0 + 3) (Int32.toNatClampNeg 0) (Int32.toNatClampNeg 0) (Int32.toNatClampNeg 12) → (cpok 0 0 12 12 12 ∧ (∀ s18 : St, s18 = wcp s16 (p1 + 4) (p0 + 4) (Int32.toNatClampNeg 0) (Int32.toNatClampNeg 0) (Int32.toNatClampNeg 12) → (cpok 0 0 12 12 12 ∧ (∀ s20 : St, s20 = wcp s18 (p1 + 5) (p0 + 5) (Int32.toNatClampNeg 0) (Int32.toNatClampNeg 0) (Int32.toNatClampNeg 12) → (cpok 0 0 12 12 12 ∧ (∀ s22 : St, s22 = wcp s20 (p1 + 6) (p0 + 6) (Int32.toNatClampNeg 0) (Int32.toNatClampNeg 0) (Int32.toNatClampNeg 12) → (cpok 0 0 12 12 12 ∧ (∀ s24 : St, s24 = wcp s22 (p1 + 7) (p0 + 7) (Int32.toNatClampNeg 0) (Int32.toNatClampNeg 0) (Int32.toNatClampNeg 12) → (cpok 0 0 12 12 12 ∧ (∀ s26 : St, s26 = wcp s24 (p1 + 8) (p0 + 8) (Int32.toNatClampNeg 0) (Int32.toNatClampNeg 0) (Int32.toNatClampNeg 12) → Q s26)))))))))))))))))
def rm_Yar_become : Room := { frames := 1, cells := 0, slots := 0, locals := 26 }
set_option maxHeartbeats 4000000 in
set_option maxRecDepth 20000 in
theorem m_Yar_become (g : Gx) (hg : gOk g) (p0 : Nat) (p1 : Nat) (hk0 : kd p0 = 3) (hk1 : kd p1 = 3) (s : St) (Q : St → Prop) (hw : vc_Yar_become p0 p1 s Q) : Mc g y_Yar_become b_Yar_become 2 (none) rm_Yar_become [.ref (ga g p0), .ref (ga g p1)] s (fun v s' => v = none ∧ Q s') := by
  refine mc_ofV (j := 0) (L := [some (.ref (ga g p0)), some (.ref (ga g p1))]) hg (by decide) (Nat.le_of_ble_eq_true rfl) rfl ?_
  intro X hX C
  subst hX
  unfold vc_Yar_become at hw
  refine x_aload_n C d_Yar_become_0 rfl ?_
  refine x_aload_n C d_Yar_become_1 rfl ?_
  refine g_Yar_0 (p := p1) C hk1 fl_Yar_9 d_Yar_become_2 ?_
  refine p_Yar_0 (p := p0) C hk0 fl_Yar_9 d_Yar_become_5 ?_
  refine x_st (fun s10 hs10 => ?_)
  have hw := hw s10 hs10
  refine x_aload_n C d_Yar_become_8 rfl ?_
  refine g_Yar_1 (p := p1) C hk1 fl_Yar_15 d_Yar_become_9 ?_
  refine x_iconst (v := 0) C d_Yar_become_12 rfl ?_
  refine x_aload_n C d_Yar_become_13 rfl ?_
  refine g_Yar_1 (p := p0) C hk0 fl_Yar_15 d_Yar_become_14 ?_
  refine x_iconst (v := 0) C d_Yar_become_17 rfl ?_
  refine x_bipush (v := 12) C d_Yar_become_18 rfl ?_
  obtain ⟨h11, hw⟩ := hw
  refine x_copy (d := (p1 + 1)) (e := (p0 + 1)) (n0 := 12) (n1 := 12) C (ks_3_1 hk1) (ks_3_1 hk0) h11 ml_Yar_68 (Nat.le_of_ble_eq_true rfl) (Nat.le_of_ble_eq_true rfl) d_Yar_become_20 ?_
  refine x_st (fun s12 hs12 => ?_)
  have hw := hw s12 hs12
  refine x_aload_n C d_Yar_become_23 rfl ?_
  refine g_Yar_2 (p := p1) C hk1 fl_Yar_19 d_Yar_become_24 ?_
  refine x_iconst (v := 0) C d_Yar_become_27 rfl ?_
  refine x_aload_n C d_Yar_become_28 rfl ?_
  refine g_Yar_2 (p := p0) C hk0 fl_Yar_19 d_Yar_become_29 ?_
  refine x_iconst (v := 0) C d_Yar_become_32 rfl ?_
  refine x_bipush (v := 12) C d_Yar_become_33 rfl ?_
  obtain ⟨h13, hw⟩ := hw
  refine x_copy (d := (p1 + 2)) (e := (p0 + 2)) (n0 := 12) (n1 := 12) C (ks_3_2 hk1) (ks_3_2 hk0) h13 ml_Yar_68 (Nat.le_of_ble_eq_true rfl) (Nat.le_of_ble_eq_true rfl) d_Yar_become_35 ?_
  refine x_st (fun s14 hs14 => ?_)
  have hw := hw s14 hs14
  refine x_aload_n C d_Yar_become_38 rfl ?_
  refine g_Yar_3 (p := p1) C hk1 fl_Yar_22 d_Yar_become_39 ?_
  refine x_iconst (v := 0) C d_Yar_become_42 rfl ?_
  refine x_aload_n C d_Yar_become_43 rfl ?_
  refine g_Yar_3 (p := p0) C hk0 fl_Yar_22 d_Yar_become_44 ?_
  refine x_iconst (v := 0) C d_Yar_become_47 rfl ?_
  refine x_bipush (v := 12) C d_Yar_become_48 rfl ?_
  obtain ⟨h15, hw⟩ := hw
  refine x_copy (d := (p1 + 3)) (e := (p0 + 3)) (n0 := 12) (n1 := 12) C (ks_3_3 hk1) (ks_3_3 hk0) h15 ml_Yar_68 (Nat.le_of_ble_eq_true rfl) (Nat.le_of_ble_eq_true rfl) d_Yar_become_50 ?_
  refine x_st (fun s16 hs16 => ?_)
  have hw := hw s16 hs16
  refine x_aload_n C d_Yar_become_53 rfl ?_
  refine g_Yar_4 (p := p1) C hk1 fl_Yar_25 d_Yar_become_54 ?_
  refine x_iconst (v := 0) C d_Yar_become_57 rfl ?_
  refine x_aload_n C d_Yar_become_58 rfl ?_
  refine g_Yar_4 (p := p0) C hk0 fl_Yar_25 d_Yar_become_59 ?_
  refine x_iconst (v := 0) C d_Yar_become_62 rfl ?_
  refine x_bipush (v := 12) C d_Yar_become_63 rfl ?_
  obtain ⟨h17, hw⟩ := hw
  refine x_copy (d := (p1 + 4)) (e := (p0 + 4)) (n0 := 12) (n1 := 12) C (ks_3_4 hk1) (ks_3_4 hk0) h17 ml_Yar_68 (Nat.le_of_ble_eq_true rfl) (Nat.le_of_ble_eq_true rfl) d_Yar_become_65 ?_
  refine x_st (fun s18 hs18 => ?_)
  have hw := hw s18 hs18
  refine x_aload_n C d_Yar_become_68 rfl ?_
  refine g_Yar_5 (p := p1) C hk1 fl_Yar_28 d_Yar_become_69 ?_
  refine x_iconst (v := 0) C d_Yar_become_72 rfl ?_
  refine x_aload_n C d_Yar_become_73 rfl ?_
  refine g_Yar_5 (p := p0) C hk0 fl_Yar_28 d_Yar_become_74 ?_
  refine x_iconst (v := 0) C d_Yar_become_77 rfl ?_
  refine x_bipush (v := 12) C d_Yar_become_78 rfl ?_
  obtain ⟨h19, hw⟩ := hw
  refine x_copy (d := (p1 + 5)) (e := (p0 + 5)) (n0 := 12) (n1 := 12) C (ks_3_5 hk1) (ks_3_5 hk0) h19 ml_Yar_68 (Nat.le_of_ble_eq_true rfl) (Nat.le_of_ble_eq_true rfl) d_Yar_become_80 ?_
  refine x_st (fun s20 hs20 => ?_)
  have hw := hw s20 hs20
  refine x_aload_n C d_Yar_become_83 rfl ?_
  refine g_Yar_6 (p := p1) C hk1 fl_Yar_31 d_Yar_become_84 ?_
  refine x_iconst (v := 0) C d_Yar_become_87 rfl ?_
  refine x_aload_n C d_Yar_become_88 rfl ?_
  refine g_Yar_6 (p := p0) C hk0 fl_Yar_31 d_Yar_become_89 ?_
  refine x_iconst (v := 0) C d_Yar_become_92 rfl ?_
  refine x_bipush (v := 12) C d_Yar_become_93 rfl ?_
  obtain ⟨h21, hw⟩ := hw
  refine x_copy (d := (p1 + 6)) (e := (p0 + 6)) (n0 := 12) (n1 := 12) C (ks_3_6 hk1) (ks_3_6 hk0) h21 ml_Yar_68 (Nat.le_of_ble_eq_true rfl) (Nat.le_of_ble_eq_true rfl) d_Yar_become_95 ?_
  refine x_st (fun s22 hs22 => ?_)
  have hw := hw s22 hs22
  refine x_aload_n C d_Yar_become_98 rfl ?_
  refine g_Yar_7 (p := p1) C hk1 fl_Yar_34 d_Yar_become_99 ?_
  refine x_iconst (v := 0) C d_Yar_become_102 rfl ?_
  refine x_aload_n C d_Yar_become_103 rfl ?_
  refine g_Yar_7 (p := p0) C hk0 fl_Yar_34 d_Yar_become_104 ?_
  refine x_iconst (v := 0) C d_Yar_become_107 rfl ?_
  refine x_bipush (v := 12) C d_Yar_become_108 rfl ?_
  obtain ⟨h23, hw⟩ := hw
  refine x_copy (d := (p1 + 7)) (e := (p0 + 7)) (n0 := 12) (n1 := 12) C (ks_3_7 hk1) (ks_3_7 hk0) h23 ml_Yar_68 (Nat.le_of_ble_eq_true rfl) (Nat.le_of_ble_eq_true rfl) d_Yar_become_110 ?_
  refine x_st (fun s24 hs24 => ?_)
  have hw := hw s24 hs24
  refine x_aload_n C d_Yar_become_113 rfl ?_
  refine g_Yar_8 (p := p1) C hk1 fl_Yar_37 d_Yar_become_114 ?_
  refine x_iconst (v := 0) C d_Yar_become_117 rfl ?_
  refine x_aload_n C d_Yar_become_118 rfl ?_
  refine g_Yar_8 (p := p0) C hk0 fl_Yar_37 d_Yar_become_119 ?_
  refine x_iconst (v := 0) C d_Yar_become_122 rfl ?_
  refine x_bipush (v := 12) C d_Yar_become_123 rfl ?_
  obtain ⟨h25, hw⟩ := hw
  refine x_copy (d := (p1 + 8)) (e := (p0 + 8)) (n0 := 12) (n1 := 12) C (ks_3_8 hk1) (ks_3_8 hk0) h25 ml_Yar_68 (Nat.le_of_ble_eq_true rfl) (Nat.le_of_ble_eq_true rfl) d_Yar_become_125 ?_
  refine x_st (fun s26 hs26 => ?_)
  have hw := hw s26 hs26
  exact x_return C d_Yar_become_128 ⟨rfl, hw⟩
def vc_Cav_become (p0 : Nat) (p1 : Nat) (s : St) (Q : St → Prop) : Prop :=
    vc_Yar_become (p0 + 1) (p1 + 1) s (fun s10 => vc_Bod_become (p0 + 10) (p1 + 10) s10 (fun s11 => (∀ s12 : St, s12 = wr s11 p0 2 (s11 p1 2) → (∀ s13 : St, s13 = wr s12 p0 3 (s12 p1 3) → (∀ s14 : St, s14 = wr s13 p0 4 (s13 p1 4) → (∀ s15 : St, s15 = wr s14 p0 5 (s14 p1 5) → Q s15))))))
def rm_Cav_become : Room := { frames := 2, cells := 0, slots := 0, locals := 47 }
set_option maxHeartbeats 4000000 in
set_option maxRecDepth 20000 in
theorem m_Cav_become (g : Gx) (hg : gOk g) (p0 : Nat) (p1 : Nat) (hk0 : kd p0 = 2) (hk1 : kd p1 = 2) (s : St) (Q : St → Prop) (hw : vc_Cav_become p0 p1 s Q) : Mc g y_Cav_become b_Cav_become 2 (none) rm_Cav_become [.ref (ga g p0), .ref (ga g p1)] s (fun v s' => v = none ∧ Q s') := by
  refine mc_ofV (j := 0) (L := [some (.ref (ga g p0)), some (.ref (ga g p1))]) hg (by decide) (Nat.le_of_ble_eq_true rfl) rfl ?_
  intro X hX C
  subst hX
  unfold vc_Cav_become at hw
  refine x_aload_n C d_Cav_become_0 rfl ?_
  refine g_Cav_0 (p := p0) C hk0 fl_Cav_12 d_Cav_become_1 ?_
  refine x_aload_n C d_Cav_become_4 rfl ?_
  refine g_Cav_0 (p := p1) C hk1 fl_Cav_12 d_Cav_become_5 ?_
  refine x_callV (As := [.ref (xa X (p1 + 1))]) (rest := []) (p := (p0 + 1)) C (m_Yar_become (xg X) C.2.2.2.2.2.2.1 (p0 + 1) (p1 + 1) (ks_2_1 hk0) (ks_2_1 hk1) s _ hw) cw_Yar_become ml_Cav_73 (ks_2_1 hk0) (by decide) (by decide) rfl rfl rfl ⟨rfl, rfl, Nat.le_of_ble_eq_true rfl, Nat.le_of_ble_eq_true rfl⟩ ⟨Nat.zero_le _, Nat.zero_le _⟩ rfl (Nat.le_of_ble_eq_true rfl) d_Cav_become_8 ?_
  rintro _ s10 ⟨rfl, hw⟩
  show V X _ _ _ _ 11 [some (.ref (xa X p0)), some (.ref (xa X p1))] []
  refine x_aload_n C d_Cav_become_11 rfl ?_
  refine g_Cav_1 (p := p0) C hk0 fl_Cav_21 d_Cav_become_12 ?_
  refine x_aload_n C d_Cav_become_15 rfl ?_
  refine g_Cav_1 (p := p1) C hk1 fl_Cav_21 d_Cav_become_16 ?_
  refine x_callV (As := [.ref (xa X (p1 + 10))]) (rest := []) (p := (p0 + 10)) C (m_Bod_become (xg X) C.2.2.2.2.2.2.1 (p0 + 10) (p1 + 10) (ks_2_10 hk0) (ks_2_10 hk1) s10 _ hw) cw_Bod_become ml_Cav_77 (ks_2_10 hk0) (by decide) (by decide) rfl rfl rfl ⟨rfl, rfl, Nat.le_of_ble_eq_true rfl, Nat.le_of_ble_eq_true rfl⟩ ⟨Nat.zero_le _, Nat.zero_le _⟩ rfl (Nat.le_of_ble_eq_true rfl) d_Cav_become_19 ?_
  rintro _ s11 ⟨rfl, hw⟩
  show V X _ _ _ _ 22 [some (.ref (xa X p0)), some (.ref (xa X p1))] []
  refine x_aload_n C d_Cav_become_22 rfl ?_
  refine x_aload_n C d_Cav_become_23 rfl ?_
  refine g_Cav_2 (p := p1) C hk1 fl_Cav_25 d_Cav_become_24 ?_
  refine p_Cav_2 (p := p0) C hk0 fl_Cav_25 d_Cav_become_27 ?_
  refine x_st (fun s12 hs12 => ?_)
  have hw := hw s12 hs12
  refine x_aload_n C d_Cav_become_30 rfl ?_
  refine x_aload_n C d_Cav_become_31 rfl ?_
  refine g_Cav_3 (p := p1) C hk1 fl_Cav_29 d_Cav_become_32 ?_
  refine p_Cav_3 (p := p0) C hk0 fl_Cav_29 d_Cav_become_35 ?_
  refine x_st (fun s13 hs13 => ?_)
  have hw := hw s13 hs13
  refine x_aload_n C d_Cav_become_38 rfl ?_
  refine x_aload_n C d_Cav_become_39 rfl ?_
  refine g_Cav_4 (p := p1) C hk1 fl_Cav_32 d_Cav_become_40 ?_
  refine p_Cav_4 (p := p0) C hk0 fl_Cav_32 d_Cav_become_43 ?_
  refine x_st (fun s14 hs14 => ?_)
  have hw := hw s14 hs14
  refine x_aload_n C d_Cav_become_46 rfl ?_
  refine x_aload_n C d_Cav_become_47 rfl ?_
  refine g_Cav_5 (p := p1) C hk1 fl_Cav_35 d_Cav_become_48 ?_
  refine p_Cav_5 (p := p0) C hk0 fl_Cav_35 d_Cav_become_51 ?_
  refine x_st (fun s15 hs15 => ?_)
  have hw := hw s15 hs15
  exact x_return C d_Cav_become_54 ⟨rfl, hw⟩
def vc_Kin_roomOf : Nat → Int32 → Int32 → Int32 → (Int32 → Prop) → Prop
  | 0, _, _, _, _ => False
  | d + 1, x0, x1, x2, Q =>
    (∃ J10 : Prop, (J10 → Q (imax 0 (x2 - (x1 / 3)))) ∧ ((x0 = 1 → Q (x2 + 4)) ∧ (¬ x0 = 1 → ((x0 = 2 → J10) ∧ (¬ x0 = 2 → ((x0 = 3 → J10) ∧ (¬ x0 = 3 → ((x0 = 6 → vc_Kin_roomOf d 2 x1 x2 (fun x15 => Q (imax 0 (x15 - 1)))) ∧ (¬ x0 = 6 → ((x0 = 7 → vc_Kin_roomOf d 1 x1 x2 (fun x18 => Q (2 * x18))) ∧ (¬ x0 = 7 → Q x2)))))))))))
def rm_Kin_roomOf (d : Nat) : Room := { frames := 1 + d, cells := 0, slots := 0, locals := 21 + d * 22 }
set_option maxHeartbeats 4000000 in
set_option maxRecDepth 20000 in
theorem m_Kin_roomOf (g : Gx) (hg : gOk g) : ∀ (d : Nat) (x0 : Int32) (x1 : Int32) (x2 : Int32)  (s : St) (Q : Int32 → Prop) (hw : vc_Kin_roomOf d x0 x1 x2 Q), Mc g y_Kin_roomOf b_Kin_roomOf 3 (some FieldType.int) (rm_Kin_roomOf d) [.int x0, .int x1, .int x2] s (fun v s' => ∃ r : Int32, v = some (.int r) ∧ s = s' ∧ Q r)
  | 0, x0, x1, x2, s, Q, hw => hw.elim
  | d + 1, x0, x1, x2, s, Q, hw => by
    refine mc_ofV (j := 0) (L := [some (.int x0), some (.int x1), some (.int x2)]) hg (by decide) (Nat.le_of_ble_eq_true rfl) rfl ?_
    intro X hX C
    subst hX
    simp only [vc_Kin_roomOf] at hw
    refine x_iload_n C d_Kin_roomOf_0 rfl ?_
    obtain ⟨J10, hJ10, hw⟩ := hw
    have kJ10 : J10 → V X (xQ X (fun v s' => ∃ r : Int32, v = some (.int r) ∧ s = s' ∧ Q r)) 0 0 s 48 [some (.int x0), some (.int x1), some (.int x2)] [] := by
      intro  hv
      have hw := hJ10  hv
      refine x_iconst (v := 0) C d_Kin_roomOf_48 rfl ?_
      refine x_iload_n C d_Kin_roomOf_49 rfl ?_
      refine x_iload_n C d_Kin_roomOf_50 rfl ?_
      refine x_iconst (v := 3) C d_Kin_roomOf_51 rfl ?_
      refine x_idiv C d_Kin_roomOf_52 (by decide) ?_
      refine x_isub C d_Kin_roomOf_53 ?_
      refine x_mmax C ml_Kin_9 (by simp [rm_Kin_roomOf, Value.category] <;> omega) (by simp [rm_Kin_roomOf, Value.category] <;> omega) ⟨Nat.zero_le _, Nat.zero_le _⟩ d_Kin_roomOf_54 ?_
      exact x_ireturn C d_Kin_roomOf_57 ⟨_, rfl, rfl, hw⟩
    by_cases c11 : x0 = 1
    · have hw := hw.1 c11
      refine x_tswIn (v := 1) (off := 43) (tgt := 44) C d_Kin_roomOf_1 c11 (by decide) (by decide) rfl (by decide) ?_
      refine x_iload_n C d_Kin_roomOf_44 rfl ?_
      refine x_iconst (v := 4) C d_Kin_roomOf_45 rfl ?_
      refine x_iadd C d_Kin_roomOf_46 ?_
      exact x_ireturn C d_Kin_roomOf_47 ⟨_, rfl, rfl, hw⟩
    have hw := hw.2 c11
    by_cases c12 : x0 = 2
    · have hw := hw.1 c12
      refine x_tswIn (v := 2) (off := 47) (tgt := 48) C d_Kin_roomOf_1 c12 (by decide) (by decide) rfl (by decide) ?_
      exact x_wk (kJ10  hw) (And.intro rfl (And.intro rfl (And.intro rfl (trivial))))
    have hw := hw.2 c12
    by_cases c13 : x0 = 3
    · have hw := hw.1 c13
      refine x_tswIn (v := 3) (off := 47) (tgt := 48) C d_Kin_roomOf_1 c13 (by decide) (by decide) rfl (by decide) ?_
      exact x_wk (kJ10  hw) (And.intro rfl (And.intro rfl (And.intro rfl (trivial))))
    have hw := hw.2 c13
    by_cases c14 : x0 = 6
    · have hw := hw.1 c14
      refine x_tswIn (v := 6) (off := 57) (tgt := 58) C d_Kin_roomOf_1 c14 (by decide) (by decide) rfl (by decide) ?_
      refine x_iconst (v := 0) C d_Kin_roomOf_58 rfl ?_
      refine x_iconst (v := 2) C d_Kin_roomOf_59 rfl ?_
      refine x_iload_n C d_Kin_roomOf_60 rfl ?_
      refine x_iload_n C d_Kin_roomOf_61 rfl ?_
      refine x_callS (As := [.int 2, .int x1, .int x2]) (rest := [.int 0]) C (m_Kin_roomOf (xg X) C.2.2.2.2.2.2.1 d 2 x1 x2 s _ hw) cw_Kin_roomOf ml_Kin_15 rfl ⟨rfl, rfl, by simp only [rm_Kin_roomOf, rm_Kin_roomOf] <;> omega, by simp only [rm_Kin_roomOf, rm_Kin_roomOf] <;> omega⟩ ⟨Nat.zero_le _, Nat.zero_le _⟩ rfl (Nat.le_of_ble_eq_true rfl) d_Kin_roomOf_62 ?_
      rintro _ _ ⟨x15, rfl, rfl, hw⟩
      show V X _ _ _ _ 65 [some (.int x0), some (.int x1), some (.int x2)] [.int x15, .int 0]
      refine x_iconst (v := 1) C d_Kin_roomOf_65 rfl ?_
      refine x_isub C d_Kin_roomOf_66 ?_
      refine x_mmax C ml_Kin_9 (by simp [rm_Kin_roomOf, Value.category] <;> omega) (by simp [rm_Kin_roomOf, Value.category] <;> omega) ⟨Nat.zero_le _, Nat.zero_le _⟩ d_Kin_roomOf_67 ?_
      exact x_ireturn C d_Kin_roomOf_70 ⟨_, rfl, rfl, hw⟩
    have hw := hw.2 c14
    by_cases c17 : x0 = 7
    · have hw := hw.1 c17
      refine x_tswIn (v := 7) (off := 70) (tgt := 71) C d_Kin_roomOf_1 c17 (by decide) (by decide) rfl (by decide) ?_
      refine x_iconst (v := 2) C d_Kin_roomOf_71 rfl ?_
      refine x_iconst (v := 1) C d_Kin_roomOf_72 rfl ?_
      refine x_iload_n C d_Kin_roomOf_73 rfl ?_
      refine x_iload_n C d_Kin_roomOf_74 rfl ?_
      refine x_callS (As := [.int 1, .int x1, .int x2]) (rest := [.int 2]) C (m_Kin_roomOf (xg X) C.2.2.2.2.2.2.1 d 1 x1 x2 s _ hw) cw_Kin_roomOf ml_Kin_15 rfl ⟨rfl, rfl, by simp only [rm_Kin_roomOf, rm_Kin_roomOf] <;> omega, by simp only [rm_Kin_roomOf, rm_Kin_roomOf] <;> omega⟩ ⟨Nat.zero_le _, Nat.zero_le _⟩ rfl (Nat.le_of_ble_eq_true rfl) d_Kin_roomOf_75 ?_
      rintro _ _ ⟨x18, rfl, rfl, hw⟩
      show V X _ _ _ _ 78 [some (.int x0), some (.int x1), some (.int x2)] [.int x18, .int 2]
      refine x_imul C d_Kin_roomOf_78 ?_
      exact x_ireturn C d_Kin_roomOf_79 ⟨_, rfl, rfl, hw⟩
    have hw := hw.2 c17
    refine x_tswD (tgt := 80) C d_Kin_roomOf_1 (fun j hj => by match j, hj with | 0, _ => exact Or.inr c11 | 1, _ => exact Or.inr c12 | 2, _ => exact Or.inr c13 | 3, _ => exact Or.inl rfl | 4, _ => exact Or.inl rfl | 5, _ => exact Or.inr c14 | 6, _ => exact Or.inr c17 | j + 7, hj => exact absurd hj (by omega)) (by decide) ?_
    refine x_iload_n C d_Kin_roomOf_80 rfl ?_
    exact x_ireturn C d_Kin_roomOf_81 ⟨_, rfl, rfl, hw⟩
def vc_Kin_moreOf (x0 : Int32) (x1 : Int32) (Q : Int32 → Prop) : Prop :=
    ((x0 = 3 → ((x1 = 0 → Q 2) ∧ (¬ x1 = 0 → Q 0))) ∧ (¬ x0 = 3 → ((x0 = 4 → ((x1 = 0 → Q 0) ∧ (¬ x1 = 0 → Q 1))) ∧ (¬ x0 = 4 → Q 0))))
def rm_Kin_moreOf : Room := { frames := 0, cells := 0, slots := 0, locals := 0 }
set_option maxHeartbeats 4000000 in
set_option maxRecDepth 20000 in
theorem m_Kin_moreOf (g : Gx) (hg : gOk g) (x0 : Int32) (x1 : Int32)  (s : St) (Q : Int32 → Prop) (hw : vc_Kin_moreOf x0 x1 Q) : Mc g y_Kin_moreOf b_Kin_moreOf 2 (some FieldType.int) rm_Kin_moreOf [.int x0, .int x1] s (fun v s' => ∃ r : Int32, v = some (.int r) ∧ s = s' ∧ Q r) := by
  refine mc_ofV (j := 0) (L := [some (.int x0), some (.int x1)]) hg (by decide) (Nat.le_of_ble_eq_true rfl) rfl ?_
  intro X hX C
  subst hX
  unfold vc_Kin_moreOf at hw
  refine x_iload_n C d_Kin_moreOf_0 rfl ?_
  by_cases c10 : x0 = 3
  · have hw := hw.1 c10
    refine x_lswIn (v := 3) (off := 27) (tgt := 28) C d_Kin_moreOf_1 (by decide) c10 (by decide) (by decide) ?_
    refine x_iload_n C d_Kin_moreOf_28 rfl ?_
    refine x_if_eq (tgt := 36) C d_Kin_moreOf_29 (by decide) (fun c11 => ?_) (fun c11 => ?_)
    · have hw := hw.1 c11
      refine x_iconst (v := 2) C d_Kin_moreOf_36 rfl ?_
      exact x_ireturn C d_Kin_moreOf_37 ⟨_, rfl, rfl, hw⟩
    · have hw := hw.2 c11
      refine x_iconst (v := 0) C d_Kin_moreOf_32 rfl ?_
      refine x_goto (tgt := 37) C d_Kin_moreOf_33 (by decide) ?_
      exact x_ireturn C d_Kin_moreOf_37 ⟨_, rfl, rfl, hw⟩
  have hw := hw.2 c10
  by_cases c12 : x0 = 4
  · have hw := hw.1 c12
    refine x_lswIn (v := 4) (off := 37) (tgt := 38) C d_Kin_moreOf_1 (by decide) c12 (by decide) (by decide) ?_
    refine x_iload_n C d_Kin_moreOf_38 rfl ?_
    refine x_if_eq (tgt := 46) C d_Kin_moreOf_39 (by decide) (fun c13 => ?_) (fun c13 => ?_)
    · have hw := hw.1 c13
      refine x_iconst (v := 0) C d_Kin_moreOf_46 rfl ?_
      exact x_ireturn C d_Kin_moreOf_47 ⟨_, rfl, rfl, hw⟩
    · have hw := hw.2 c13
      refine x_iconst (v := 1) C d_Kin_moreOf_42 rfl ?_
      refine x_goto (tgt := 47) C d_Kin_moreOf_43 (by decide) ?_
      exact x_ireturn C d_Kin_moreOf_47 ⟨_, rfl, rfl, hw⟩
  have hw := hw.2 c12
  refine x_lswD (tgt := 48) C d_Kin_moreOf_1 (by decide) (fun q hq => ?_) (by decide) ?_
  · simp only [List.mem_cons, List.not_mem_nil, or_false] at hq
    rcases hq with rfl | rfl
    · exact ne_toInt c10
    · exact ne_toInt c12
  refine x_iconst (v := 0) C d_Kin_moreOf_48 rfl ?_
  exact x_ireturn C d_Kin_moreOf_49 ⟨_, rfl, rfl, hw⟩
def vc_Kin_minutesOf : Nat → Int32 → Int32 → Int32 → (Int32 → Prop) → Prop
  | 0, _, _, _, _ => False
  | d + 1, x0, x1, x2, Q =>
    (∃ J10 : Prop, (J10 → Q (2 + x1)) ∧ ((x0 = 1 → Q 1) ∧ (¬ x0 = 1 → ((x0 = 2 → J10) ∧ (¬ x0 = 2 → ((x0 = 3 → J10) ∧ (¬ x0 = 3 → ((x0 = 4 → ((x2 = 0 → Q 1) ∧ (¬ x2 = 0 → Q 5))) ∧ (¬ x0 = 4 → ((x0 = 6 → vc_Kin_minutesOf d 2 x1 x2 (fun x17 => Q (x17 + 5))) ∧ (¬ x0 = 6 → ((x0 = 7 → Q 1) ∧ (¬ x0 = 7 → Q 2)))))))))))))
def rm_Kin_minutesOf (d : Nat) : Room := { frames := 0 + d, cells := 0, slots := 0, locals := 0 + d * 22 }
set_option maxHeartbeats 4000000 in
set_option maxRecDepth 20000 in
theorem m_Kin_minutesOf (g : Gx) (hg : gOk g) : ∀ (d : Nat) (x0 : Int32) (x1 : Int32) (x2 : Int32)  (s : St) (Q : Int32 → Prop) (hw : vc_Kin_minutesOf d x0 x1 x2 Q), Mc g y_Kin_minutesOf b_Kin_minutesOf 3 (some FieldType.int) (rm_Kin_minutesOf d) [.int x0, .int x1, .int x2] s (fun v s' => ∃ r : Int32, v = some (.int r) ∧ s = s' ∧ Q r)
  | 0, x0, x1, x2, s, Q, hw => hw.elim
  | d + 1, x0, x1, x2, s, Q, hw => by
    refine mc_ofV (j := 0) (L := [some (.int x0), some (.int x1), some (.int x2)]) hg (by decide) (Nat.le_of_ble_eq_true rfl) rfl ?_
    intro X hX C
    subst hX
    simp only [vc_Kin_minutesOf] at hw
    refine x_iload_n C d_Kin_minutesOf_0 rfl ?_
    obtain ⟨J10, hJ10, hw⟩ := hw
    have kJ10 : J10 → V X (xQ X (fun v s' => ∃ r : Int32, v = some (.int r) ∧ s = s' ∧ Q r)) 0 0 s 46 [some (.int x0), some (.int x1), some (.int x2)] [] := by
      intro  hv
      have hw := hJ10  hv
      refine x_iconst (v := 2) C d_Kin_minutesOf_46 rfl ?_
      refine x_iload_n C d_Kin_minutesOf_47 rfl ?_
      refine x_iadd C d_Kin_minutesOf_48 ?_
      exact x_ireturn C d_Kin_minutesOf_49 ⟨_, rfl, rfl, hw⟩
    by_cases c11 : x0 = 1
    · have hw := hw.1 c11
      refine x_tswIn (v := 1) (off := 43) (tgt := 44) C d_Kin_minutesOf_1 c11 (by decide) (by decide) rfl (by decide) ?_
      refine x_iconst (v := 1) C d_Kin_minutesOf_44 rfl ?_
      exact x_ireturn C d_Kin_minutesOf_45 ⟨_, rfl, rfl, hw⟩
    have hw := hw.2 c11
    by_cases c12 : x0 = 2
    · have hw := hw.1 c12
      refine x_tswIn (v := 2) (off := 45) (tgt := 46) C d_Kin_minutesOf_1 c12 (by decide) (by decide) rfl (by decide) ?_
      exact x_wk (kJ10  hw) (And.intro rfl (And.intro rfl (And.intro rfl (trivial))))
    have hw := hw.2 c12
    by_cases c13 : x0 = 3
    · have hw := hw.1 c13
      refine x_tswIn (v := 3) (off := 45) (tgt := 46) C d_Kin_minutesOf_1 c13 (by decide) (by decide) rfl (by decide) ?_
      exact x_wk (kJ10  hw) (And.intro rfl (And.intro rfl (And.intro rfl (trivial))))
    have hw := hw.2 c13
    by_cases c14 : x0 = 4
    · have hw := hw.1 c14
      refine x_tswIn (v := 4) (off := 49) (tgt := 50) C d_Kin_minutesOf_1 c14 (by decide) (by decide) rfl (by decide) ?_
      refine x_iload_n C d_Kin_minutesOf_50 rfl ?_
      refine x_if_eq (tgt := 58) C d_Kin_minutesOf_51 (by decide) (fun c15 => ?_) (fun c15 => ?_)
      · have hw := hw.1 c15
        refine x_iconst (v := 1) C d_Kin_minutesOf_58 rfl ?_
        exact x_ireturn C d_Kin_minutesOf_59 ⟨_, rfl, rfl, hw⟩
      · have hw := hw.2 c15
        refine x_iconst (v := 5) C d_Kin_minutesOf_54 rfl ?_
        refine x_goto (tgt := 59) C d_Kin_minutesOf_55 (by decide) ?_
        exact x_ireturn C d_Kin_minutesOf_59 ⟨_, rfl, rfl, hw⟩
    have hw := hw.2 c14
    by_cases c16 : x0 = 6
    · have hw := hw.1 c16
      refine x_tswIn (v := 6) (off := 59) (tgt := 60) C d_Kin_minutesOf_1 c16 (by decide) (by decide) rfl (by decide) ?_
      refine x_iconst (v := 2) C d_Kin_minutesOf_60 rfl ?_
      refine x_iload_n C d_Kin_minutesOf_61 rfl ?_
      refine x_iload_n C d_Kin_minutesOf_62 rfl ?_
      refine x_callS (As := [.int 2, .int x1, .int x2]) (rest := []) C (m_Kin_minutesOf (xg X) C.2.2.2.2.2.2.1 d 2 x1 x2 s _ hw) cw_Kin_minutesOf ml_Kin_21 rfl ⟨rfl, rfl, by simp only [rm_Kin_minutesOf, rm_Kin_minutesOf] <;> omega, by simp only [rm_Kin_minutesOf, rm_Kin_minutesOf] <;> omega⟩ ⟨Nat.zero_le _, Nat.zero_le _⟩ rfl (Nat.le_of_ble_eq_true rfl) d_Kin_minutesOf_63 ?_
      rintro _ _ ⟨x17, rfl, rfl, hw⟩
      show V X _ _ _ _ 66 [some (.int x0), some (.int x1), some (.int x2)] [.int x17]
      refine x_iconst (v := 5) C d_Kin_minutesOf_66 rfl ?_
      refine x_iadd C d_Kin_minutesOf_67 ?_
      exact x_ireturn C d_Kin_minutesOf_68 ⟨_, rfl, rfl, hw⟩
    have hw := hw.2 c16
    by_cases c19 : x0 = 7
    · have hw := hw.1 c19
      refine x_tswIn (v := 7) (off := 43) (tgt := 44) C d_Kin_minutesOf_1 c19 (by decide) (by decide) rfl (by decide) ?_
      refine x_iconst (v := 1) C d_Kin_minutesOf_44 rfl ?_
      exact x_ireturn C d_Kin_minutesOf_45 ⟨_, rfl, rfl, hw⟩
    have hw := hw.2 c19
    refine x_tswD (tgt := 69) C d_Kin_minutesOf_1 (fun j hj => by match j, hj with | 0, _ => exact Or.inr c11 | 1, _ => exact Or.inr c12 | 2, _ => exact Or.inr c13 | 3, _ => exact Or.inr c14 | 4, _ => exact Or.inl rfl | 5, _ => exact Or.inr c16 | 6, _ => exact Or.inr c19 | j + 7, hj => exact absurd hj (by omega)) (by decide) ?_
    refine x_iconst (v := 2) C d_Kin_minutesOf_69 rfl ?_
    exact x_ireturn C d_Kin_minutesOf_70 ⟨_, rfl, rfl, hw⟩
def vc_Kin_costOf : Nat → Int32 → Int32 → (Int32 → Prop) → Prop
  | 0, _, _, _ => False
  | d + 1, x0, x1, Q =>
    ((x0 = 1 → Q 1) ∧ (¬ x0 = 1 → ((x0 = 2 → Q (3 + x1)) ∧ (¬ x0 = 2 → ((x0 = 3 → vc_Kin_costOf d 2 x1 (fun x13 => Q (2 * x13))) ∧ (¬ x0 = 3 → ((x0 = 4 → Q 9) ∧ (¬ x0 = 4 → ((x0 = 5 → Q 4) ∧ (¬ x0 = 5 → ((x0 = 6 → vc_Kin_costOf d 2 x1 (fun x18 => Q (x18 + 9))) ∧ (¬ x0 = 6 → ((x0 = 7 → vc_Kin_costOf d 1 x1 (fun x21 => Q (x21 + x1))) ∧ (¬ x0 = 7 → Q 3))))))))))))))
def rm_Kin_costOf (d : Nat) : Room := { frames := 0 + d, cells := 0, slots := 0, locals := 0 + d * 21 }
set_option maxHeartbeats 4000000 in
set_option maxRecDepth 20000 in
theorem m_Kin_costOf (g : Gx) (hg : gOk g) : ∀ (d : Nat) (x0 : Int32) (x1 : Int32)  (s : St) (Q : Int32 → Prop) (hw : vc_Kin_costOf d x0 x1 Q), Mc g y_Kin_costOf b_Kin_costOf 2 (some FieldType.int) (rm_Kin_costOf d) [.int x0, .int x1] s (fun v s' => ∃ r : Int32, v = some (.int r) ∧ s = s' ∧ Q r)
  | 0, x0, x1, s, Q, hw => hw.elim
  | d + 1, x0, x1, s, Q, hw => by
    refine mc_ofV (j := 0) (L := [some (.int x0), some (.int x1)]) hg (by decide) (Nat.le_of_ble_eq_true rfl) rfl ?_
    intro X hX C
    subst hX
    simp only [vc_Kin_costOf] at hw
    refine x_iload_n C d_Kin_costOf_0 rfl ?_
    by_cases c10 : x0 = 1
    · have hw := hw.1 c10
      refine x_tswIn (v := 1) (off := 43) (tgt := 44) C d_Kin_costOf_1 c10 (by decide) (by decide) rfl (by decide) ?_
      refine x_iconst (v := 1) C d_Kin_costOf_44 rfl ?_
      exact x_ireturn C d_Kin_costOf_45 ⟨_, rfl, rfl, hw⟩
    have hw := hw.2 c10
    by_cases c11 : x0 = 2
    · have hw := hw.1 c11
      refine x_tswIn (v := 2) (off := 45) (tgt := 46) C d_Kin_costOf_1 c11 (by decide) (by decide) rfl (by decide) ?_
      refine x_iconst (v := 3) C d_Kin_costOf_46 rfl ?_
      refine x_iload_n C d_Kin_costOf_47 rfl ?_
      refine x_iadd C d_Kin_costOf_48 ?_
      exact x_ireturn C d_Kin_costOf_49 ⟨_, rfl, rfl, hw⟩
    have hw := hw.2 c11
    by_cases c12 : x0 = 3
    · have hw := hw.1 c12
      refine x_tswIn (v := 3) (off := 49) (tgt := 50) C d_Kin_costOf_1 c12 (by decide) (by decide) rfl (by decide) ?_
      refine x_iconst (v := 2) C d_Kin_costOf_50 rfl ?_
      refine x_iconst (v := 2) C d_Kin_costOf_51 rfl ?_
      refine x_iload_n C d_Kin_costOf_52 rfl ?_
      refine x_callS (As := [.int 2, .int x1]) (rest := [.int 2]) C (m_Kin_costOf (xg X) C.2.2.2.2.2.2.1 d 2 x1 s _ hw) cw_Kin_costOf ml_Kin_25 rfl ⟨rfl, rfl, by simp only [rm_Kin_costOf, rm_Kin_costOf] <;> omega, by simp only [rm_Kin_costOf, rm_Kin_costOf] <;> omega⟩ ⟨Nat.zero_le _, Nat.zero_le _⟩ rfl (Nat.le_of_ble_eq_true rfl) d_Kin_costOf_53 ?_
      rintro _ _ ⟨x13, rfl, rfl, hw⟩
      show V X _ _ _ _ 56 [some (.int x0), some (.int x1)] [.int x13, .int 2]
      refine x_imul C d_Kin_costOf_56 ?_
      exact x_ireturn C d_Kin_costOf_57 ⟨_, rfl, rfl, hw⟩
    have hw := hw.2 c12
    by_cases c15 : x0 = 4
    · have hw := hw.1 c15
      refine x_tswIn (v := 4) (off := 57) (tgt := 58) C d_Kin_costOf_1 c15 (by decide) (by decide) rfl (by decide) ?_
      refine x_bipush (v := 9) C d_Kin_costOf_58 rfl ?_
      exact x_ireturn C d_Kin_costOf_60 ⟨_, rfl, rfl, hw⟩
    have hw := hw.2 c15
    by_cases c16 : x0 = 5
    · have hw := hw.1 c16
      refine x_tswIn (v := 5) (off := 60) (tgt := 61) C d_Kin_costOf_1 c16 (by decide) (by decide) rfl (by decide) ?_
      refine x_iconst (v := 4) C d_Kin_costOf_61 rfl ?_
      exact x_ireturn C d_Kin_costOf_62 ⟨_, rfl, rfl, hw⟩
    have hw := hw.2 c16
    by_cases c17 : x0 = 6
    · have hw := hw.1 c17
      refine x_tswIn (v := 6) (off := 62) (tgt := 63) C d_Kin_costOf_1 c17 (by decide) (by decide) rfl (by decide) ?_
      refine x_iconst (v := 2) C d_Kin_costOf_63 rfl ?_
      refine x_iload_n C d_Kin_costOf_64 rfl ?_
      refine x_callS (As := [.int 2, .int x1]) (rest := []) C (m_Kin_costOf (xg X) C.2.2.2.2.2.2.1 d 2 x1 s _ hw) cw_Kin_costOf ml_Kin_25 rfl ⟨rfl, rfl, by simp only [rm_Kin_costOf, rm_Kin_costOf] <;> omega, by simp only [rm_Kin_costOf, rm_Kin_costOf] <;> omega⟩ ⟨Nat.zero_le _, Nat.zero_le _⟩ rfl (Nat.le_of_ble_eq_true rfl) d_Kin_costOf_65 ?_
      rintro _ _ ⟨x18, rfl, rfl, hw⟩
      show V X _ _ _ _ 68 [some (.int x0), some (.int x1)] [.int x18]
      refine x_bipush (v := 9) C d_Kin_costOf_68 rfl ?_
      refine x_iadd C d_Kin_costOf_70 ?_
      exact x_ireturn C d_Kin_costOf_71 ⟨_, rfl, rfl, hw⟩
    have hw := hw.2 c17
    by_cases c20 : x0 = 7
    · have hw := hw.1 c20
      refine x_tswIn (v := 7) (off := 71) (tgt := 72) C d_Kin_costOf_1 c20 (by decide) (by decide) rfl (by decide) ?_
      refine x_iconst (v := 1) C d_Kin_costOf_72 rfl ?_
      refine x_iload_n C d_Kin_costOf_73 rfl ?_
      refine x_callS (As := [.int 1, .int x1]) (rest := []) C (m_Kin_costOf (xg X) C.2.2.2.2.2.2.1 d 1 x1 s _ hw) cw_Kin_costOf ml_Kin_25 rfl ⟨rfl, rfl, by simp only [rm_Kin_costOf, rm_Kin_costOf] <;> omega, by simp only [rm_Kin_costOf, rm_Kin_costOf] <;> omega⟩ ⟨Nat.zero_le _, Nat.zero_le _⟩ rfl (Nat.le_of_ble_eq_true rfl) d_Kin_costOf_74 ?_
      rintro _ _ ⟨x21, rfl, rfl, hw⟩
      show V X _ _ _ _ 77 [some (.int x0), some (.int x1)] [.int x21]
      refine x_iload_n C d_Kin_costOf_77 rfl ?_
      refine x_iadd C d_Kin_costOf_78 ?_
      exact x_ireturn C d_Kin_costOf_79 ⟨_, rfl, rfl, hw⟩
    have hw := hw.2 c20
    refine x_tswD (tgt := 80) C d_Kin_costOf_1 (fun j hj => by match j, hj with | 0, _ => exact Or.inr c10 | 1, _ => exact Or.inr c11 | 2, _ => exact Or.inr c12 | 3, _ => exact Or.inr c15 | 4, _ => exact Or.inr c16 | 5, _ => exact Or.inr c17 | 6, _ => exact Or.inr c20 | j + 7, hj => exact absurd hj (by omega)) (by decide) ?_
    refine x_iconst (v := 3) C d_Kin_costOf_80 rfl ?_
    exact x_ireturn C d_Kin_costOf_81 ⟨_, rfl, rfl, hw⟩
def vc_Res_search : Nat → Nat → Int32 → Int32 → Int32 → Int32 → St → (St → Prop) → Prop
  | 0, _, _, _, _, _, _, _ => False
  | d + 1, p0, x1, x2, x3, x4, s, Q =>
    ((x4 < (s p0 2) → ((x3 < ((s p0 6) + (x2 / 3)) → ((x1 < (s p0 5) → (vp_in x1 6 ∧ (∀ s14 : St, s14 = wr s (p0 + 2) (Int32.toNatClampNeg x1) 0 → vc_Res_search d p0 (x1 + 1) x2 (x3 + (s14 p0 7)) (x4 + 10) s14 (fun s15 => (vp_in x1 6 ∧ (∀ s17 : St, s17 = wr s15 (p0 + 2) (Int32.toNatClampNeg x1) 1 → vc_Res_search d p0 (x1 + 1) x2 (x3 + (s17 p0 8)) (x4 + 10) s17 (fun s18 => (vp_in x1 6 ∧ (∀ s20 : St, s20 = wr s18 (p0 + 2) (Int32.toNatClampNeg x1) 2 → vc_Res_search d p0 (x1 + 1) (imax 0 (x2 - 1)) x3 (x4 + (s20 p0 9)) s20 (fun s21 => (vp_in x1 6 ∧ (∀ s23 : St, s23 = wr s21 (p0 + 2) (Int32.toNatClampNeg x1) 3 → vc_Res_search d p0 (x1 + 1) (imin 9 (x2 + 1)) (x3 + 1) (x4 + 2) s23 (fun s24 => Q s24))))))))))))) ∧ (¬ x1 < (s p0 5) → Q s))) ∧ (¬ x3 < ((s p0 6) + (x2 / 3)) → (∀ s25 : St, s25 = wr s p0 3 1 → (∀ s26 : St, s26 = wr s25 p0 2 x4 → (∀ s27 : St, s27 = wr s26 p0 1 x1 → (cpok 0 0 6 6 6 ∧ (∀ s29 : St, s29 = wcp s27 (p0 + 2) (p0 + 1) (Int32.toNatClampNeg 0) (Int32.toNatClampNeg 0) (Int32.toNatClampNeg 6) → Q s29)))))))) ∧ (¬ x4 < (s p0 2) → Q s))
def rm_Res_search (d : Nat) : Room := { frames := 1 + d, cells := 0, slots := 0, locals := 26 + d * 24 }
set_option maxHeartbeats 4000000 in
set_option maxRecDepth 20000 in
theorem m_Res_search (g : Gx) (hg : gOk g) : ∀ (d : Nat) (p0 : Nat) (x1 : Int32) (x2 : Int32) (x3 : Int32) (x4 : Int32) (hk0 : kd p0 = 8) (s : St) (Q : St → Prop) (hw : vc_Res_search d p0 x1 x2 x3 x4 s Q), Mc g y_Res_search b_Res_search 5 (none) (rm_Res_search d) [.ref (ga g p0), .int x1, .int x2, .int x3, .int x4] s (fun v s' => v = none ∧ Q s')
  | 0, p0, x1, x2, x3, x4, hk0, s, Q, hw => hw.elim
  | d + 1, p0, x1, x2, x3, x4, hk0, s, Q, hw => by
    refine mc_ofV (j := 0) (L := [some (.ref (ga g p0)), some (.int x1), some (.int x2), some (.int x3), some (.int x4)]) hg (by decide) (Nat.le_of_ble_eq_true rfl) rfl ?_
    intro X hX C
    subst hX
    simp only [vc_Res_search] at hw
    refine x_iload C d_Res_search_0 rfl ?_
    refine x_aload_n C d_Res_search_2 rfl ?_
    refine g_Res_2 (p := p0) C hk0 fl_Res_19 d_Res_search_3 ?_
    refine x_icmp_lt (tgt := 10) C d_Res_search_6 (by decide) (fun c10 => ?_) (fun c10 => ?_)
    · have hw := hw.1 c10
      refine x_aload_n C d_Res_search_10 rfl ?_
      refine g_Res_6 (p := p0) C hk0 fl_Res_32 d_Res_search_11 ?_
      refine x_iload_n C d_Res_search_14 rfl ?_
      refine x_iconst (v := 3) C d_Res_search_15 rfl ?_
      refine x_idiv C d_Res_search_16 (by decide) ?_
      refine x_iadd C d_Res_search_17 ?_
      refine x_iload_n C d_Res_search_18 rfl ?_
      refine x_icmp_gt (tgt := 54) C d_Res_search_19 (by decide) (fun c11 => ?_) (fun c11 => ?_)
      · have hw := hw.1 c11
        refine x_iload_n C d_Res_search_54 rfl ?_
        refine x_aload_n C d_Res_search_55 rfl ?_
        refine g_Res_5 (p := p0) C hk0 fl_Res_29 d_Res_search_56 ?_
        refine x_icmp_lt (tgt := 63) C d_Res_search_59 (by decide) (fun c12 => ?_) (fun c12 => ?_)
        · have hw := hw.1 c12
          refine x_aload_n C d_Res_search_63 rfl ?_
          refine g_Res_4 (p := p0) C hk0 fl_Res_26 d_Res_search_64 ?_
          refine x_iload_n C d_Res_search_67 rfl ?_
          refine x_iconst (v := 0) C d_Res_search_68 rfl ?_
          obtain ⟨h13, hw⟩ := hw
          refine x_iast (p := (p0 + 2)) (n := 6) C (ks_8_2 hk0) h13 d_Res_search_69 ?_
          refine x_st (fun s14 hs14 => ?_)
          have hw := hw s14 hs14
          refine x_aload_n C d_Res_search_70 rfl ?_
          refine x_iload_n C d_Res_search_71 rfl ?_
          refine x_iconst (v := 1) C d_Res_search_72 rfl ?_
          refine x_iadd C d_Res_search_73 ?_
          refine x_iload_n C d_Res_search_74 rfl ?_
          refine x_iload_n C d_Res_search_75 rfl ?_
          refine x_aload_n C d_Res_search_76 rfl ?_
          refine g_Res_7 (p := p0) C hk0 fl_Res_35 d_Res_search_77 ?_
          refine x_iadd C d_Res_search_80 ?_
          refine x_iload C d_Res_search_81 rfl ?_
          refine x_bipush (v := 10) C d_Res_search_83 rfl ?_
          refine x_iadd C d_Res_search_85 ?_
          refine x_callV (As := [.int (x1 + 1), .int x2, .int (x3 + (s14 p0 7)), .int (x4 + 10)]) (rest := []) (p := p0) C (m_Res_search (xg X) C.2.2.2.2.2.2.1 d p0 (x1 + 1) x2 (x3 + (s14 p0 7)) (x4 + 10) hk0 s14 _ hw) cw_Res_search ml_Res_73 hk0 (by decide) (by decide) rfl rfl rfl ⟨rfl, rfl, by simp only [rm_Res_search, rm_Res_search] <;> omega, by simp only [rm_Res_search, rm_Res_search] <;> omega⟩ ⟨Nat.zero_le _, Nat.zero_le _⟩ rfl (Nat.le_of_ble_eq_true rfl) d_Res_search_86 ?_
          rintro _ s15 ⟨rfl, hw⟩
          show V X _ _ _ _ 89 [some (.ref (xa X p0)), some (.int x1), some (.int x2), some (.int x3), some (.int x4)] []
          refine x_aload_n C d_Res_search_89 rfl ?_
          refine g_Res_4 (p := p0) C hk0 fl_Res_26 d_Res_search_90 ?_
          refine x_iload_n C d_Res_search_93 rfl ?_
          refine x_iconst (v := 1) C d_Res_search_94 rfl ?_
          obtain ⟨h16, hw⟩ := hw
          refine x_iast (p := (p0 + 2)) (n := 6) C (ks_8_2 hk0) h16 d_Res_search_95 ?_
          refine x_st (fun s17 hs17 => ?_)
          have hw := hw s17 hs17
          refine x_aload_n C d_Res_search_96 rfl ?_
          refine x_iload_n C d_Res_search_97 rfl ?_
          refine x_iconst (v := 1) C d_Res_search_98 rfl ?_
          refine x_iadd C d_Res_search_99 ?_
          refine x_iload_n C d_Res_search_100 rfl ?_
          refine x_iload_n C d_Res_search_101 rfl ?_
          refine x_aload_n C d_Res_search_102 rfl ?_
          refine g_Res_8 (p := p0) C hk0 fl_Res_38 d_Res_search_103 ?_
          refine x_iadd C d_Res_search_106 ?_
          refine x_iload C d_Res_search_107 rfl ?_
          refine x_bipush (v := 10) C d_Res_search_109 rfl ?_
          refine x_iadd C d_Res_search_111 ?_
          refine x_callV (As := [.int (x1 + 1), .int x2, .int (x3 + (s17 p0 8)), .int (x4 + 10)]) (rest := []) (p := p0) C (m_Res_search (xg X) C.2.2.2.2.2.2.1 d p0 (x1 + 1) x2 (x3 + (s17 p0 8)) (x4 + 10) hk0 s17 _ hw) cw_Res_search ml_Res_73 hk0 (by decide) (by decide) rfl rfl rfl ⟨rfl, rfl, by simp only [rm_Res_search, rm_Res_search] <;> omega, by simp only [rm_Res_search, rm_Res_search] <;> omega⟩ ⟨Nat.zero_le _, Nat.zero_le _⟩ rfl (Nat.le_of_ble_eq_true rfl) d_Res_search_112 ?_
          rintro _ s18 ⟨rfl, hw⟩
          show V X _ _ _ _ 115 [some (.ref (xa X p0)), some (.int x1), some (.int x2), some (.int x3), some (.int x4)] []
          refine x_aload_n C d_Res_search_115 rfl ?_
          refine g_Res_4 (p := p0) C hk0 fl_Res_26 d_Res_search_116 ?_
          refine x_iload_n C d_Res_search_119 rfl ?_
          refine x_iconst (v := 2) C d_Res_search_120 rfl ?_
          obtain ⟨h19, hw⟩ := hw
          refine x_iast (p := (p0 + 2)) (n := 6) C (ks_8_2 hk0) h19 d_Res_search_121 ?_
          refine x_st (fun s20 hs20 => ?_)
          have hw := hw s20 hs20
          refine x_aload_n C d_Res_search_122 rfl ?_
          refine x_iload_n C d_Res_search_123 rfl ?_
          refine x_iconst (v := 1) C d_Res_search_124 rfl ?_
          refine x_iadd C d_Res_search_125 ?_
          refine x_iconst (v := 0) C d_Res_search_126 rfl ?_
          refine x_iload_n C d_Res_search_127 rfl ?_
          refine x_iconst (v := 1) C d_Res_search_128 rfl ?_
          refine x_isub C d_Res_search_129 ?_
          refine x_mmax C ml_Res_83 (by simp [rm_Res_search, Value.category] <;> omega) (by simp [rm_Res_search, Value.category] <;> omega) ⟨Nat.zero_le _, Nat.zero_le _⟩ d_Res_search_130 ?_
          refine x_iload_n C d_Res_search_133 rfl ?_
          refine x_iload C d_Res_search_134 rfl ?_
          refine x_aload_n C d_Res_search_136 rfl ?_
          refine g_Res_9 (p := p0) C hk0 fl_Res_41 d_Res_search_137 ?_
          refine x_iadd C d_Res_search_140 ?_
          refine x_callV (As := [.int (x1 + 1), .int (imax 0 (x2 - 1)), .int x3, .int (x4 + (s20 p0 9))]) (rest := []) (p := p0) C (m_Res_search (xg X) C.2.2.2.2.2.2.1 d p0 (x1 + 1) (imax 0 (x2 - 1)) x3 (x4 + (s20 p0 9)) hk0 s20 _ hw) cw_Res_search ml_Res_73 hk0 (by decide) (by decide) rfl rfl rfl ⟨rfl, rfl, by simp only [rm_Res_search, rm_Res_search] <;> omega, by simp only [rm_Res_search, rm_Res_search] <;> omega⟩ ⟨Nat.zero_le _, Nat.zero_le _⟩ rfl (Nat.le_of_ble_eq_true rfl) d_Res_search_141 ?_
          rintro _ s21 ⟨rfl, hw⟩
          show V X _ _ _ _ 144 [some (.ref (xa X p0)), some (.int x1), some (.int x2), some (.int x3), some (.int x4)] []
          refine x_aload_n C d_Res_search_144 rfl ?_
          refine g_Res_4 (p := p0) C hk0 fl_Res_26 d_Res_search_145 ?_
          refine x_iload_n C d_Res_search_148 rfl ?_
          refine x_iconst (v := 3) C d_Res_search_149 rfl ?_
          obtain ⟨h22, hw⟩ := hw
          refine x_iast (p := (p0 + 2)) (n := 6) C (ks_8_2 hk0) h22 d_Res_search_150 ?_
          refine x_st (fun s23 hs23 => ?_)
          have hw := hw s23 hs23
          refine x_aload_n C d_Res_search_151 rfl ?_
          refine x_iload_n C d_Res_search_152 rfl ?_
          refine x_iconst (v := 1) C d_Res_search_153 rfl ?_
          refine x_iadd C d_Res_search_154 ?_
          refine x_bipush (v := 9) C d_Res_search_155 rfl ?_
          refine x_iload_n C d_Res_search_157 rfl ?_
          refine x_iconst (v := 1) C d_Res_search_158 rfl ?_
          refine x_iadd C d_Res_search_159 ?_
          refine x_mmin C ml_Res_55 (by simp [rm_Res_search, Value.category] <;> omega) (by simp [rm_Res_search, Value.category] <;> omega) ⟨Nat.zero_le _, Nat.zero_le _⟩ d_Res_search_160 ?_
          refine x_iload_n C d_Res_search_163 rfl ?_
          refine x_iconst (v := 1) C d_Res_search_164 rfl ?_
          refine x_iadd C d_Res_search_165 ?_
          refine x_iload C d_Res_search_166 rfl ?_
          refine x_iconst (v := 2) C d_Res_search_168 rfl ?_
          refine x_iadd C d_Res_search_169 ?_
          refine x_callV (As := [.int (x1 + 1), .int (imin 9 (x2 + 1)), .int (x3 + 1), .int (x4 + 2)]) (rest := []) (p := p0) C (m_Res_search (xg X) C.2.2.2.2.2.2.1 d p0 (x1 + 1) (imin 9 (x2 + 1)) (x3 + 1) (x4 + 2) hk0 s23 _ hw) cw_Res_search ml_Res_73 hk0 (by decide) (by decide) rfl rfl rfl ⟨rfl, rfl, by simp only [rm_Res_search, rm_Res_search] <;> omega, by simp only [rm_Res_search, rm_Res_search] <;> omega⟩ ⟨Nat.zero_le _, Nat.zero_le _⟩ rfl (Nat.le_of_ble_eq_true rfl) d_Res_search_170 ?_
          rintro _ s24 ⟨rfl, hw⟩
          show V X _ _ _ _ 173 [some (.ref (xa X p0)), some (.int x1), some (.int x2), some (.int x3), some (.int x4)] []
          exact x_return C d_Res_search_173 ⟨rfl, hw⟩
        · have hw := hw.2 c12
          exact x_return C d_Res_search_62 ⟨rfl, hw⟩
      · have hw := hw.2 c11
        refine x_aload_n C d_Res_search_22 rfl ?_
        refine x_iconst (v := 1) C d_Res_search_23 rfl ?_
        refine p_Res_3 (p := p0) C hk0 fl_Res_22 ⟨rfl, rfl⟩ d_Res_search_24 ?_
        refine x_st (fun s25 hs25 => ?_)
        have hw := hw s25 hs25
        refine x_aload_n C d_Res_search_27 rfl ?_
        refine x_iload C d_Res_search_28 rfl ?_
        refine p_Res_2 (p := p0) C hk0 fl_Res_19 d_Res_search_30 ?_
        refine x_st (fun s26 hs26 => ?_)
        have hw := hw s26 hs26
        refine x_aload_n C d_Res_search_33 rfl ?_
        refine x_iload_n C d_Res_search_34 rfl ?_
        refine p_Res_1 (p := p0) C hk0 fl_Res_15 d_Res_search_35 ?_
        refine x_st (fun s27 hs27 => ?_)
        have hw := hw s27 hs27
        refine x_aload_n C d_Res_search_38 rfl ?_
        refine g_Res_4 (p := p0) C hk0 fl_Res_26 d_Res_search_39 ?_
        refine x_iconst (v := 0) C d_Res_search_42 rfl ?_
        refine x_aload_n C d_Res_search_43 rfl ?_
        refine g_Res_0 (p := p0) C hk0 fl_Res_9 d_Res_search_44 ?_
        refine x_iconst (v := 0) C d_Res_search_47 rfl ?_
        refine x_bipush (v := 6) C d_Res_search_48 rfl ?_
        obtain ⟨h28, hw⟩ := hw
        refine x_copy (d := (p0 + 2)) (e := (p0 + 1)) (n0 := 6) (n1 := 6) C (ks_8_2 hk0) (ks_8_1 hk0) h28 ml_Res_77 (by simp [rm_Res_search, Value.category] <;> omega) (by simp [rm_Res_search, Value.category] <;> omega) d_Res_search_50 ?_
        refine x_st (fun s29 hs29 => ?_)
        have hw := hw s29 hs29
        exact x_return C d_Res_search_53 ⟨rfl, hw⟩
    · have hw := hw.2 c10
      exact x_return C d_Res_search_9 ⟨rfl, hw⟩
def vc_Res_find (p0 : Nat) (p1 : Nat) (x2 : Int32) (x3 : Int32) (x4 : Int32) (s : St) (Q : St → Prop) : Prop :=
    (vp_in x2 6 ∧ (∀ x11 : Int32, x11 = s (p1 + 10 + 3) (Int32.toNatClampNeg x2) → (∀ s12 : St, s12 = wr s p0 5 (imin x4 6) → vc_Cav_lackingOf p1 x2 x3 s12 (fun x13 => (∀ s15 : St, s15 = wr s12 p0 6 (x13 - (x11 / 3)) → vc_Bod_strongestPullBut (p1 + 10) x2 s15 (fun x16 => (∀ s18 : St, s18 = wr s15 p0 7 (x16 / 3) → vc_Bod_weakestPullBut (p1 + 10) x2 s18 (fun x19 => (∀ s21 : St, s21 = wr s18 p0 8 (x19 / 3) → (∀ s22 : St, s22 = wr s21 p0 9 (s21 p1 3) → (∀ s23 : St, s23 = wr s22 p0 3 0 → (∀ s24 : St, s24 = wr s23 p0 1 0 → (∀ s25 : St, s25 = wr s24 p0 2 2147483647 → vc_Res_search 8 p0 0 x11 0 0 s25 (fun s26 => Q s26))))))))))))))
def rm_Res_find : Room := { frames := 10, cells := 0, slots := 0, locals := 242 }
set_option maxHeartbeats 4000000 in
set_option maxRecDepth 20000 in
theorem m_Res_find (g : Gx) (hg : gOk g) (p0 : Nat) (p1 : Nat) (x2 : Int32) (x3 : Int32) (x4 : Int32) (hk0 : kd p0 = 8) (hk1 : kd p1 = 2) (s : St) (Q : St → Prop) (hw : vc_Res_find p0 p1 x2 x3 x4 s Q) : Mc g y_Res_find b_Res_find 6 (none) rm_Res_find [.ref (ga g p0), .ref (ga g p1), .int x2, .int x3, .int x4] s (fun v s' => v = none ∧ Q s') := by
  refine mc_ofV (j := 1) (L := [some (.ref (ga g p0)), some (.ref (ga g p1)), some (.int x2), some (.int x3), some (.int x4), none]) hg (by decide) (Nat.le_of_ble_eq_true rfl) rfl ?_
  intro X hX C
  subst hX
  unfold vc_Res_find at hw
  refine x_aload_n C d_Res_find_0 rfl ?_
  refine g_Cav_1 (p := p1) C hk1 fl_Res_44 d_Res_find_1 ?_
  refine g_Bod_3 (p := (p1 + 10)) C (ks_2_10 hk1) fl_Res_50 d_Res_find_4 ?_
  refine x_iload_n C d_Res_find_7 rfl ?_
  obtain ⟨h10, hw⟩ := hw
  refine x_iald (p := (p1 + 10 + 3)) (n := 6) C (ks_4_3 (ks_2_10 hk1)) h10 d_Res_find_8 ?_
  refine x_nm (fun x11 hx11 => ?_)
  have hw := hw x11 hx11
  refine x_istore (L' := [some (.ref (xa X p0)), some (.ref (xa X p1)), some (.int x2), some (.int x3), some (.int x4), some (.int x11)]) C d_Res_find_9 (Nat.le_of_ble_eq_true rfl) rfl ?_
  refine x_aload_n C d_Res_find_11 rfl ?_
  refine x_iload C d_Res_find_12 rfl ?_
  refine x_bipush (v := 6) C d_Res_find_14 rfl ?_
  refine x_mmin C ml_Res_55 (Nat.le_of_ble_eq_true rfl) (Nat.le_of_ble_eq_true rfl) ⟨Nat.zero_le _, Nat.zero_le _⟩ d_Res_find_16 ?_
  refine p_Res_5 (p := p0) C hk0 fl_Res_29 d_Res_find_19 ?_
  refine x_st (fun s12 hs12 => ?_)
  have hw := hw s12 hs12
  refine x_aload_n C d_Res_find_22 rfl ?_
  refine x_aload_n C d_Res_find_23 rfl ?_
  refine x_iload_n C d_Res_find_24 rfl ?_
  refine x_iload_n C d_Res_find_25 rfl ?_
  refine x_callV (As := [.int x2, .int x3]) (rest := [.ref (xa X p0)]) (p := p1) C (m_Cav_lackingOf (xg X) C.2.2.2.2.2.2.1 p1 x2 x3 hk1 s12 _ hw) cw_Cav_lackingOf ml_Res_61 hk1 (by decide) (by decide) rfl rfl rfl ⟨rfl, rfl, Nat.le_of_ble_eq_true rfl, Nat.le_of_ble_eq_true rfl⟩ ⟨Nat.zero_le _, Nat.zero_le _⟩ rfl (Nat.le_of_ble_eq_true rfl) d_Res_find_26 ?_
  rintro _ _ ⟨x13, rfl, rfl, hw⟩
  show V X _ _ _ _ 29 [some (.ref (xa X p0)), some (.ref (xa X p1)), some (.int x2), some (.int x3), some (.int x4), some (.int x11)] [.int x13, .ref (xa X p0)]
  refine x_iload C d_Res_find_29 rfl ?_
  refine x_iconst (v := 3) C d_Res_find_31 rfl ?_
  refine x_idiv C d_Res_find_32 (by decide) ?_
  refine x_isub C d_Res_find_33 ?_
  refine p_Res_6 (p := p0) C hk0 fl_Res_32 d_Res_find_34 ?_
  refine x_st (fun s15 hs15 => ?_)
  have hw := hw s15 hs15
  refine x_aload_n C d_Res_find_37 rfl ?_
  refine x_aload_n C d_Res_find_38 rfl ?_
  refine g_Cav_1 (p := p1) C hk1 fl_Res_44 d_Res_find_39 ?_
  refine x_iload_n C d_Res_find_42 rfl ?_
  refine x_callV (As := [.int x2]) (rest := [.ref (xa X p0)]) (p := (p1 + 10)) C (m_Bod_strongestPullBut (xg X) C.2.2.2.2.2.2.1 (p1 + 10) x2 (ks_2_10 hk1) s15 _ hw) cw_Bod_strongestPullBut ml_Res_64 (ks_2_10 hk1) (by decide) (by decide) rfl rfl rfl ⟨rfl, rfl, Nat.le_of_ble_eq_true rfl, Nat.le_of_ble_eq_true rfl⟩ ⟨Nat.zero_le _, Nat.zero_le _⟩ rfl (Nat.le_of_ble_eq_true rfl) d_Res_find_43 ?_
  rintro _ _ ⟨x16, rfl, rfl, hw⟩
  show V X _ _ _ _ 46 [some (.ref (xa X p0)), some (.ref (xa X p1)), some (.int x2), some (.int x3), some (.int x4), some (.int x11)] [.int x16, .ref (xa X p0)]
  refine x_iconst (v := 3) C d_Res_find_46 rfl ?_
  refine x_idiv C d_Res_find_47 (by decide) ?_
  refine p_Res_7 (p := p0) C hk0 fl_Res_35 d_Res_find_48 ?_
  refine x_st (fun s18 hs18 => ?_)
  have hw := hw s18 hs18
  refine x_aload_n C d_Res_find_51 rfl ?_
  refine x_aload_n C d_Res_find_52 rfl ?_
  refine g_Cav_1 (p := p1) C hk1 fl_Res_44 d_Res_find_53 ?_
  refine x_iload_n C d_Res_find_56 rfl ?_
  refine x_callV (As := [.int x2]) (rest := [.ref (xa X p0)]) (p := (p1 + 10)) C (m_Bod_weakestPullBut (xg X) C.2.2.2.2.2.2.1 (p1 + 10) x2 (ks_2_10 hk1) s18 _ hw) cw_Bod_weakestPullBut ml_Res_68 (ks_2_10 hk1) (by decide) (by decide) rfl rfl rfl ⟨rfl, rfl, Nat.le_of_ble_eq_true rfl, Nat.le_of_ble_eq_true rfl⟩ ⟨Nat.zero_le _, Nat.zero_le _⟩ rfl (Nat.le_of_ble_eq_true rfl) d_Res_find_57 ?_
  rintro _ _ ⟨x19, rfl, rfl, hw⟩
  show V X _ _ _ _ 60 [some (.ref (xa X p0)), some (.ref (xa X p1)), some (.int x2), some (.int x3), some (.int x4), some (.int x11)] [.int x19, .ref (xa X p0)]
  refine x_iconst (v := 3) C d_Res_find_60 rfl ?_
  refine x_idiv C d_Res_find_61 (by decide) ?_
  refine p_Res_8 (p := p0) C hk0 fl_Res_38 d_Res_find_62 ?_
  refine x_st (fun s21 hs21 => ?_)
  have hw := hw s21 hs21
  refine x_aload_n C d_Res_find_65 rfl ?_
  refine x_aload_n C d_Res_find_66 rfl ?_
  refine g_Cav_3 (p := p1) C hk1 fl_Res_71 d_Res_find_67 ?_
  refine p_Res_9 (p := p0) C hk0 fl_Res_41 d_Res_find_70 ?_
  refine x_st (fun s22 hs22 => ?_)
  have hw := hw s22 hs22
  refine x_aload_n C d_Res_find_73 rfl ?_
  refine x_iconst (v := 0) C d_Res_find_74 rfl ?_
  refine p_Res_3 (p := p0) C hk0 fl_Res_22 ⟨rfl, rfl⟩ d_Res_find_75 ?_
  refine x_st (fun s23 hs23 => ?_)
  have hw := hw s23 hs23
  refine x_aload_n C d_Res_find_78 rfl ?_
  refine x_iconst (v := 0) C d_Res_find_79 rfl ?_
  refine p_Res_1 (p := p0) C hk0 fl_Res_15 d_Res_find_80 ?_
  refine x_st (fun s24 hs24 => ?_)
  have hw := hw s24 hs24
  refine x_aload_n C d_Res_find_83 rfl ?_
  refine x_ldc (v := 2147483647) C d_Res_find_84 lc_Res_72 ?_
  refine p_Res_2 (p := p0) C hk0 fl_Res_19 d_Res_find_86 ?_
  refine x_st (fun s25 hs25 => ?_)
  have hw := hw s25 hs25
  refine x_aload_n C d_Res_find_89 rfl ?_
  refine x_iconst (v := 0) C d_Res_find_90 rfl ?_
  refine x_iload C d_Res_find_91 rfl ?_
  refine x_iconst (v := 0) C d_Res_find_93 rfl ?_
  refine x_iconst (v := 0) C d_Res_find_94 rfl ?_
  refine x_callV (As := [.int 0, .int x11, .int 0, .int 0]) (rest := []) (p := p0) C (m_Res_search (xg X) C.2.2.2.2.2.2.1 8 p0 0 x11 0 0 hk0 s25 _ hw) cw_Res_search ml_Res_73 hk0 (by decide) (by decide) rfl rfl rfl ⟨rfl, rfl, Nat.le_of_ble_eq_true rfl, Nat.le_of_ble_eq_true rfl⟩ ⟨Nat.zero_le _, Nat.zero_le _⟩ rfl (Nat.le_of_ble_eq_true rfl) d_Res_find_95 ?_
  rintro _ s26 ⟨rfl, hw⟩
  show V X _ _ _ _ 98 [some (.ref (xa X p0)), some (.ref (xa X p1)), some (.int x2), some (.int x3), some (.int x4), some (.int x11)] []
  exact x_return C d_Res_find_98 ⟨rfl, hw⟩
def vc_She_holdKind (p0 : Nat) (x1 : Int32) (x2 : Int32) (s : St) (Q : St → Prop) : Prop :=
    (∀ s10 : St, s10 = wr s p0 0 1 → (∀ s11 : St, s11 = wr s10 p0 1 x1 → (∀ s12 : St, s12 = wr s11 p0 2 x2 → Q s12)))
def rm_She_holdKind : Room := { frames := 0, cells := 0, slots := 0, locals := 0 }
set_option maxHeartbeats 4000000 in
set_option maxRecDepth 20000 in
theorem m_She_holdKind (g : Gx) (hg : gOk g) (p0 : Nat) (x1 : Int32) (x2 : Int32) (hk0 : kd p0 = 9) (s : St) (Q : St → Prop) (hw : vc_She_holdKind p0 x1 x2 s Q) : Mc g y_She_holdKind b_She_holdKind 3 (none) rm_She_holdKind [.ref (ga g p0), .int x1, .int x2] s (fun v s' => v = none ∧ Q s') := by
  refine mc_ofV (j := 0) (L := [some (.ref (ga g p0)), some (.int x1), some (.int x2)]) hg (by decide) (Nat.le_of_ble_eq_true rfl) rfl ?_
  intro X hX C
  subst hX
  unfold vc_She_holdKind at hw
  refine x_aload_n C d_She_holdKind_0 rfl ?_
  refine x_iconst (v := 1) C d_She_holdKind_1 rfl ?_
  refine p_She_0 (p := p0) C hk0 fl_She_9 d_She_holdKind_2 ?_
  refine x_st (fun s10 hs10 => ?_)
  have hw := hw s10 hs10
  refine x_aload_n C d_She_holdKind_5 rfl ?_
  refine x_iload_n C d_She_holdKind_6 rfl ?_
  refine p_She_1 (p := p0) C hk0 fl_She_15 d_She_holdKind_7 ?_
  refine x_st (fun s11 hs11 => ?_)
  have hw := hw s11 hs11
  refine x_aload_n C d_She_holdKind_10 rfl ?_
  refine x_iload_n C d_She_holdKind_11 rfl ?_
  refine p_She_2 (p := p0) C hk0 fl_She_18 d_She_holdKind_12 ?_
  refine x_st (fun s12 hs12 => ?_)
  have hw := hw s12 hs12
  exact x_return C d_She_holdKind_15 ⟨rfl, hw⟩
def vc_Arr_fill (p0 : Nat) (n0 : Nat) (x1 : Int32) (s : St) (Q : St → Prop) : Prop :=
    (∀ x10 : Int32, x10 = nI n0 → (∃ I13 : Nat → Int32 → St → Prop, (∃ n14, I13 n14 0 s) ∧ ∀ (nI13 : Nat) (x11 : Int32) (s12 : St), I13 nI13 x11 s12 → ((x10 ≤ x11 → Q s12) ∧ (¬ x10 ≤ x11 → (vp_in x11 n0 ∧ (∀ s17 : St, s17 = wr s12 p0 (Int32.toNatClampNeg x11) x1 → (∀ x18 : Int32, x18 = x11 + 1 → ∃ m19, m19 < nI13 ∧ I13 m19 x18 s17)))))))
def rm_Arr_fill : Room := { frames := 0, cells := 0, slots := 0, locals := 0 }
set_option maxHeartbeats 4000000 in
set_option maxRecDepth 20000 in
theorem m_Arr_fill (g : Gx) (hg : gOk g) (p0 : Nat) (n0 : Nat) (x1 : Int32) (hk0 : kd p0 = 100 + n0) (s : St) (Q : St → Prop) (hw : vc_Arr_fill p0 n0 x1 s Q) : Mc g y_Arr_fill b_Arr_fill 4 (none) rm_Arr_fill [.ref (ga g p0), .int x1] s (fun v s' => v = none ∧ Q s') := by
  refine mc_ofV (j := 2) (L := [some (.ref (ga g p0)), some (.int x1), none, none]) hg (by decide) (Nat.le_of_ble_eq_true rfl) rfl ?_
  intro X hX C
  subst hX
  unfold vc_Arr_fill at hw
  refine x_iconst (v := 0) C d_Arr_fill_0 rfl ?_
  refine x_istore_n (L' := [some (.ref (xa X p0)), some (.int x1), some (.int 0), none]) C d_Arr_fill_1 (Nat.le_of_ble_eq_true rfl) rfl ?_
  refine x_aload_n C d_Arr_fill_2 rfl ?_
  refine x_alen (p := p0) (n := n0) C hk0 d_Arr_fill_3 ?_
  refine x_nm (fun x10 hx10 => ?_)
  have hw := hw x10 hx10
  refine x_istore_n (L' := [some (.ref (xa X p0)), some (.int x1), some (.int 0), some (.int x10)]) C d_Arr_fill_4 (Nat.le_of_ble_eq_true rfl) rfl ?_
  obtain ⟨I13, ⟨n14, hn14⟩, hI13⟩ := hw
  have lI13 : ∀ (nI13 : Nat) (x11 : Int32) (s12 : St), I13 nI13 x11 s12 → V X (xQ X (fun v s' => v = none ∧ Q s')) 0 0 s12 5 [some (.ref (xa X p0)), some (.int x1), some (.int x11), some (.int x10)] [] := by
    intro nI13
    induction nI13 using Nat.strongRecOn with
    | ind nI13 ihI13 =>
      intro x11 s12 hv
      have hw := hI13 nI13 x11 s12 hv
      refine x_iload_n C d_Arr_fill_5 rfl ?_
      refine x_iload_n C d_Arr_fill_6 rfl ?_
      refine x_icmp_ge (tgt := 20) C d_Arr_fill_7 (by decide) (fun c15 => ?_) (fun c15 => ?_)
      · have hw := hw.1 c15
        exact x_return C d_Arr_fill_20 ⟨rfl, hw⟩
      · have hw := hw.2 c15
        refine x_aload_n C d_Arr_fill_10 rfl ?_
        refine x_iload_n C d_Arr_fill_11 rfl ?_
        refine x_iload_n C d_Arr_fill_12 rfl ?_
        obtain ⟨h16, hw⟩ := hw
        refine x_iast (p := p0) (n := n0) C hk0 h16 d_Arr_fill_13 ?_
        refine x_st (fun s17 hs17 => ?_)
        have hw := hw s17 hs17
        obtain ⟨x18, hx18⟩ : ∃ z : Int32, z = x11 + 1 := ⟨_, rfl⟩
        refine x_iinc (v := x18) (L' := [some (.ref (xa X p0)), some (.int x1), some (.int x18), some (.int x10)]) C d_Arr_fill_14 (Nat.le_of_ble_eq_true rfl) rfl (by rw [hx18]; rfl) rfl ?_
        have hw := hw x18 hx18
        refine x_goto (tgt := 5) C d_Arr_fill_17 (by decide) ?_
        obtain ⟨m19, hm19, hw⟩ := hw
        exact x_wk (ihI13 m19 hm19 x18 s17 hw) (And.intro rfl (And.intro rfl (And.intro rfl (And.intro rfl (trivial)))))
  exact x_wk (lI13 n14 0 s hn14) (And.intro rfl (And.intro rfl (And.intro rfl (And.intro rfl (trivial)))))
