theorem d_Mod_wrongRock_0 : decode b_Mod_wrongRock 0 = .ok (.aload_n 0, 1) := by decide +kernel
theorem d_Mod_wrongRock_1 : decode b_Mod_wrongRock 1 = .ok (.iload_n 1, 1) := by decide +kernel
theorem d_Mod_wrongRock_2 : decode b_Mod_wrongRock 2 = .ok (.iconst 0, 1) := by decide +kernel
theorem d_Mod_wrongRock_3 : decode b_Mod_wrongRock 3 = .ok (.invokevirtual 73, 3) := by decide +kernel
theorem d_Mod_wrongRock_6 : decode b_Mod_wrongRock 6 = .ok (.istore 4, 2) := by decide +kernel
theorem d_Mod_wrongRock_8 : decode b_Mod_wrongRock 8 = .ok (.aload_n 0, 1) := by decide +kernel
theorem d_Mod_wrongRock_9 : decode b_Mod_wrongRock 9 = .ok (.getfield 49, 3) := by decide +kernel
theorem d_Mod_wrongRock_12 : decode b_Mod_wrongRock 12 = .ok (.iload_n 2, 1) := by decide +kernel
theorem d_Mod_wrongRock_13 : decode b_Mod_wrongRock 13 = .ok (.iaload, 1) := by decide +kernel
theorem d_Mod_wrongRock_14 : decode b_Mod_wrongRock 14 = .ok (.istore 5, 2) := by decide +kernel
theorem d_Mod_wrongRock_16 : decode b_Mod_wrongRock 16 = .ok (.aload_n 0, 1) := by decide +kernel
theorem d_Mod_wrongRock_17 : decode b_Mod_wrongRock 17 = .ok (.getfield 9, 3) := by decide +kernel
theorem d_Mod_wrongRock_20 : decode b_Mod_wrongRock 20 = .ok (.iload_n 1, 1) := by decide +kernel
theorem d_Mod_wrongRock_21 : decode b_Mod_wrongRock 21 = .ok (.iconst 0, 1) := by decide +kernel
theorem d_Mod_wrongRock_22 : decode b_Mod_wrongRock 22 = .ok (.invokestatic 59, 3) := by decide +kernel
theorem d_Mod_wrongRock_25 : decode b_Mod_wrongRock 25 = .ok (.iload_n 3, 1) := by decide +kernel
theorem d_Mod_wrongRock_26 : decode b_Mod_wrongRock 26 = .ok (.iastore, 1) := by decide +kernel
theorem d_Mod_wrongRock_27 : decode b_Mod_wrongRock 27 = .ok (.aload_n 0, 1) := by decide +kernel
theorem d_Mod_wrongRock_28 : decode b_Mod_wrongRock 28 = .ok (.getfield 49, 3) := by decide +kernel
theorem d_Mod_wrongRock_31 : decode b_Mod_wrongRock 31 = .ok (.iload_n 2, 1) := by decide +kernel
theorem d_Mod_wrongRock_32 : decode b_Mod_wrongRock 32 = .ok (.iaload, 1) := by decide +kernel
theorem d_Mod_wrongRock_33 : decode b_Mod_wrongRock 33 = .ok (.iconst 1, 1) := by decide +kernel
theorem d_Mod_wrongRock_34 : decode b_Mod_wrongRock 34 = .ok (.isub, 1) := by decide +kernel
theorem d_Mod_wrongRock_35 : decode b_Mod_wrongRock 35 = .ok (.istore 6, 2) := by decide +kernel
theorem d_Mod_wrongRock_37 : decode b_Mod_wrongRock 37 = .ok (.iload 6, 2) := by decide +kernel
theorem d_Mod_wrongRock_39 : decode b_Mod_wrongRock 39 = .ok (.ifCond .lt 57, 3) := by decide +kernel
theorem d_Mod_wrongRock_42 : decode b_Mod_wrongRock 42 = .ok (.aload_n 0, 1) := by decide +kernel
theorem d_Mod_wrongRock_43 : decode b_Mod_wrongRock 43 = .ok (.getfield 52, 3) := by decide +kernel
theorem d_Mod_wrongRock_46 : decode b_Mod_wrongRock 46 = .ok (.bipush 100, 2) := by decide +kernel
theorem d_Mod_wrongRock_48 : decode b_Mod_wrongRock 48 = .ok (.iload_n 2, 1) := by decide +kernel
theorem d_Mod_wrongRock_49 : decode b_Mod_wrongRock 49 = .ok (.imul, 1) := by decide +kernel
theorem d_Mod_wrongRock_50 : decode b_Mod_wrongRock 50 = .ok (.iload 6, 2) := by decide +kernel
theorem d_Mod_wrongRock_52 : decode b_Mod_wrongRock 52 = .ok (.iadd, 1) := by decide +kernel
theorem d_Mod_wrongRock_53 : decode b_Mod_wrongRock 53 = .ok (.iaload, 1) := by decide +kernel
theorem d_Mod_wrongRock_54 : decode b_Mod_wrongRock 54 = .ok (.istore 7, 2) := by decide +kernel
theorem d_Mod_wrongRock_56 : decode b_Mod_wrongRock 56 = .ok (.iload 7, 2) := by decide +kernel
theorem d_Mod_wrongRock_58 : decode b_Mod_wrongRock 58 = .ok (.aload_n 0, 1) := by decide +kernel
theorem d_Mod_wrongRock_59 : decode b_Mod_wrongRock 59 = .ok (.getfield 46, 3) := by decide +kernel
theorem d_Mod_wrongRock_62 : decode b_Mod_wrongRock 62 = .ok (.iload_n 2, 1) := by decide +kernel
theorem d_Mod_wrongRock_63 : decode b_Mod_wrongRock 63 = .ok (.iaload, 1) := by decide +kernel
theorem d_Mod_wrongRock_64 : decode b_Mod_wrongRock 64 = .ok (.invokestatic 257, 3) := by decide +kernel
theorem d_Mod_wrongRock_67 : decode b_Mod_wrongRock 67 = .ok (.if_icmp .eq 23, 3) := by decide +kernel
theorem d_Mod_wrongRock_70 : decode b_Mod_wrongRock 70 = .ok (.iload 7, 2) := by decide +kernel
theorem d_Mod_wrongRock_72 : decode b_Mod_wrongRock 72 = .ok (.aload_n 0, 1) := by decide +kernel
theorem d_Mod_wrongRock_73 : decode b_Mod_wrongRock 73 = .ok (.iload_n 1, 1) := by decide +kernel
theorem d_Mod_wrongRock_74 : decode b_Mod_wrongRock 74 = .ok (.iload 6, 2) := by decide +kernel
theorem d_Mod_wrongRock_76 : decode b_Mod_wrongRock 76 = .ok (.aload_n 0, 1) := by decide +kernel
theorem d_Mod_wrongRock_77 : decode b_Mod_wrongRock 77 = .ok (.invokevirtual 203, 3) := by decide +kernel
theorem d_Mod_wrongRock_80 : decode b_Mod_wrongRock 80 = .ok (.invokevirtual 94, 3) := by decide +kernel
theorem d_Mod_wrongRock_83 : decode b_Mod_wrongRock 83 = .ok (.if_icmp .eq 7, 3) := by decide +kernel
theorem d_Mod_wrongRock_86 : decode b_Mod_wrongRock 86 = .ok (.iload 6, 2) := by decide +kernel
theorem d_Mod_wrongRock_88 : decode b_Mod_wrongRock 88 = .ok (.istore 5, 2) := by decide +kernel
theorem d_Mod_wrongRock_90 : decode b_Mod_wrongRock 90 = .ok (.iinc 6 (-1), 3) := by decide +kernel
theorem d_Mod_wrongRock_93 : decode b_Mod_wrongRock 93 = .ok (.goto (-56), 3) := by decide +kernel
theorem d_Mod_wrongRock_96 : decode b_Mod_wrongRock 96 = .ok (.aload_n 0, 1) := by decide +kernel
theorem d_Mod_wrongRock_97 : decode b_Mod_wrongRock 97 = .ok (.getfield 9, 3) := by decide +kernel
theorem d_Mod_wrongRock_100 : decode b_Mod_wrongRock 100 = .ok (.iload_n 1, 1) := by decide +kernel
theorem d_Mod_wrongRock_101 : decode b_Mod_wrongRock 101 = .ok (.iconst 0, 1) := by decide +kernel
theorem d_Mod_wrongRock_102 : decode b_Mod_wrongRock 102 = .ok (.invokestatic 59, 3) := by decide +kernel
theorem d_Mod_wrongRock_105 : decode b_Mod_wrongRock 105 = .ok (.iload 4, 2) := by decide +kernel
theorem d_Mod_wrongRock_107 : decode b_Mod_wrongRock 107 = .ok (.iastore, 1) := by decide +kernel
theorem d_Mod_wrongRock_108 : decode b_Mod_wrongRock 108 = .ok (.iload 5, 2) := by decide +kernel
theorem d_Mod_wrongRock_110 : decode b_Mod_wrongRock 110 = .ok (.ireturn, 1) := by decide +kernel
theorem d_Mod_wrongRocks_0 : decode b_Mod_wrongRocks 0 = .ok (.aload_n 0, 1) := by decide +kernel
theorem d_Mod_wrongRocks_1 : decode b_Mod_wrongRocks 1 = .ok (.iload_n 1, 1) := by decide +kernel
theorem d_Mod_wrongRocks_2 : decode b_Mod_wrongRocks 2 = .ok (.invokevirtual 179, 3) := by decide +kernel
theorem d_Mod_wrongRocks_5 : decode b_Mod_wrongRocks 5 = .ok (.ifCond .ne 5, 3) := by decide +kernel
theorem d_Mod_wrongRocks_8 : decode b_Mod_wrongRocks 8 = .ok (.iconst (-1), 1) := by decide +kernel
theorem d_Mod_wrongRocks_9 : decode b_Mod_wrongRocks 9 = .ok (.ireturn, 1) := by decide +kernel
theorem d_Mod_wrongRocks_10 : decode b_Mod_wrongRocks 10 = .ok (.aload_n 0, 1) := by decide +kernel
theorem d_Mod_wrongRocks_11 : decode b_Mod_wrongRocks 11 = .ok (.iload_n 2, 1) := by decide +kernel
theorem d_Mod_wrongRocks_12 : decode b_Mod_wrongRocks 12 = .ok (.iconst (-1), 1) := by decide +kernel
theorem d_Mod_wrongRocks_13 : decode b_Mod_wrongRocks 13 = .ok (.invokevirtual 186, 3) := by decide +kernel
theorem d_Mod_wrongRocks_16 : decode b_Mod_wrongRocks 16 = .ok (.istore_n 3, 1) := by decide +kernel
theorem d_Mod_wrongRocks_17 : decode b_Mod_wrongRocks 17 = .ok (.iload_n 3, 1) := by decide +kernel
theorem d_Mod_wrongRocks_18 : decode b_Mod_wrongRocks 18 = .ok (.ifCond .eq 7, 3) := by decide +kernel
theorem d_Mod_wrongRocks_21 : decode b_Mod_wrongRocks 21 = .ok (.iload_n 3, 1) := by decide +kernel
theorem d_Mod_wrongRocks_22 : decode b_Mod_wrongRocks 22 = .ok (.goto 24, 3) := by decide +kernel
theorem d_Mod_wrongRocks_25 : decode b_Mod_wrongRocks 25 = .ok (.aload_n 0, 1) := by decide +kernel
theorem d_Mod_wrongRocks_26 : decode b_Mod_wrongRocks 26 = .ok (.getfield 49, 3) := by decide +kernel
theorem d_Mod_wrongRocks_29 : decode b_Mod_wrongRocks 29 = .ok (.iload_n 2, 1) := by decide +kernel
theorem d_Mod_wrongRocks_30 : decode b_Mod_wrongRocks 30 = .ok (.iaload, 1) := by decide +kernel
theorem d_Mod_wrongRocks_31 : decode b_Mod_wrongRocks 31 = .ok (.aload_n 0, 1) := by decide +kernel
theorem d_Mod_wrongRocks_32 : decode b_Mod_wrongRocks 32 = .ok (.getfield 9, 3) := by decide +kernel
theorem d_Mod_wrongRocks_35 : decode b_Mod_wrongRocks 35 = .ok (.iconst 0, 1) := by decide +kernel
theorem d_Mod_wrongRocks_36 : decode b_Mod_wrongRocks 36 = .ok (.iaload, 1) := by decide +kernel
theorem d_Mod_wrongRocks_37 : decode b_Mod_wrongRocks 37 = .ok (.if_icmp .le 8, 3) := by decide +kernel
theorem d_Mod_wrongRocks_40 : decode b_Mod_wrongRocks 40 = .ok (.bipush (-13), 2) := by decide +kernel
theorem d_Mod_wrongRocks_42 : decode b_Mod_wrongRocks 42 = .ok (.goto 4, 3) := by decide +kernel
theorem d_Mod_wrongRocks_45 : decode b_Mod_wrongRocks 45 = .ok (.iconst 0, 1) := by decide +kernel
theorem d_Mod_wrongRocks_46 : decode b_Mod_wrongRocks 46 = .ok (.ireturn, 1) := by decide +kernel
theorem d_Mod_rock_0 : decode b_Mod_rock 0 = .ok (.iload_n 3, 1) := by decide +kernel
theorem d_Mod_rock_1 : decode b_Mod_rock 1 = .ok (.iconst 0, 1) := by decide +kernel
theorem d_Mod_rock_2 : decode b_Mod_rock 2 = .ok (.iconst 1, 1) := by decide +kernel
theorem d_Mod_rock_3 : decode b_Mod_rock 3 = .ok (.invokestatic 55, 3) := by decide +kernel
theorem d_Mod_rock_6 : decode b_Mod_rock 6 = .ok (.ifCond .ne 5, 3) := by decide +kernel
theorem d_Mod_rock_9 : decode b_Mod_rock 9 = .ok (.iconst (-1), 1) := by decide +kernel
theorem d_Mod_rock_10 : decode b_Mod_rock 10 = .ok (.ireturn, 1) := by decide +kernel
theorem d_Mod_rock_11 : decode b_Mod_rock 11 = .ok (.aload_n 0, 1) := by decide +kernel
theorem d_Mod_rock_12 : decode b_Mod_rock 12 = .ok (.iload_n 1, 1) := by decide +kernel
theorem d_Mod_rock_13 : decode b_Mod_rock 13 = .ok (.iload_n 2, 1) := by decide +kernel
theorem d_Mod_rock_14 : decode b_Mod_rock 14 = .ok (.invokevirtual 260, 3) := by decide +kernel
theorem d_Mod_rock_17 : decode b_Mod_rock 17 = .ok (.istore 4, 2) := by decide +kernel
theorem d_Mod_rock_19 : decode b_Mod_rock 19 = .ok (.iload 4, 2) := by decide +kernel
theorem d_Mod_rock_21 : decode b_Mod_rock 21 = .ok (.ifCond .eq 6, 3) := by decide +kernel
theorem d_Mod_rock_24 : decode b_Mod_rock 24 = .ok (.iload 4, 2) := by decide +kernel
theorem d_Mod_rock_26 : decode b_Mod_rock 26 = .ok (.ireturn, 1) := by decide +kernel
theorem d_Mod_rock_27 : decode b_Mod_rock 27 = .ok (.iconst 0, 1) := by decide +kernel
theorem d_Mod_rock_28 : decode b_Mod_rock 28 = .ok (.istore 5, 2) := by decide +kernel
theorem d_Mod_rock_30 : decode b_Mod_rock 30 = .ok (.bipush (-4), 2) := by decide +kernel
theorem d_Mod_rock_32 : decode b_Mod_rock 32 = .ok (.istore 6, 2) := by decide +kernel
theorem d_Mod_rock_34 : decode b_Mod_rock 34 = .ok (.bipush 50, 2) := by decide +kernel
theorem d_Mod_rock_36 : decode b_Mod_rock 36 = .ok (.istore 7, 2) := by decide +kernel
theorem d_Mod_rock_38 : decode b_Mod_rock 38 = .ok (.iload 7, 2) := by decide +kernel
theorem d_Mod_rock_40 : decode b_Mod_rock 40 = .ok (.bipush 10, 2) := by decide +kernel
theorem d_Mod_rock_42 : decode b_Mod_rock 42 = .ok (.if_icmp .lt 36, 3) := by decide +kernel
theorem d_Mod_rock_45 : decode b_Mod_rock 45 = .ok (.aload_n 0, 1) := by decide +kernel
theorem d_Mod_rock_46 : decode b_Mod_rock 46 = .ok (.iload_n 1, 1) := by decide +kernel
theorem d_Mod_rock_47 : decode b_Mod_rock 47 = .ok (.iload_n 2, 1) := by decide +kernel
theorem d_Mod_rock_48 : decode b_Mod_rock 48 = .ok (.iload 7, 2) := by decide +kernel
theorem d_Mod_rock_50 : decode b_Mod_rock 50 = .ok (.invokevirtual 263, 3) := by decide +kernel
theorem d_Mod_rock_53 : decode b_Mod_rock 53 = .ok (.aload_n 0, 1) := by decide +kernel
theorem d_Mod_rock_54 : decode b_Mod_rock 54 = .ok (.getfield 49, 3) := by decide +kernel
theorem d_Mod_rock_57 : decode b_Mod_rock 57 = .ok (.iload_n 2, 1) := by decide +kernel
theorem d_Mod_rock_58 : decode b_Mod_rock 58 = .ok (.iaload, 1) := by decide +kernel
theorem d_Mod_rock_59 : decode b_Mod_rock 59 = .ok (.if_icmp .ge 6, 3) := by decide +kernel
theorem d_Mod_rock_62 : decode b_Mod_rock 62 = .ok (.goto 10, 3) := by decide +kernel
theorem d_Mod_rock_65 : decode b_Mod_rock 65 = .ok (.iinc 5 1, 3) := by decide +kernel
theorem d_Mod_rock_68 : decode b_Mod_rock 68 = .ok (.iload 7, 2) := by decide +kernel
theorem d_Mod_rock_70 : decode b_Mod_rock 70 = .ok (.istore 6, 2) := by decide +kernel
theorem d_Mod_rock_72 : decode b_Mod_rock 72 = .ok (.iinc 7 (-1), 3) := by decide +kernel
theorem d_Mod_rock_75 : decode b_Mod_rock 75 = .ok (.goto (-37), 3) := by decide +kernel
theorem d_Mod_rock_78 : decode b_Mod_rock 78 = .ok (.iload_n 3, 1) := by decide +kernel
theorem d_Mod_rock_79 : decode b_Mod_rock 79 = .ok (.ifCond .ne 8, 3) := by decide +kernel
theorem d_Mod_rock_82 : decode b_Mod_rock 82 = .ok (.iload 5, 2) := by decide +kernel
theorem d_Mod_rock_84 : decode b_Mod_rock 84 = .ok (.goto 5, 3) := by decide +kernel
theorem d_Mod_rock_87 : decode b_Mod_rock 87 = .ok (.iload 6, 2) := by decide +kernel
theorem d_Mod_rock_89 : decode b_Mod_rock 89 = .ok (.ireturn, 1) := by decide +kernel
theorem d_Mod_forged_0 : decode b_Mod_forged 0 = .ok (.aload_n 0, 1) := by decide +kernel
theorem d_Mod_forged_1 : decode b_Mod_forged 1 = .ok (.iload_n 1, 1) := by decide +kernel
theorem d_Mod_forged_2 : decode b_Mod_forged 2 = .ok (.iload_n 2, 1) := by decide +kernel
theorem d_Mod_forged_3 : decode b_Mod_forged 3 = .ok (.invokevirtual 260, 3) := by decide +kernel
theorem d_Mod_forged_6 : decode b_Mod_forged 6 = .ok (.istore_n 3, 1) := by decide +kernel
theorem d_Mod_forged_7 : decode b_Mod_forged 7 = .ok (.iload_n 3, 1) := by decide +kernel
theorem d_Mod_forged_8 : decode b_Mod_forged 8 = .ok (.ifCond .eq 5, 3) := by decide +kernel
theorem d_Mod_forged_11 : decode b_Mod_forged 11 = .ok (.iload_n 3, 1) := by decide +kernel
theorem d_Mod_forged_12 : decode b_Mod_forged 12 = .ok (.ireturn, 1) := by decide +kernel
theorem d_Mod_forged_13 : decode b_Mod_forged 13 = .ok (.iconst 0, 1) := by decide +kernel
theorem d_Mod_forged_14 : decode b_Mod_forged 14 = .ok (.istore 4, 2) := by decide +kernel
theorem d_Mod_forged_16 : decode b_Mod_forged 16 = .ok (.bipush 10, 2) := by decide +kernel
theorem d_Mod_forged_18 : decode b_Mod_forged 18 = .ok (.istore 5, 2) := by decide +kernel
theorem d_Mod_forged_20 : decode b_Mod_forged 20 = .ok (.iload 5, 2) := by decide +kernel
theorem d_Mod_forged_22 : decode b_Mod_forged 22 = .ok (.bipush 50, 2) := by decide +kernel
theorem d_Mod_forged_24 : decode b_Mod_forged 24 = .ok (.if_icmp .gt 24, 3) := by decide +kernel
theorem d_Mod_forged_27 : decode b_Mod_forged 27 = .ok (.iload 4, 2) := by decide +kernel
theorem d_Mod_forged_29 : decode b_Mod_forged 29 = .ok (.aload_n 0, 1) := by decide +kernel
theorem d_Mod_forged_30 : decode b_Mod_forged 30 = .ok (.iload_n 1, 1) := by decide +kernel
theorem d_Mod_forged_31 : decode b_Mod_forged 31 = .ok (.iload_n 2, 1) := by decide +kernel
theorem d_Mod_forged_32 : decode b_Mod_forged 32 = .ok (.iload 5, 2) := by decide +kernel
theorem d_Mod_forged_34 : decode b_Mod_forged 34 = .ok (.invokevirtual 263, 3) := by decide +kernel
theorem d_Mod_forged_37 : decode b_Mod_forged 37 = .ok (.invokestatic 66, 3) := by decide +kernel
theorem d_Mod_forged_40 : decode b_Mod_forged 40 = .ok (.istore 4, 2) := by decide +kernel
theorem d_Mod_forged_42 : decode b_Mod_forged 42 = .ok (.iinc 5 1, 3) := by decide +kernel
theorem d_Mod_forged_45 : decode b_Mod_forged 45 = .ok (.goto (-25), 3) := by decide +kernel
theorem d_Mod_forged_48 : decode b_Mod_forged 48 = .ok (.iload 4, 2) := by decide +kernel
theorem d_Mod_forged_50 : decode b_Mod_forged 50 = .ok (.aload_n 0, 1) := by decide +kernel
theorem d_Mod_forged_51 : decode b_Mod_forged 51 = .ok (.getfield 49, 3) := by decide +kernel
theorem d_Mod_forged_54 : decode b_Mod_forged 54 = .ok (.iload_n 2, 1) := by decide +kernel
theorem d_Mod_forged_55 : decode b_Mod_forged 55 = .ok (.iaload, 1) := by decide +kernel
theorem d_Mod_forged_56 : decode b_Mod_forged 56 = .ok (.if_icmp .ne 8, 3) := by decide +kernel
theorem d_Mod_forged_59 : decode b_Mod_forged 59 = .ok (.bipush (-4), 2) := by decide +kernel
theorem d_Mod_forged_61 : decode b_Mod_forged 61 = .ok (.goto 5, 3) := by decide +kernel
theorem d_Mod_forged_64 : decode b_Mod_forged 64 = .ok (.iload 4, 2) := by decide +kernel
theorem d_Mod_forged_66 : decode b_Mod_forged 66 = .ok (.ireturn, 1) := by decide +kernel
theorem d_Mod_judge_0 : decode b_Mod_judge 0 = .ok (.aload_n 0, 1) := by decide +kernel
theorem d_Mod_judge_1 : decode b_Mod_judge 1 = .ok (.iload_n 1, 1) := by decide +kernel
theorem d_Mod_judge_2 : decode b_Mod_judge 2 = .ok (.iconst (-1), 1) := by decide +kernel
theorem d_Mod_judge_3 : decode b_Mod_judge 3 = .ok (.invokevirtual 186, 3) := by decide +kernel
theorem d_Mod_judge_6 : decode b_Mod_judge 6 = .ok (.istore_n 2, 1) := by decide +kernel
theorem d_Mod_judge_7 : decode b_Mod_judge 7 = .ok (.iload_n 2, 1) := by decide +kernel
theorem d_Mod_judge_8 : decode b_Mod_judge 8 = .ok (.ifCond .eq 5, 3) := by decide +kernel
theorem d_Mod_judge_11 : decode b_Mod_judge 11 = .ok (.iload_n 2, 1) := by decide +kernel
theorem d_Mod_judge_12 : decode b_Mod_judge 12 = .ok (.ireturn, 1) := by decide +kernel
theorem d_Mod_judge_13 : decode b_Mod_judge 13 = .ok (.aload_n 0, 1) := by decide +kernel
theorem d_Mod_judge_14 : decode b_Mod_judge 14 = .ok (.iconst 0, 1) := by decide +kernel
theorem d_Mod_judge_15 : decode b_Mod_judge 15 = .ok (.putfield 112, 3) := by decide +kernel
theorem d_Mod_judge_18 : decode b_Mod_judge 18 = .ok (.aload_n 0, 1) := by decide +kernel
theorem d_Mod_judge_19 : decode b_Mod_judge 19 = .ok (.invokevirtual 136, 3) := by decide +kernel
theorem d_Mod_judge_22 : decode b_Mod_judge 22 = .ok (.aload_n 0, 1) := by decide +kernel
theorem d_Mod_judge_23 : decode b_Mod_judge 23 = .ok (.getfield 118, 3) := by decide +kernel
theorem d_Mod_judge_26 : decode b_Mod_judge 26 = .ok (.invokestatic 151, 3) := by decide +kernel
theorem d_Mod_judge_29 : decode b_Mod_judge 29 = .ok (.istore_n 3, 1) := by decide +kernel
theorem d_Mod_judge_30 : decode b_Mod_judge 30 = .ok (.iconst 0, 1) := by decide +kernel
theorem d_Mod_judge_31 : decode b_Mod_judge 31 = .ok (.istore 4, 2) := by decide +kernel
theorem d_Mod_judge_33 : decode b_Mod_judge 33 = .ok (.iload 4, 2) := by decide +kernel
theorem d_Mod_judge_35 : decode b_Mod_judge 35 = .ok (.aload_n 0, 1) := by decide +kernel
theorem d_Mod_judge_36 : decode b_Mod_judge 36 = .ok (.getfield 49, 3) := by decide +kernel
theorem d_Mod_judge_39 : decode b_Mod_judge 39 = .ok (.iload_n 1, 1) := by decide +kernel
theorem d_Mod_judge_40 : decode b_Mod_judge 40 = .ok (.iaload, 1) := by decide +kernel
theorem d_Mod_judge_41 : decode b_Mod_judge 41 = .ok (.if_icmp .ge 71, 3) := by decide +kernel
theorem d_Mod_judge_44 : decode b_Mod_judge 44 = .ok (.aload_n 0, 1) := by decide +kernel
theorem d_Mod_judge_45 : decode b_Mod_judge 45 = .ok (.getfield 52, 3) := by decide +kernel
theorem d_Mod_judge_48 : decode b_Mod_judge 48 = .ok (.bipush 100, 2) := by decide +kernel
theorem d_Mod_judge_50 : decode b_Mod_judge 50 = .ok (.iload_n 1, 1) := by decide +kernel
theorem d_Mod_judge_51 : decode b_Mod_judge 51 = .ok (.imul, 1) := by decide +kernel
theorem d_Mod_judge_52 : decode b_Mod_judge 52 = .ok (.iload 4, 2) := by decide +kernel
theorem d_Mod_judge_54 : decode b_Mod_judge 54 = .ok (.iadd, 1) := by decide +kernel
theorem d_Mod_judge_55 : decode b_Mod_judge 55 = .ok (.iaload, 1) := by decide +kernel
theorem d_Mod_judge_56 : decode b_Mod_judge 56 = .ok (.istore 5, 2) := by decide +kernel
theorem d_Mod_judge_58 : decode b_Mod_judge 58 = .ok (.iload 5, 2) := by decide +kernel
theorem d_Mod_judge_60 : decode b_Mod_judge 60 = .ok (.aload_n 0, 1) := by decide +kernel
theorem d_Mod_judge_61 : decode b_Mod_judge 61 = .ok (.getfield 46, 3) := by decide +kernel
theorem d_Mod_judge_64 : decode b_Mod_judge 64 = .ok (.iload_n 1, 1) := by decide +kernel
theorem d_Mod_judge_65 : decode b_Mod_judge 65 = .ok (.iaload, 1) := by decide +kernel
theorem d_Mod_judge_66 : decode b_Mod_judge 66 = .ok (.invokestatic 257, 3) := by decide +kernel
theorem d_Mod_judge_69 : decode b_Mod_judge 69 = .ok (.if_icmp .ne 6, 3) := by decide +kernel
theorem d_Mod_judge_72 : decode b_Mod_judge 72 = .ok (.goto 34, 3) := by decide +kernel
theorem d_Mod_judge_75 : decode b_Mod_judge 75 = .ok (.iload 4, 2) := by decide +kernel
theorem d_Mod_judge_77 : decode b_Mod_judge 77 = .ok (.iload_n 3, 1) := by decide +kernel
theorem d_Mod_judge_78 : decode b_Mod_judge 78 = .ok (.if_icmp .lt 6, 3) := by decide +kernel
theorem d_Mod_judge_81 : decode b_Mod_judge 81 = .ok (.iload 4, 2) := by decide +kernel
theorem d_Mod_judge_83 : decode b_Mod_judge 83 = .ok (.ireturn, 1) := by decide +kernel
theorem d_Mod_judge_84 : decode b_Mod_judge 84 = .ok (.iload 5, 2) := by decide +kernel
theorem d_Mod_judge_86 : decode b_Mod_judge 86 = .ok (.aload_n 0, 1) := by decide +kernel
theorem d_Mod_judge_87 : decode b_Mod_judge 87 = .ok (.getfield 19, 3) := by decide +kernel
theorem d_Mod_judge_90 : decode b_Mod_judge 90 = .ok (.iload 4, 2) := by decide +kernel
theorem d_Mod_judge_92 : decode b_Mod_judge 92 = .ok (.iaload, 1) := by decide +kernel
theorem d_Mod_judge_93 : decode b_Mod_judge 93 = .ok (.aload_n 0, 1) := by decide +kernel
theorem d_Mod_judge_94 : decode b_Mod_judge 94 = .ok (.getfield 9, 3) := by decide +kernel
theorem d_Mod_judge_97 : decode b_Mod_judge 97 = .ok (.iconst 2, 1) := by decide +kernel
theorem d_Mod_judge_98 : decode b_Mod_judge 98 = .ok (.iaload, 1) := by decide +kernel
theorem d_Mod_judge_99 : decode b_Mod_judge 99 = .ok (.isub, 1) := by decide +kernel
theorem d_Mod_judge_100 : decode b_Mod_judge 100 = .ok (.if_icmp .eq 6, 3) := by decide +kernel
theorem d_Mod_judge_103 : decode b_Mod_judge 103 = .ok (.iload 4, 2) := by decide +kernel
theorem d_Mod_judge_105 : decode b_Mod_judge 105 = .ok (.ireturn, 1) := by decide +kernel
theorem d_Mod_judge_106 : decode b_Mod_judge 106 = .ok (.iinc 4 1, 3) := by decide +kernel
theorem d_Mod_judge_109 : decode b_Mod_judge 109 = .ok (.goto (-76), 3) := by decide +kernel
theorem d_Mod_judge_112 : decode b_Mod_judge 112 = .ok (.bipush (-4), 2) := by decide +kernel
theorem d_Mod_judge_114 : decode b_Mod_judge 114 = .ok (.ireturn, 1) := by decide +kernel
theorem d_Mod_drawn_0 : decode b_Mod_drawn 0 = .ok (.aload_n 0, 1) := by decide +kernel
theorem d_Mod_drawn_1 : decode b_Mod_drawn 1 = .ok (.aload_n 0, 1) := by decide +kernel
theorem d_Mod_drawn_2 : decode b_Mod_drawn 2 = .ok (.getfield 266, 3) := by decide +kernel
theorem d_Mod_drawn_5 : decode b_Mod_drawn 5 = .ok (.ldc_w 269, 3) := by decide +kernel
theorem d_Mod_drawn_8 : decode b_Mod_drawn 8 = .ok (.imul, 1) := by decide +kernel
theorem d_Mod_drawn_9 : decode b_Mod_drawn 9 = .ok (.sipush 12345, 3) := by decide +kernel
theorem d_Mod_drawn_12 : decode b_Mod_drawn 12 = .ok (.iadd, 1) := by decide +kernel
theorem d_Mod_drawn_13 : decode b_Mod_drawn 13 = .ok (.putfield 266, 3) := by decide +kernel
theorem d_Mod_drawn_16 : decode b_Mod_drawn 16 = .ok (.aload_n 0, 1) := by decide +kernel
theorem d_Mod_drawn_17 : decode b_Mod_drawn 17 = .ok (.getfield 266, 3) := by decide +kernel
theorem d_Mod_drawn_20 : decode b_Mod_drawn 20 = .ok (.ldc_w 270, 3) := by decide +kernel
theorem d_Mod_drawn_23 : decode b_Mod_drawn 23 = .ok (.iand, 1) := by decide +kernel
theorem d_Mod_drawn_24 : decode b_Mod_drawn 24 = .ok (.ldc_w 271, 3) := by decide +kernel
theorem d_Mod_drawn_27 : decode b_Mod_drawn 27 = .ok (.idiv, 1) := by decide +kernel
theorem d_Mod_drawn_28 : decode b_Mod_drawn 28 = .ok (.iload_n 1, 1) := by decide +kernel
theorem d_Mod_drawn_29 : decode b_Mod_drawn 29 = .ok (.irem, 1) := by decide +kernel
theorem d_Mod_drawn_30 : decode b_Mod_drawn 30 = .ok (.ireturn, 1) := by decide +kernel
theorem d_Mod_parties_0 : decode b_Mod_parties 0 = .ok (.iload_n 1, 1) := by decide +kernel
theorem d_Mod_parties_1 : decode b_Mod_parties 1 = .ok (.iconst 1, 1) := by decide +kernel
theorem d_Mod_parties_2 : decode b_Mod_parties 2 = .ok (.bipush 20, 2) := by decide +kernel
theorem d_Mod_parties_4 : decode b_Mod_parties 4 = .ok (.invokestatic 55, 3) := by decide +kernel
theorem d_Mod_parties_7 : decode b_Mod_parties 7 = .ok (.ifCond .eq 12, 3) := by decide +kernel
theorem d_Mod_parties_10 : decode b_Mod_parties 10 = .ok (.iload_n 3, 1) := by decide +kernel
theorem d_Mod_parties_11 : decode b_Mod_parties 11 = .ok (.iconst 0, 1) := by decide +kernel
theorem d_Mod_parties_12 : decode b_Mod_parties 12 = .ok (.iconst 1, 1) := by decide +kernel
theorem d_Mod_parties_13 : decode b_Mod_parties 13 = .ok (.invokestatic 55, 3) := by decide +kernel
theorem d_Mod_parties_16 : decode b_Mod_parties 16 = .ok (.ifCond .ne 5, 3) := by decide +kernel
theorem d_Mod_parties_19 : decode b_Mod_parties 19 = .ok (.iconst (-1), 1) := by decide +kernel
theorem d_Mod_parties_20 : decode b_Mod_parties 20 = .ok (.ireturn, 1) := by decide +kernel
theorem d_Mod_parties_21 : decode b_Mod_parties 21 = .ok (.aload_n 0, 1) := by decide +kernel
theorem d_Mod_parties_22 : decode b_Mod_parties 22 = .ok (.iload_n 2, 1) := by decide +kernel
theorem d_Mod_parties_23 : decode b_Mod_parties 23 = .ok (.putfield 266, 3) := by decide +kernel
theorem d_Mod_parties_26 : decode b_Mod_parties 26 = .ok (.aload_n 0, 1) := by decide +kernel
theorem d_Mod_parties_27 : decode b_Mod_parties 27 = .ok (.getfield 9, 3) := by decide +kernel
theorem d_Mod_parties_30 : decode b_Mod_parties 30 = .ok (.aload_n 0, 1) := by decide +kernel
theorem d_Mod_parties_31 : decode b_Mod_parties 31 = .ok (.getfield 16, 3) := by decide +kernel
theorem d_Mod_parties_34 : decode b_Mod_parties 34 = .ok (.invokestatic 193, 3) := by decide +kernel
theorem d_Mod_parties_37 : decode b_Mod_parties 37 = .ok (.aload_n 0, 1) := by decide +kernel
theorem d_Mod_parties_38 : decode b_Mod_parties 38 = .ok (.iconst 0, 1) := by decide +kernel
theorem d_Mod_parties_39 : decode b_Mod_parties 39 = .ok (.putfield 112, 3) := by decide +kernel
theorem d_Mod_parties_42 : decode b_Mod_parties 42 = .ok (.iconst 0, 1) := by decide +kernel
theorem d_Mod_parties_43 : decode b_Mod_parties 43 = .ok (.istore 4, 2) := by decide +kernel
theorem d_Mod_parties_45 : decode b_Mod_parties 45 = .ok (.iconst 0, 1) := by decide +kernel
theorem d_Mod_parties_46 : decode b_Mod_parties 46 = .ok (.istore 5, 2) := by decide +kernel
theorem d_Mod_parties_48 : decode b_Mod_parties 48 = .ok (.iload 5, 2) := by decide +kernel
theorem d_Mod_parties_50 : decode b_Mod_parties 50 = .ok (.iload_n 1, 1) := by decide +kernel
theorem d_Mod_parties_51 : decode b_Mod_parties 51 = .ok (.if_icmp .ge 73, 3) := by decide +kernel
theorem d_Mod_parties_54 : decode b_Mod_parties 54 = .ok (.iconst 0, 1) := by decide +kernel
theorem d_Mod_parties_55 : decode b_Mod_parties 55 = .ok (.istore 6, 2) := by decide +kernel
theorem d_Mod_parties_57 : decode b_Mod_parties 57 = .ok (.iload 6, 2) := by decide +kernel
theorem d_Mod_parties_59 : decode b_Mod_parties 59 = .ok (.aload_n 0, 1) := by decide +kernel
theorem d_Mod_parties_60 : decode b_Mod_parties 60 = .ok (.getfield 9, 3) := by decide +kernel
theorem d_Mod_parties_63 : decode b_Mod_parties 63 = .ok (.iconst 1, 1) := by decide +kernel
theorem d_Mod_parties_64 : decode b_Mod_parties 64 = .ok (.iaload, 1) := by decide +kernel
theorem d_Mod_parties_65 : decode b_Mod_parties 65 = .ok (.if_icmp .ge 26, 3) := by decide +kernel
theorem d_Mod_parties_68 : decode b_Mod_parties 68 = .ok (.aload_n 0, 1) := by decide +kernel
theorem d_Mod_parties_69 : decode b_Mod_parties 69 = .ok (.getfield 9, 3) := by decide +kernel
theorem d_Mod_parties_72 : decode b_Mod_parties 72 = .ok (.iload 6, 2) := by decide +kernel
theorem d_Mod_parties_74 : decode b_Mod_parties 74 = .ok (.iconst 2, 1) := by decide +kernel
theorem d_Mod_parties_75 : decode b_Mod_parties 75 = .ok (.invokestatic 59, 3) := by decide +kernel
theorem d_Mod_parties_78 : decode b_Mod_parties 78 = .ok (.aload_n 0, 1) := by decide +kernel
theorem d_Mod_parties_79 : decode b_Mod_parties 79 = .ok (.bipush 10, 2) := by decide +kernel
theorem d_Mod_parties_81 : decode b_Mod_parties 81 = .ok (.invokevirtual 272, 3) := by decide +kernel
theorem d_Mod_parties_84 : decode b_Mod_parties 84 = .ok (.iastore, 1) := by decide +kernel
theorem d_Mod_parties_85 : decode b_Mod_parties 85 = .ok (.iinc 6 1, 3) := by decide +kernel
theorem d_Mod_parties_88 : decode b_Mod_parties 88 = .ok (.goto (-31), 3) := by decide +kernel
theorem d_Mod_parties_91 : decode b_Mod_parties 91 = .ok (.aload_n 0, 1) := by decide +kernel
theorem d_Mod_parties_92 : decode b_Mod_parties 92 = .ok (.invokevirtual 148, 3) := by decide +kernel
theorem d_Mod_parties_95 : decode b_Mod_parties 95 = .ok (.iload 4, 2) := by decide +kernel
theorem d_Mod_parties_97 : decode b_Mod_parties 97 = .ok (.iload_n 3, 1) := by decide +kernel
theorem d_Mod_parties_98 : decode b_Mod_parties 98 = .ok (.ifCond .ne 10, 3) := by decide +kernel
theorem d_Mod_parties_101 : decode b_Mod_parties 101 = .ok (.aload_n 0, 1) := by decide +kernel
theorem d_Mod_parties_102 : decode b_Mod_parties 102 = .ok (.getfield 118, 3) := by decide +kernel
theorem d_Mod_parties_105 : decode b_Mod_parties 105 = .ok (.goto 7, 3) := by decide +kernel
theorem d_Mod_parties_108 : decode b_Mod_parties 108 = .ok (.aload_n 0, 1) := by decide +kernel
theorem d_Mod_parties_109 : decode b_Mod_parties 109 = .ok (.getfield 139, 3) := by decide +kernel
theorem d_Mod_parties_112 : decode b_Mod_parties 112 = .ok (.invokestatic 151, 3) := by decide +kernel
theorem d_Mod_parties_115 : decode b_Mod_parties 115 = .ok (.iadd, 1) := by decide +kernel
theorem d_Mod_parties_116 : decode b_Mod_parties 116 = .ok (.istore 4, 2) := by decide +kernel
theorem d_Mod_parties_118 : decode b_Mod_parties 118 = .ok (.iinc 5 1, 3) := by decide +kernel
theorem d_Mod_parties_121 : decode b_Mod_parties 121 = .ok (.goto (-73), 3) := by decide +kernel
theorem d_Mod_parties_124 : decode b_Mod_parties 124 = .ok (.aload_n 0, 1) := by decide +kernel
theorem d_Mod_parties_125 : decode b_Mod_parties 125 = .ok (.getfield 16, 3) := by decide +kernel
theorem d_Mod_parties_128 : decode b_Mod_parties 128 = .ok (.aload_n 0, 1) := by decide +kernel
theorem d_Mod_parties_129 : decode b_Mod_parties 129 = .ok (.getfield 9, 3) := by decide +kernel
theorem d_Mod_parties_132 : decode b_Mod_parties 132 = .ok (.invokestatic 193, 3) := by decide +kernel
theorem d_Mod_parties_135 : decode b_Mod_parties 135 = .ok (.iload 4, 2) := by decide +kernel
theorem d_Mod_parties_137 : decode b_Mod_parties 137 = .ok (.ireturn, 1) := by decide +kernel
theorem d_Mod_image_0 : decode b_Mod_image 0 = .ok (.aload_n 0, 1) := by decide +kernel
theorem d_Mod_image_1 : decode b_Mod_image 1 = .ok (.getfield 9, 3) := by decide +kernel
theorem d_Mod_image_4 : decode b_Mod_image 4 = .ok (.aload_n 0, 1) := by decide +kernel
theorem d_Mod_image_5 : decode b_Mod_image 5 = .ok (.getfield 13, 3) := by decide +kernel
theorem d_Mod_image_8 : decode b_Mod_image 8 = .ok (.invokestatic 193, 3) := by decide +kernel
theorem d_Mod_image_11 : decode b_Mod_image 11 = .ok (.aload_n 0, 1) := by decide +kernel
theorem d_Mod_image_12 : decode b_Mod_image 12 = .ok (.iconst 1, 1) := by decide +kernel
theorem d_Mod_image_13 : decode b_Mod_image 13 = .ok (.putfield 275, 3) := by decide +kernel
theorem d_Mod_image_16 : decode b_Mod_image 16 = .ok (.aload_n 0, 1) := by decide +kernel
theorem d_Mod_image_17 : decode b_Mod_image 17 = .ok (.getfield 9, 3) := by decide +kernel
theorem d_Mod_image_20 : decode b_Mod_image 20 = .ok (.iconst 2, 1) := by decide +kernel
theorem d_Mod_image_21 : decode b_Mod_image 21 = .ok (.iaload, 1) := by decide +kernel
theorem d_Mod_image_22 : decode b_Mod_image 22 = .ok (.ireturn, 1) := by decide +kernel
theorem d_Mod_restore_0 : decode b_Mod_restore 0 = .ok (.aload_n 0, 1) := by decide +kernel
theorem d_Mod_restore_1 : decode b_Mod_restore 1 = .ok (.getfield 275, 3) := by decide +kernel
theorem d_Mod_restore_4 : decode b_Mod_restore 4 = .ok (.ifCond .ne 6, 3) := by decide +kernel
theorem d_Mod_restore_7 : decode b_Mod_restore 7 = .ok (.bipush (-3), 2) := by decide +kernel
theorem d_Mod_restore_9 : decode b_Mod_restore 9 = .ok (.ireturn, 1) := by decide +kernel
theorem d_Mod_restore_10 : decode b_Mod_restore 10 = .ok (.aload_n 0, 1) := by decide +kernel
theorem d_Mod_restore_11 : decode b_Mod_restore 11 = .ok (.getfield 13, 3) := by decide +kernel
theorem d_Mod_restore_14 : decode b_Mod_restore 14 = .ok (.aload_n 0, 1) := by decide +kernel
theorem d_Mod_restore_15 : decode b_Mod_restore 15 = .ok (.getfield 9, 3) := by decide +kernel
theorem d_Mod_restore_18 : decode b_Mod_restore 18 = .ok (.invokestatic 193, 3) := by decide +kernel
theorem d_Mod_restore_21 : decode b_Mod_restore 21 = .ok (.aload_n 0, 1) := by decide +kernel
theorem d_Mod_restore_22 : decode b_Mod_restore 22 = .ok (.getfield 9, 3) := by decide +kernel
theorem d_Mod_restore_25 : decode b_Mod_restore 25 = .ok (.iconst 2, 1) := by decide +kernel
theorem d_Mod_restore_26 : decode b_Mod_restore 26 = .ok (.iaload, 1) := by decide +kernel
theorem d_Mod_restore_27 : decode b_Mod_restore 27 = .ok (.ireturn, 1) := by decide +kernel
theorem d_Mod_count_0 : decode b_Mod_count 0 = .ok (.iload_n 1, 1) := by decide +kernel
theorem d_Mod_count_1 : decode b_Mod_count 1 = .ok (.iconst 0, 1) := by decide +kernel
theorem d_Mod_count_2 : decode b_Mod_count 2 = .ok (.iconst 5, 1) := by decide +kernel
theorem d_Mod_count_3 : decode b_Mod_count 3 = .ok (.invokestatic 55, 3) := by decide +kernel
theorem d_Mod_count_6 : decode b_Mod_count 6 = .ok (.ifCond .eq 10, 3) := by decide +kernel
theorem d_Mod_count_9 : decode b_Mod_count 9 = .ok (.aload_n 0, 1) := by decide +kernel
theorem d_Mod_count_10 : decode b_Mod_count 10 = .ok (.getfield 9, 3) := by decide +kernel
theorem d_Mod_count_13 : decode b_Mod_count 13 = .ok (.iload_n 1, 1) := by decide +kernel
theorem d_Mod_count_14 : decode b_Mod_count 14 = .ok (.iaload, 1) := by decide +kernel
theorem d_Mod_count_15 : decode b_Mod_count 15 = .ok (.ireturn, 1) := by decide +kernel
theorem d_Mod_count_16 : decode b_Mod_count 16 = .ok (.iconst 0, 1) := by decide +kernel
theorem d_Mod_count_17 : decode b_Mod_count 17 = .ok (.istore_n 2, 1) := by decide +kernel
theorem d_Mod_count_18 : decode b_Mod_count 18 = .ok (.iload_n 1, 1) := by decide +kernel
theorem d_Mod_count_19 : decode b_Mod_count 19 = .ok (.lookupswitch 87 #[(6, 25), (7, 58)], 25) := by decide +kernel
theorem d_Mod_count_44 : decode b_Mod_count 44 = .ok (.iconst 0, 1) := by decide +kernel
theorem d_Mod_count_45 : decode b_Mod_count 45 = .ok (.istore_n 3, 1) := by decide +kernel
theorem d_Mod_count_46 : decode b_Mod_count 46 = .ok (.iload_n 3, 1) := by decide +kernel
theorem d_Mod_count_47 : decode b_Mod_count 47 = .ok (.aload_n 0, 1) := by decide +kernel
theorem d_Mod_count_48 : decode b_Mod_count 48 = .ok (.getfield 9, 3) := by decide +kernel
theorem d_Mod_count_51 : decode b_Mod_count 51 = .ok (.iconst 0, 1) := by decide +kernel
theorem d_Mod_count_52 : decode b_Mod_count 52 = .ok (.iaload, 1) := by decide +kernel
theorem d_Mod_count_53 : decode b_Mod_count 53 = .ok (.if_icmp .ge 22, 3) := by decide +kernel
theorem d_Mod_count_56 : decode b_Mod_count 56 = .ok (.iload_n 2, 1) := by decide +kernel
theorem d_Mod_count_57 : decode b_Mod_count 57 = .ok (.aload_n 0, 1) := by decide +kernel
theorem d_Mod_count_58 : decode b_Mod_count 58 = .ok (.getfield 9, 3) := by decide +kernel
theorem d_Mod_count_61 : decode b_Mod_count 61 = .ok (.iload_n 3, 1) := by decide +kernel
theorem d_Mod_count_62 : decode b_Mod_count 62 = .ok (.iconst 2, 1) := by decide +kernel
theorem d_Mod_count_63 : decode b_Mod_count 63 = .ok (.invokestatic 63, 3) := by decide +kernel
theorem d_Mod_count_66 : decode b_Mod_count 66 = .ok (.iaload, 1) := by decide +kernel
theorem d_Mod_count_67 : decode b_Mod_count 67 = .ok (.iadd, 1) := by decide +kernel
theorem d_Mod_count_68 : decode b_Mod_count 68 = .ok (.istore_n 2, 1) := by decide +kernel
theorem d_Mod_count_69 : decode b_Mod_count 69 = .ok (.iinc 3 1, 3) := by decide +kernel
theorem d_Mod_count_72 : decode b_Mod_count 72 = .ok (.goto (-26), 3) := by decide +kernel
theorem d_Mod_count_75 : decode b_Mod_count 75 = .ok (.iload_n 2, 1) := by decide +kernel
theorem d_Mod_count_76 : decode b_Mod_count 76 = .ok (.ireturn, 1) := by decide +kernel
theorem d_Mod_count_77 : decode b_Mod_count 77 = .ok (.iconst 0, 1) := by decide +kernel
theorem d_Mod_count_78 : decode b_Mod_count 78 = .ok (.istore_n 3, 1) := by decide +kernel
theorem d_Mod_count_79 : decode b_Mod_count 79 = .ok (.iload_n 3, 1) := by decide +kernel
theorem d_Mod_count_80 : decode b_Mod_count 80 = .ok (.aload_n 0, 1) := by decide +kernel
theorem d_Mod_count_81 : decode b_Mod_count 81 = .ok (.getfield 9, 3) := by decide +kernel
theorem d_Mod_count_84 : decode b_Mod_count 84 = .ok (.iconst 1, 1) := by decide +kernel
theorem d_Mod_count_85 : decode b_Mod_count 85 = .ok (.iaload, 1) := by decide +kernel
theorem d_Mod_count_86 : decode b_Mod_count 86 = .ok (.if_icmp .ge 18, 3) := by decide +kernel
theorem d_Mod_count_89 : decode b_Mod_count 89 = .ok (.iload_n 2, 1) := by decide +kernel
theorem d_Mod_count_90 : decode b_Mod_count 90 = .ok (.aload_n 0, 1) := by decide +kernel
theorem d_Mod_count_91 : decode b_Mod_count 91 = .ok (.iload_n 3, 1) := by decide +kernel
theorem d_Mod_count_92 : decode b_Mod_count 92 = .ok (.iconst 0, 1) := by decide +kernel
theorem d_Mod_count_93 : decode b_Mod_count 93 = .ok (.invokevirtual 73, 3) := by decide +kernel
theorem d_Mod_count_96 : decode b_Mod_count 96 = .ok (.iadd, 1) := by decide +kernel
theorem d_Mod_count_97 : decode b_Mod_count 97 = .ok (.istore_n 2, 1) := by decide +kernel
theorem d_Mod_count_98 : decode b_Mod_count 98 = .ok (.iinc 3 1, 3) := by decide +kernel
theorem d_Mod_count_101 : decode b_Mod_count 101 = .ok (.goto (-22), 3) := by decide +kernel
theorem d_Mod_count_104 : decode b_Mod_count 104 = .ok (.iload_n 2, 1) := by decide +kernel
theorem d_Mod_count_105 : decode b_Mod_count 105 = .ok (.ireturn, 1) := by decide +kernel
theorem d_Mod_count_106 : decode b_Mod_count 106 = .ok (.iconst (-1), 1) := by decide +kernel
theorem d_Mod_count_107 : decode b_Mod_count 107 = .ok (.ireturn, 1) := by decide +kernel
theorem d_Mod_thrown_0 : decode b_Mod_thrown 0 = .ok (.aload_n 0, 1) := by decide +kernel
theorem d_Mod_thrown_1 : decode b_Mod_thrown 1 = .ok (.getfield 279, 3) := by decide +kernel
theorem d_Mod_thrown_4 : decode b_Mod_thrown 4 = .ok (.ireturn, 1) := by decide +kernel
theorem d_Mod_keep_0 : decode b_Mod_keep 0 = .ok (.iload_n 1, 1) := by decide +kernel
theorem d_Mod_keep_1 : decode b_Mod_keep 1 = .ok (.invokestatic 206, 3) := by decide +kernel
theorem d_Mod_keep_4 : decode b_Mod_keep 4 = .ok (.ifCond .eq 38, 3) := by decide +kernel
theorem d_Mod_keep_7 : decode b_Mod_keep 7 = .ok (.iload_n 2, 1) := by decide +kernel
theorem d_Mod_keep_8 : decode b_Mod_keep 8 = .ok (.iconst 0, 1) := by decide +kernel
theorem d_Mod_keep_9 : decode b_Mod_keep 9 = .ok (.iconst 1, 1) := by decide +kernel
theorem d_Mod_keep_10 : decode b_Mod_keep 10 = .ok (.invokestatic 55, 3) := by decide +kernel
theorem d_Mod_keep_13 : decode b_Mod_keep 13 = .ok (.ifCond .eq 29, 3) := by decide +kernel
theorem d_Mod_keep_16 : decode b_Mod_keep 16 = .ok (.iload_n 2, 1) := by decide +kernel
theorem d_Mod_keep_17 : decode b_Mod_keep 17 = .ok (.iconst 1, 1) := by decide +kernel
theorem d_Mod_keep_18 : decode b_Mod_keep 18 = .ok (.if_icmp .ne 26, 3) := by decide +kernel
theorem d_Mod_keep_21 : decode b_Mod_keep 21 = .ok (.iload_n 3, 1) := by decide +kernel
theorem d_Mod_keep_22 : decode b_Mod_keep 22 = .ok (.iconst 0, 1) := by decide +kernel
theorem d_Mod_keep_23 : decode b_Mod_keep 23 = .ok (.bipush 7, 2) := by decide +kernel
theorem d_Mod_keep_25 : decode b_Mod_keep 25 = .ok (.invokestatic 55, 3) := by decide +kernel
theorem d_Mod_keep_28 : decode b_Mod_keep 28 = .ok (.ifCond .eq 14, 3) := by decide +kernel
theorem d_Mod_keep_31 : decode b_Mod_keep 31 = .ok (.iload 4, 2) := by decide +kernel
theorem d_Mod_keep_33 : decode b_Mod_keep 33 = .ok (.iconst 0, 1) := by decide +kernel
theorem d_Mod_keep_34 : decode b_Mod_keep 34 = .ok (.bipush 9, 2) := by decide +kernel
theorem d_Mod_keep_36 : decode b_Mod_keep 36 = .ok (.invokestatic 55, 3) := by decide +kernel
theorem d_Mod_keep_39 : decode b_Mod_keep 39 = .ok (.ifCond .ne 5, 3) := by decide +kernel
theorem d_Mod_keep_42 : decode b_Mod_keep 42 = .ok (.iconst (-1), 1) := by decide +kernel
theorem d_Mod_keep_43 : decode b_Mod_keep 43 = .ok (.ireturn, 1) := by decide +kernel
theorem d_Mod_keep_44 : decode b_Mod_keep 44 = .ok (.aload_n 0, 1) := by decide +kernel
theorem d_Mod_keep_45 : decode b_Mod_keep 45 = .ok (.getfield 37, 3) := by decide +kernel
theorem d_Mod_keep_48 : decode b_Mod_keep 48 = .ok (.iload_n 1, 1) := by decide +kernel
theorem d_Mod_keep_49 : decode b_Mod_keep 49 = .ok (.iload_n 2, 1) := by decide +kernel
theorem d_Mod_keep_50 : decode b_Mod_keep 50 = .ok (.iastore, 1) := by decide +kernel
theorem d_Mod_keep_51 : decode b_Mod_keep 51 = .ok (.aload_n 0, 1) := by decide +kernel
theorem d_Mod_keep_52 : decode b_Mod_keep 52 = .ok (.getfield 40, 3) := by decide +kernel
theorem d_Mod_keep_55 : decode b_Mod_keep 55 = .ok (.iload_n 1, 1) := by decide +kernel
theorem d_Mod_keep_56 : decode b_Mod_keep 56 = .ok (.iload_n 3, 1) := by decide +kernel
theorem d_Mod_keep_57 : decode b_Mod_keep 57 = .ok (.iastore, 1) := by decide +kernel
theorem d_Mod_keep_58 : decode b_Mod_keep 58 = .ok (.aload_n 0, 1) := by decide +kernel
theorem d_Mod_keep_59 : decode b_Mod_keep 59 = .ok (.getfield 43, 3) := by decide +kernel
theorem d_Mod_keep_62 : decode b_Mod_keep 62 = .ok (.iload_n 1, 1) := by decide +kernel
theorem d_Mod_keep_63 : decode b_Mod_keep 63 = .ok (.iload 4, 2) := by decide +kernel
theorem d_Mod_keep_65 : decode b_Mod_keep 65 = .ok (.iastore, 1) := by decide +kernel
theorem d_Mod_keep_66 : decode b_Mod_keep 66 = .ok (.iconst 0, 1) := by decide +kernel
theorem d_Mod_keep_67 : decode b_Mod_keep 67 = .ok (.ireturn, 1) := by decide +kernel
theorem d_Mod_row_0 : decode b_Mod_row 0 = .ok (.iload_n 1, 1) := by decide +kernel
theorem d_Mod_row_1 : decode b_Mod_row 1 = .ok (.invokestatic 206, 3) := by decide +kernel
theorem d_Mod_row_4 : decode b_Mod_row 4 = .ok (.ifCond .eq 18, 3) := by decide +kernel
theorem d_Mod_row_7 : decode b_Mod_row 7 = .ok (.iload_n 2, 1) := by decide +kernel
theorem d_Mod_row_8 : decode b_Mod_row 8 = .ok (.iconst 0, 1) := by decide +kernel
theorem d_Mod_row_9 : decode b_Mod_row 9 = .ok (.iconst 2, 1) := by decide +kernel
theorem d_Mod_row_10 : decode b_Mod_row 10 = .ok (.invokestatic 55, 3) := by decide +kernel
theorem d_Mod_row_13 : decode b_Mod_row 13 = .ok (.ifCond .eq 9, 3) := by decide +kernel
theorem d_Mod_row_16 : decode b_Mod_row 16 = .ok (.iload_n 3, 1) := by decide +kernel
theorem d_Mod_row_17 : decode b_Mod_row 17 = .ok (.bipush 100, 2) := by decide +kernel
theorem d_Mod_row_19 : decode b_Mod_row 19 = .ok (.if_icmp .le 5, 3) := by decide +kernel
theorem d_Mod_row_22 : decode b_Mod_row 22 = .ok (.iconst (-1), 1) := by decide +kernel
theorem d_Mod_row_23 : decode b_Mod_row 23 = .ok (.ireturn, 1) := by decide +kernel
theorem d_Mod_row_24 : decode b_Mod_row 24 = .ok (.iload_n 3, 1) := by decide +kernel
theorem d_Mod_row_25 : decode b_Mod_row 25 = .ok (.ifCond .ge 6, 3) := by decide +kernel
theorem d_Mod_row_28 : decode b_Mod_row 28 = .ok (.bipush (-14), 2) := by decide +kernel
theorem d_Mod_row_30 : decode b_Mod_row 30 = .ok (.ireturn, 1) := by decide +kernel
theorem d_Mod_row_31 : decode b_Mod_row 31 = .ok (.aload_n 0, 1) := by decide +kernel
theorem d_Mod_row_32 : decode b_Mod_row 32 = .ok (.getfield 37, 3) := by decide +kernel
theorem d_Mod_row_35 : decode b_Mod_row 35 = .ok (.iload_n 1, 1) := by decide +kernel
theorem d_Mod_row_36 : decode b_Mod_row 36 = .ok (.iconst 2, 1) := by decide +kernel
theorem d_Mod_row_37 : decode b_Mod_row 37 = .ok (.iastore, 1) := by decide +kernel
theorem d_Mod_row_38 : decode b_Mod_row 38 = .ok (.aload_n 0, 1) := by decide +kernel
theorem d_Mod_row_39 : decode b_Mod_row 39 = .ok (.getfield 46, 3) := by decide +kernel
theorem d_Mod_row_42 : decode b_Mod_row 42 = .ok (.iload_n 1, 1) := by decide +kernel
theorem d_Mod_row_43 : decode b_Mod_row 43 = .ok (.iload_n 2, 1) := by decide +kernel
theorem d_Mod_row_44 : decode b_Mod_row 44 = .ok (.iastore, 1) := by decide +kernel
theorem d_Mod_row_45 : decode b_Mod_row 45 = .ok (.aload_n 0, 1) := by decide +kernel
theorem d_Mod_row_46 : decode b_Mod_row 46 = .ok (.getfield 49, 3) := by decide +kernel
theorem d_Mod_row_49 : decode b_Mod_row 49 = .ok (.iload_n 1, 1) := by decide +kernel
theorem d_Mod_row_50 : decode b_Mod_row 50 = .ok (.iload_n 3, 1) := by decide +kernel
theorem d_Mod_row_51 : decode b_Mod_row 51 = .ok (.iastore, 1) := by decide +kernel
theorem d_Mod_row_52 : decode b_Mod_row 52 = .ok (.iconst 0, 1) := by decide +kernel
theorem d_Mod_row_53 : decode b_Mod_row 53 = .ok (.istore 4, 2) := by decide +kernel
theorem d_Mod_row_55 : decode b_Mod_row 55 = .ok (.iload 4, 2) := by decide +kernel
theorem d_Mod_row_57 : decode b_Mod_row 57 = .ok (.bipush 100, 2) := by decide +kernel
theorem d_Mod_row_59 : decode b_Mod_row 59 = .ok (.if_icmp .ge 22, 3) := by decide +kernel
theorem d_Mod_row_62 : decode b_Mod_row 62 = .ok (.aload_n 0, 1) := by decide +kernel
theorem d_Mod_row_63 : decode b_Mod_row 63 = .ok (.getfield 52, 3) := by decide +kernel
theorem d_Mod_row_66 : decode b_Mod_row 66 = .ok (.bipush 100, 2) := by decide +kernel
theorem d_Mod_row_68 : decode b_Mod_row 68 = .ok (.iload_n 1, 1) := by decide +kernel
theorem d_Mod_row_69 : decode b_Mod_row 69 = .ok (.imul, 1) := by decide +kernel
theorem d_Mod_row_70 : decode b_Mod_row 70 = .ok (.iload 4, 2) := by decide +kernel
theorem d_Mod_row_72 : decode b_Mod_row 72 = .ok (.iadd, 1) := by decide +kernel
theorem d_Mod_row_73 : decode b_Mod_row 73 = .ok (.iconst 0, 1) := by decide +kernel
theorem d_Mod_row_74 : decode b_Mod_row 74 = .ok (.iastore, 1) := by decide +kernel
theorem d_Mod_row_75 : decode b_Mod_row 75 = .ok (.iinc 4 1, 3) := by decide +kernel
theorem d_Mod_row_78 : decode b_Mod_row 78 = .ok (.goto (-23), 3) := by decide +kernel
theorem d_Mod_row_81 : decode b_Mod_row 81 = .ok (.iconst 0, 1) := by decide +kernel
theorem d_Mod_row_82 : decode b_Mod_row 82 = .ok (.ireturn, 1) := by decide +kernel
theorem d_Mod_put_0 : decode b_Mod_put 0 = .ok (.aload_n 0, 1) := by decide +kernel
theorem d_Mod_put_1 : decode b_Mod_put 1 = .ok (.iload_n 1, 1) := by decide +kernel
theorem d_Mod_put_2 : decode b_Mod_put 2 = .ok (.iconst (-1), 1) := by decide +kernel
theorem d_Mod_put_3 : decode b_Mod_put 3 = .ok (.invokevirtual 186, 3) := by decide +kernel
theorem d_Mod_put_6 : decode b_Mod_put 6 = .ok (.istore 4, 2) := by decide +kernel
theorem d_Mod_put_8 : decode b_Mod_put 8 = .ok (.iload 4, 2) := by decide +kernel
theorem d_Mod_put_10 : decode b_Mod_put 10 = .ok (.ifCond .eq 6, 3) := by decide +kernel
theorem d_Mod_put_13 : decode b_Mod_put 13 = .ok (.iload 4, 2) := by decide +kernel
theorem d_Mod_put_15 : decode b_Mod_put 15 = .ok (.ireturn, 1) := by decide +kernel
theorem d_Mod_put_16 : decode b_Mod_put 16 = .ok (.iload_n 2, 1) := by decide +kernel
theorem d_Mod_put_17 : decode b_Mod_put 17 = .ok (.iconst 0, 1) := by decide +kernel
theorem d_Mod_put_18 : decode b_Mod_put 18 = .ok (.aload_n 0, 1) := by decide +kernel
theorem d_Mod_put_19 : decode b_Mod_put 19 = .ok (.getfield 49, 3) := by decide +kernel
theorem d_Mod_put_22 : decode b_Mod_put 22 = .ok (.iload_n 1, 1) := by decide +kernel
theorem d_Mod_put_23 : decode b_Mod_put 23 = .ok (.iaload, 1) := by decide +kernel
theorem d_Mod_put_24 : decode b_Mod_put 24 = .ok (.iconst 1, 1) := by decide +kernel
theorem d_Mod_put_25 : decode b_Mod_put 25 = .ok (.isub, 1) := by decide +kernel
theorem d_Mod_put_26 : decode b_Mod_put 26 = .ok (.invokestatic 55, 3) := by decide +kernel
theorem d_Mod_put_29 : decode b_Mod_put 29 = .ok (.ifCond .ne 6, 3) := by decide +kernel
theorem d_Mod_put_32 : decode b_Mod_put 32 = .ok (.bipush (-13), 2) := by decide +kernel
theorem d_Mod_put_34 : decode b_Mod_put 34 = .ok (.ireturn, 1) := by decide +kernel
theorem d_Mod_put_35 : decode b_Mod_put 35 = .ok (.aload_n 0, 1) := by decide +kernel
theorem d_Mod_put_36 : decode b_Mod_put 36 = .ok (.getfield 52, 3) := by decide +kernel
theorem d_Mod_put_39 : decode b_Mod_put 39 = .ok (.bipush 100, 2) := by decide +kernel
theorem d_Mod_put_41 : decode b_Mod_put 41 = .ok (.iload_n 1, 1) := by decide +kernel
theorem d_Mod_put_42 : decode b_Mod_put 42 = .ok (.imul, 1) := by decide +kernel
theorem d_Mod_put_43 : decode b_Mod_put 43 = .ok (.iload_n 2, 1) := by decide +kernel
theorem d_Mod_put_44 : decode b_Mod_put 44 = .ok (.iadd, 1) := by decide +kernel
theorem d_Mod_put_45 : decode b_Mod_put 45 = .ok (.aload_n 0, 1) := by decide +kernel
theorem d_Mod_put_46 : decode b_Mod_put 46 = .ok (.getfield 46, 3) := by decide +kernel
theorem d_Mod_put_49 : decode b_Mod_put 49 = .ok (.iload_n 1, 1) := by decide +kernel
theorem d_Mod_put_50 : decode b_Mod_put 50 = .ok (.iaload, 1) := by decide +kernel
theorem d_Mod_put_51 : decode b_Mod_put 51 = .ok (.ifCond .ne 8, 3) := by decide +kernel
theorem d_Mod_put_54 : decode b_Mod_put 54 = .ok (.iload_n 3, 1) := by decide +kernel
theorem d_Mod_put_55 : decode b_Mod_put 55 = .ok (.i2b, 1) := by decide +kernel
theorem d_Mod_put_56 : decode b_Mod_put 56 = .ok (.goto 19, 3) := by decide +kernel
theorem d_Mod_put_59 : decode b_Mod_put 59 = .ok (.aload_n 0, 1) := by decide +kernel
theorem d_Mod_put_60 : decode b_Mod_put 60 = .ok (.getfield 46, 3) := by decide +kernel
theorem d_Mod_put_63 : decode b_Mod_put 63 = .ok (.iload_n 1, 1) := by decide +kernel
theorem d_Mod_put_64 : decode b_Mod_put 64 = .ok (.iaload, 1) := by decide +kernel
theorem d_Mod_put_65 : decode b_Mod_put 65 = .ok (.iconst 1, 1) := by decide +kernel
theorem d_Mod_put_66 : decode b_Mod_put 66 = .ok (.if_icmp .ne 8, 3) := by decide +kernel
theorem d_Mod_put_69 : decode b_Mod_put 69 = .ok (.iload_n 3, 1) := by decide +kernel
theorem d_Mod_put_70 : decode b_Mod_put 70 = .ok (.i2s, 1) := by decide +kernel
theorem d_Mod_put_71 : decode b_Mod_put 71 = .ok (.goto 4, 3) := by decide +kernel
theorem d_Mod_put_74 : decode b_Mod_put 74 = .ok (.iload_n 3, 1) := by decide +kernel
theorem d_Mod_put_75 : decode b_Mod_put 75 = .ok (.iastore, 1) := by decide +kernel
theorem d_Mod_put_76 : decode b_Mod_put 76 = .ok (.iconst 0, 1) := by decide +kernel
theorem d_Mod_put_77 : decode b_Mod_put 77 = .ok (.ireturn, 1) := by decide +kernel
theorem d_Mod_element_0 : decode b_Mod_element 0 = .ok (.aload_n 0, 1) := by decide +kernel
theorem d_Mod_element_1 : decode b_Mod_element 1 = .ok (.iload_n 1, 1) := by decide +kernel
theorem d_Mod_element_2 : decode b_Mod_element 2 = .ok (.invokestatic 206, 3) := by decide +kernel
theorem d_Mod_element_5 : decode b_Mod_element 5 = .ok (.ifCond .ne 7, 3) := by decide +kernel
theorem d_Mod_element_8 : decode b_Mod_element 8 = .ok (.iconst 1, 1) := by decide +kernel
theorem d_Mod_element_9 : decode b_Mod_element 9 = .ok (.goto 34, 3) := by decide +kernel
theorem d_Mod_element_12 : decode b_Mod_element 12 = .ok (.aload_n 0, 1) := by decide +kernel
theorem d_Mod_element_13 : decode b_Mod_element 13 = .ok (.getfield 37, 3) := by decide +kernel
theorem d_Mod_element_16 : decode b_Mod_element 16 = .ok (.iload_n 1, 1) := by decide +kernel
theorem d_Mod_element_17 : decode b_Mod_element 17 = .ok (.iaload, 1) := by decide +kernel
theorem d_Mod_element_18 : decode b_Mod_element 18 = .ok (.iconst 2, 1) := by decide +kernel
theorem d_Mod_element_19 : decode b_Mod_element 19 = .ok (.if_icmp .ne 19, 3) := by decide +kernel
theorem d_Mod_element_22 : decode b_Mod_element 22 = .ok (.iload_n 2, 1) := by decide +kernel
theorem d_Mod_element_23 : decode b_Mod_element 23 = .ok (.iconst 0, 1) := by decide +kernel
theorem d_Mod_element_24 : decode b_Mod_element 24 = .ok (.aload_n 0, 1) := by decide +kernel
theorem d_Mod_element_25 : decode b_Mod_element 25 = .ok (.getfield 49, 3) := by decide +kernel
theorem d_Mod_element_28 : decode b_Mod_element 28 = .ok (.iload_n 1, 1) := by decide +kernel
theorem d_Mod_element_29 : decode b_Mod_element 29 = .ok (.iaload, 1) := by decide +kernel
theorem d_Mod_element_30 : decode b_Mod_element 30 = .ok (.iconst 1, 1) := by decide +kernel
theorem d_Mod_element_31 : decode b_Mod_element 31 = .ok (.isub, 1) := by decide +kernel
theorem d_Mod_element_32 : decode b_Mod_element 32 = .ok (.invokestatic 55, 3) := by decide +kernel
theorem d_Mod_element_35 : decode b_Mod_element 35 = .ok (.ifCond .ne 7, 3) := by decide +kernel
theorem d_Mod_element_38 : decode b_Mod_element 38 = .ok (.iconst 2, 1) := by decide +kernel
theorem d_Mod_element_39 : decode b_Mod_element 39 = .ok (.goto 4, 3) := by decide +kernel
theorem d_Mod_element_42 : decode b_Mod_element 42 = .ok (.iconst 0, 1) := by decide +kernel
theorem d_Mod_element_43 : decode b_Mod_element 43 = .ok (.putfield 279, 3) := by decide +kernel
theorem d_Mod_element_46 : decode b_Mod_element 46 = .ok (.aload_n 0, 1) := by decide +kernel
theorem d_Mod_element_47 : decode b_Mod_element 47 = .ok (.getfield 279, 3) := by decide +kernel
theorem d_Mod_element_50 : decode b_Mod_element 50 = .ok (.ifCond .ne 18, 3) := by decide +kernel
theorem d_Mod_element_53 : decode b_Mod_element 53 = .ok (.aload_n 0, 1) := by decide +kernel
theorem d_Mod_element_54 : decode b_Mod_element 54 = .ok (.getfield 52, 3) := by decide +kernel
theorem d_Mod_element_57 : decode b_Mod_element 57 = .ok (.bipush 100, 2) := by decide +kernel
theorem d_Mod_element_59 : decode b_Mod_element 59 = .ok (.iload_n 1, 1) := by decide +kernel
theorem d_Mod_element_60 : decode b_Mod_element 60 = .ok (.imul, 1) := by decide +kernel
theorem d_Mod_element_61 : decode b_Mod_element 61 = .ok (.iload_n 2, 1) := by decide +kernel
theorem d_Mod_element_62 : decode b_Mod_element 62 = .ok (.iadd, 1) := by decide +kernel
theorem d_Mod_element_63 : decode b_Mod_element 63 = .ok (.iaload, 1) := by decide +kernel
theorem d_Mod_element_64 : decode b_Mod_element 64 = .ok (.i2l, 1) := by decide +kernel
theorem d_Mod_element_65 : decode b_Mod_element 65 = .ok (.goto 4, 3) := by decide +kernel
theorem d_Mod_element_68 : decode b_Mod_element 68 = .ok (.lconst 0, 1) := by decide +kernel
theorem d_Mod_element_69 : decode b_Mod_element 69 = .ok (.lreturn, 1) := by decide +kernel
set_option maxRecDepth 100000 in
theorem cw_Mod_drawn : CwV y_Mod_drawn b_Mod_drawn 2 (some FieldType.int) 1 := ⟨tbl_at 1395 (by decide +kernel) rfl, tbl_at 46 (by decide +kernel) rfl, tbl_at 57 (by decide +kernel) rfl, tbl_at 1396 rfl rfl, by decide +kernel, by decide +kernel, by decide +kernel⟩
set_option maxRecDepth 100000 in
theorem cw_Mod_leastOf : CwS y_Mod_leastOf b_Mod_leastOf 1 (some FieldType.int) 1 := ⟨tbl_at 1378 (by decide +kernel) rfl, tbl_at 57 (by decide +kernel) rfl, tbl_at 1379 rfl rfl, by decide +kernel, by decide +kernel, by decide +kernel⟩
set_option maxRecDepth 100000 in
theorem cw_Mod_wrongRock : CwV y_Mod_wrongRock b_Mod_wrongRock 8 (some FieldType.int) 3 := ⟨tbl_at 1375 (by decide +kernel) rfl, tbl_at 45 (by decide +kernel) rfl, tbl_at 57 (by decide +kernel) rfl, tbl_at 1376 rfl rfl, by decide +kernel, by decide +kernel, by decide +kernel⟩
set_option maxRecDepth 100000 in
theorem cw_Mod_wrongRocks : CwV y_Mod_wrongRocks b_Mod_wrongRocks 4 (some FieldType.int) 2 := ⟨tbl_at 1371 (by decide +kernel) rfl, tbl_at 44 (by decide +kernel) rfl, tbl_at 57 (by decide +kernel) rfl, tbl_at 1372 rfl rfl, by decide +kernel, by decide +kernel, by decide +kernel⟩
theorem fl_Mod_13 : Cond.fieldLink R_Mod 13 "BreatheOutModel" "image" "[I" ∈ tbl := tbl_at 996 (by decide +kernel) rfl
theorem fl_Mod_266 : Cond.fieldLink R_Mod 266 "BreatheOutModel" "seed" "I" ∈ tbl := tbl_at 1027 (by decide +kernel) rfl
theorem fl_Mod_275 : Cond.fieldLink R_Mod 275 "BreatheOutModel" "hasImage" "Z" ∈ tbl := tbl_at 998 (by decide +kernel) rfl
theorem fl_Mod_279 : Cond.fieldLink R_Mod 279 "BreatheOutModel" "thrown" "I" ∈ tbl := tbl_at 1034 (by decide +kernel) rfl
theorem lc_Mod_269 : Cond.constant R_Mod 269 (1103515245) ∈ tbl := tbl_at 1397 (by decide +kernel) rfl
theorem lc_Mod_270 : Cond.constant R_Mod 270 (2147483647) ∈ tbl := tbl_at 1398 (by decide +kernel) rfl
theorem lc_Mod_271 : Cond.constant R_Mod 271 (65536) ∈ tbl := tbl_at 1399 (by decide +kernel) rfl
theorem ml_Mod_257 : Cond.methodLink R_Mod 257 y_Mod_leastOf ∈ tbl := tbl_at 1377 (by decide +kernel) rfl
theorem ml_Mod_260 : Cond.methodLink R_Mod 260 y_Mod_wrongRocks ∈ tbl := tbl_at 1369 (by decide +kernel) rfl
theorem ml_Mod_263 : Cond.methodLink R_Mod 263 y_Mod_wrongRock ∈ tbl := tbl_at 1373 (by decide +kernel) rfl
theorem ml_Mod_272 : Cond.methodLink R_Mod 272 y_Mod_drawn ∈ tbl := tbl_at 1393 (by decide +kernel) rfl
def vc_Mod_wrongRock (x1 : Int32) (x2 : Int32) (x3 : Int32) (s : St) (Q : Int32 → St → Prop) : Prop :=
    vc_Mod_of x1 0 s (fun x10 => (vp_in x2 8 ∧ (∀ x13 : Int32, x13 = s 96 (Int32.toNatClampNeg x2) → vc_Mod_atBody x1 0 (fun x14 => (vp_in x14 78 ∧ (∀ s17 : St, s17 = wr s 83 (Int32.toNatClampNeg x14) x3 → (vp_in x2 8 ∧ (∀ x19 : Int32, x19 = (s17 96 (Int32.toNatClampNeg x2)) - 1 → (∃ I22 : Nat → Int32 → Int32 → Prop, (∃ n23, I22 n23 x13 x19) ∧ ∀ (nI22 : Nat) (x20 : Int32) (x21 : Int32), I22 nI22 x20 x21 → ((x21 < 0 → vc_Mod_atBody x1 0 (fun x25 => (vp_in x25 78 ∧ (∀ s28 : St, s28 = wr s17 83 (Int32.toNatClampNeg x25) x10 → Q x20 s28)))) ∧ (¬ x21 < 0 → (vp_in ((100 * x2) + x21) 800 ∧ (∀ x30 : Int32, x30 = s17 97 (Int32.toNatClampNeg ((100 * x2) + x21)) → (vp_in x2 8 ∧ vc_Mod_leastOf (s17 95 (Int32.toNatClampNeg x2)) (fun x32 => (∃ J35 : Int32 → Prop, (∀ (x34 : Int32), J35 x34 → (∀ x36 : Int32, x36 = x21 + (-1) → ∃ m37, m37 < nI22 ∧ I22 m37 x34 x36)) ∧ ((x30 = x32 → J35 x20) ∧ (¬ x30 = x32 → vc_Mod_hour  s17 (fun x39 => vc_Mod_fitsIn x1 x21 x39 s17 (fun x41 => ((x30 = x41 → J35 x20) ∧ (¬ x30 = x41 → J35 x21))))))))))))))))))))))
def rm_Mod_wrongRock : Room := { frames := 5, cells := 0, slots := 0, locals := 115 }
set_option maxHeartbeats 4000000 in
set_option maxRecDepth 20000 in
theorem m_Mod_wrongRock (g : Gx) (hg : gOk g) (x1 : Int32) (x2 : Int32) (x3 : Int32)  (s : St) (Q : Int32 → St → Prop) (hw : vc_Mod_wrongRock x1 x2 x3 s Q) : Mc g y_Mod_wrongRock b_Mod_wrongRock 8 (some FieldType.int) rm_Mod_wrongRock [.ref (ga g 82), .int x1, .int x2, .int x3] s (fun v s' => ∃ r : Int32, v = some (.int r) ∧ Q r s') := by
  refine mc_ofV (j := 4) (L := [some (.ref (ga g 82)), some (.int x1), some (.int x2), some (.int x3), none, none, none, none]) hg (by decide) (Nat.le_of_ble_eq_true rfl) rfl ?_
  intro X hX C
  subst hX
  unfold vc_Mod_wrongRock at hw
  refine x_aload_n C d_Mod_wrongRock_0 rfl ?_
  refine x_iload_n C d_Mod_wrongRock_1 rfl ?_
  refine x_iconst (v := 0) C d_Mod_wrongRock_2 rfl ?_
  refine x_callV (As := [.int x1, .int 0]) (rest := []) (p := 82) C (m_Mod_of (xg X) C.2.2.2.2.2.2.1 x1 0 s _ hw) cw_Mod_of ml_Mod_73 rfl (by decide) (by decide) rfl rfl rfl ⟨rfl, rfl, Nat.le_of_ble_eq_true rfl, Nat.le_of_ble_eq_true rfl⟩ ⟨Nat.zero_le _, Nat.zero_le _⟩ rfl (Nat.le_of_ble_eq_true rfl) d_Mod_wrongRock_3 ?_
  rintro _ _ ⟨x10, rfl, rfl, hw⟩
  show V X _ _ _ _ 6 [some (.ref (xa X 82)), some (.int x1), some (.int x2), some (.int x3), none, none, none, none] [.int x10]
  refine x_istore (L' := [some (.ref (xa X 82)), some (.int x1), some (.int x2), some (.int x3), some (.int x10), none, none, none]) C d_Mod_wrongRock_6 (Nat.le_of_ble_eq_true rfl) rfl ?_
  refine x_aload_n C d_Mod_wrongRock_8 rfl ?_
  refine g_Mod_37 (p := 82) C rfl fl_Mod_49 d_Mod_wrongRock_9 ?_
  refine x_iload_n C d_Mod_wrongRock_12 rfl ?_
  obtain ⟨h12, hw⟩ := hw
  refine x_iald (p := 96) (n := 8) C rfl h12 d_Mod_wrongRock_13 ?_
  refine x_nm (fun x13 hx13 => ?_)
  have hw := hw x13 hx13
  refine x_istore (L' := [some (.ref (xa X 82)), some (.int x1), some (.int x2), some (.int x3), some (.int x10), some (.int x13), none, none]) C d_Mod_wrongRock_14 (Nat.le_of_ble_eq_true rfl) rfl ?_
  refine x_aload_n C d_Mod_wrongRock_16 rfl ?_
  refine g_Mod_0 (p := 82) C rfl fl_Mod_9 d_Mod_wrongRock_17 ?_
  refine x_iload_n C d_Mod_wrongRock_20 rfl ?_
  refine x_iconst (v := 0) C d_Mod_wrongRock_21 rfl ?_
  refine x_callS (As := [.int x1, .int 0]) (rest := [.ref (xa X 83)]) C (m_Mod_atBody (xg X) C.2.2.2.2.2.2.1 x1 0 s _ hw) cw_Mod_atBody ml_Mod_59 rfl ⟨rfl, rfl, Nat.le_of_ble_eq_true rfl, Nat.le_of_ble_eq_true rfl⟩ ⟨Nat.zero_le _, Nat.zero_le _⟩ rfl (Nat.le_of_ble_eq_true rfl) d_Mod_wrongRock_22 ?_
  rintro _ _ ⟨x14, rfl, rfl, hw⟩
  show V X _ _ _ _ 25 [some (.ref (xa X 82)), some (.int x1), some (.int x2), some (.int x3), some (.int x10), some (.int x13), none, none] [.int x14, .ref (xa X 83)]
  refine x_iload_n C d_Mod_wrongRock_25 rfl ?_
  obtain ⟨h16, hw⟩ := hw
  refine x_iast (p := 83) (n := 78) C rfl h16 d_Mod_wrongRock_26 ?_
  refine x_st (fun s17 hs17 => ?_)
  have hw := hw s17 hs17
  refine x_aload_n C d_Mod_wrongRock_27 rfl ?_
  refine g_Mod_37 (p := 82) C rfl fl_Mod_49 d_Mod_wrongRock_28 ?_
  refine x_iload_n C d_Mod_wrongRock_31 rfl ?_
  obtain ⟨h18, hw⟩ := hw
  refine x_iald (p := 96) (n := 8) C rfl h18 d_Mod_wrongRock_32 ?_
  refine x_iconst (v := 1) C d_Mod_wrongRock_33 rfl ?_
  refine x_isub C d_Mod_wrongRock_34 ?_
  refine x_nm (fun x19 hx19 => ?_)
  have hw := hw x19 hx19
  refine x_istore (L' := [some (.ref (xa X 82)), some (.int x1), some (.int x2), some (.int x3), some (.int x10), some (.int x13), some (.int x19), none]) C d_Mod_wrongRock_35 (Nat.le_of_ble_eq_true rfl) rfl ?_
  obtain ⟨I22, ⟨n23, hn23⟩, hI22⟩ := hw
  have lI22 : ∀ (nI22 : Nat) (x20 : Int32) (x21 : Int32), I22 nI22 x20 x21 → V X (xQ X (fun v s' => ∃ r : Int32, v = some (.int r) ∧ Q r s')) 0 0 s17 37 [some (.ref (xa X 82)), some (.int x1), some (.int x2), some (.int x3), some (.int x10), some (.int x20), some (.int x21), none] [] := by
    intro nI22
    induction nI22 using Nat.strongRecOn with
    | ind nI22 ihI22 =>
      intro x20 x21 hv
      have hw := hI22 nI22 x20 x21 hv
      refine x_iload C d_Mod_wrongRock_37 rfl ?_
      refine x_if_lt (tgt := 96) C d_Mod_wrongRock_39 (by decide) (fun c24 => ?_) (fun c24 => ?_)
      · have hw := hw.1 c24
        refine x_aload_n C d_Mod_wrongRock_96 rfl ?_
        refine g_Mod_0 (p := 82) C rfl fl_Mod_9 d_Mod_wrongRock_97 ?_
        refine x_iload_n C d_Mod_wrongRock_100 rfl ?_
        refine x_iconst (v := 0) C d_Mod_wrongRock_101 rfl ?_
        refine x_callS (As := [.int x1, .int 0]) (rest := [.ref (xa X 83)]) C (m_Mod_atBody (xg X) C.2.2.2.2.2.2.1 x1 0 s17 _ hw) cw_Mod_atBody ml_Mod_59 rfl ⟨rfl, rfl, Nat.le_of_ble_eq_true rfl, Nat.le_of_ble_eq_true rfl⟩ ⟨Nat.zero_le _, Nat.zero_le _⟩ rfl (Nat.le_of_ble_eq_true rfl) d_Mod_wrongRock_102 ?_
        rintro _ _ ⟨x25, rfl, rfl, hw⟩
        show V X _ _ _ _ 105 [some (.ref (xa X 82)), some (.int x1), some (.int x2), some (.int x3), some (.int x10), some (.int x20), some (.int x21), none] [.int x25, .ref (xa X 83)]
        refine x_iload C d_Mod_wrongRock_105 rfl ?_
        obtain ⟨h27, hw⟩ := hw
        refine x_iast (p := 83) (n := 78) C rfl h27 d_Mod_wrongRock_107 ?_
        refine x_st (fun s28 hs28 => ?_)
        have hw := hw s28 hs28
        refine x_iload C d_Mod_wrongRock_108 rfl ?_
        exact x_ireturn C d_Mod_wrongRock_110 ⟨_, rfl, hw⟩
      · have hw := hw.2 c24
        refine x_aload_n C d_Mod_wrongRock_42 rfl ?_
        refine g_Mod_38 (p := 82) C rfl fl_Mod_52 d_Mod_wrongRock_43 ?_
        refine x_bipush (v := 100) C d_Mod_wrongRock_46 rfl ?_
        refine x_iload_n C d_Mod_wrongRock_48 rfl ?_
        refine x_imul C d_Mod_wrongRock_49 ?_
        refine x_iload C d_Mod_wrongRock_50 rfl ?_
        refine x_iadd C d_Mod_wrongRock_52 ?_
        obtain ⟨h29, hw⟩ := hw
        refine x_iald (p := 97) (n := 800) C rfl h29 d_Mod_wrongRock_53 ?_
        refine x_nm (fun x30 hx30 => ?_)
        have hw := hw x30 hx30
        refine x_istore (L' := [some (.ref (xa X 82)), some (.int x1), some (.int x2), some (.int x3), some (.int x10), some (.int x20), some (.int x21), some (.int x30)]) C d_Mod_wrongRock_54 (Nat.le_of_ble_eq_true rfl) rfl ?_
        refine x_iload C d_Mod_wrongRock_56 rfl ?_
        refine x_aload_n C d_Mod_wrongRock_58 rfl ?_
        refine g_Mod_36 (p := 82) C rfl fl_Mod_46 d_Mod_wrongRock_59 ?_
        refine x_iload_n C d_Mod_wrongRock_62 rfl ?_
        obtain ⟨h31, hw⟩ := hw
        refine x_iald (p := 95) (n := 8) C rfl h31 d_Mod_wrongRock_63 ?_
        refine x_callS (As := [.int (s17 95 (Int32.toNatClampNeg x2))]) (rest := [.int x30]) C (m_Mod_leastOf (xg X) C.2.2.2.2.2.2.1 (s17 95 (Int32.toNatClampNeg x2)) s17 _ hw) cw_Mod_leastOf ml_Mod_257 rfl ⟨rfl, rfl, Nat.le_of_ble_eq_true rfl, Nat.le_of_ble_eq_true rfl⟩ ⟨Nat.zero_le _, Nat.zero_le _⟩ rfl (Nat.le_of_ble_eq_true rfl) d_Mod_wrongRock_64 ?_
        rintro _ _ ⟨x32, rfl, rfl, hw⟩
        show V X _ _ _ _ 67 [some (.ref (xa X 82)), some (.int x1), some (.int x2), some (.int x3), some (.int x10), some (.int x20), some (.int x21), some (.int x30)] [.int x32, .int x30]
        obtain ⟨J35, hJ35, hw⟩ := hw
        have kJ35 : ∀ (x34 : Int32), J35 x34 → V X (xQ X (fun v s' => ∃ r : Int32, v = some (.int r) ∧ Q r s')) 0 0 s17 90 [some (.ref (xa X 82)), some (.int x1), some (.int x2), some (.int x3), some (.int x10), some (.int x34), some (.int x21), some (.int x30)] [] := by
          intro x34 hv
          have hw := hJ35 x34 hv
          obtain ⟨x36, hx36⟩ : ∃ z : Int32, z = x21 + (-1) := ⟨_, rfl⟩
          refine x_iinc (v := x36) (L' := [some (.ref (xa X 82)), some (.int x1), some (.int x2), some (.int x3), some (.int x10), some (.int x34), some (.int x36), some (.int x30)]) C d_Mod_wrongRock_90 (Nat.le_of_ble_eq_true rfl) rfl (by rw [hx36]; rfl) rfl ?_
          have hw := hw x36 hx36
          refine x_goto (tgt := 37) C d_Mod_wrongRock_93 (by decide) ?_
          obtain ⟨m37, hm37, hw⟩ := hw
          exact x_wk (ihI22 m37 hm37 x34 x36 hw) (And.intro rfl (And.intro rfl (And.intro rfl (And.intro rfl (And.intro rfl (And.intro rfl (And.intro rfl (trivial))))))))
        refine x_icmp_eq (tgt := 90) C d_Mod_wrongRock_67 (by decide) (fun c38 => ?_) (fun c38 => ?_)
        · have hw := hw.1 c38
          exact x_wk (kJ35 x20 hw) (And.intro rfl (And.intro rfl (And.intro rfl (And.intro rfl (And.intro rfl (And.intro rfl (And.intro rfl (And.intro rfl (trivial)))))))))
        · have hw := hw.2 c38
          refine x_iload C d_Mod_wrongRock_70 rfl ?_
          refine x_aload_n C d_Mod_wrongRock_72 rfl ?_
          refine x_iload_n C d_Mod_wrongRock_73 rfl ?_
          refine x_iload C d_Mod_wrongRock_74 rfl ?_
          refine x_aload_n C d_Mod_wrongRock_76 rfl ?_
          refine x_callV (As := []) (rest := [.int x21, .int x1, .ref (xa X 82), .int x30]) (p := 82) C (m_Mod_hour (xg X) C.2.2.2.2.2.2.1  s17 _ hw) cw_Mod_hour ml_Mod_203 rfl (by decide) (by decide) rfl rfl rfl ⟨rfl, rfl, Nat.le_of_ble_eq_true rfl, Nat.le_of_ble_eq_true rfl⟩ ⟨Nat.zero_le _, Nat.zero_le _⟩ rfl (Nat.le_of_ble_eq_true rfl) d_Mod_wrongRock_77 ?_
          rintro _ _ ⟨x39, rfl, rfl, hw⟩
          show V X _ _ _ _ 80 [some (.ref (xa X 82)), some (.int x1), some (.int x2), some (.int x3), some (.int x10), some (.int x20), some (.int x21), some (.int x30)] [.int x39, .int x21, .int x1, .ref (xa X 82), .int x30]
          refine x_callV (As := [.int x1, .int x21, .int x39]) (rest := [.int x30]) (p := 82) C (m_Mod_fitsIn (xg X) C.2.2.2.2.2.2.1 x1 x21 x39 s17 _ hw) cw_Mod_fitsIn ml_Mod_94 rfl (by decide) (by decide) rfl rfl rfl ⟨rfl, rfl, Nat.le_of_ble_eq_true rfl, Nat.le_of_ble_eq_true rfl⟩ ⟨Nat.zero_le _, Nat.zero_le _⟩ rfl (Nat.le_of_ble_eq_true rfl) d_Mod_wrongRock_80 ?_
          rintro _ _ ⟨x41, rfl, rfl, hw⟩
          show V X _ _ _ _ 83 [some (.ref (xa X 82)), some (.int x1), some (.int x2), some (.int x3), some (.int x10), some (.int x20), some (.int x21), some (.int x30)] [.int x41, .int x30]
          refine x_icmp_eq (tgt := 90) C d_Mod_wrongRock_83 (by decide) (fun c43 => ?_) (fun c43 => ?_)
          · have hw := hw.1 c43
            exact x_wk (kJ35 x20 hw) (And.intro rfl (And.intro rfl (And.intro rfl (And.intro rfl (And.intro rfl (And.intro rfl (And.intro rfl (And.intro rfl (trivial)))))))))
          · have hw := hw.2 c43
            refine x_iload C d_Mod_wrongRock_86 rfl ?_
            refine x_istore (L' := [some (.ref (xa X 82)), some (.int x1), some (.int x2), some (.int x3), some (.int x10), some (.int x21), some (.int x21), some (.int x30)]) C d_Mod_wrongRock_88 (Nat.le_of_ble_eq_true rfl) rfl ?_
            exact x_wk (kJ35 x21 hw) (And.intro rfl (And.intro rfl (And.intro rfl (And.intro rfl (And.intro rfl (And.intro rfl (And.intro rfl (And.intro rfl (trivial)))))))))
  exact x_wk (lI22 n23 x13 x19 hn23) (And.intro rfl (And.intro rfl (And.intro rfl (And.intro rfl (And.intro rfl (And.intro rfl (And.intro rfl (trivial))))))))
def vc_Mod_wrongRocks (x1 : Int32) (x2 : Int32) (s : St) (Q : Int32 → Prop) : Prop :=
    vc_Mod_isBody x1 s (fun b10 => ((¬ (bi b10) = 0 → vc_Mod_wrongRow x2 (-1) s (fun x13 => ((x13 = 0 → (vp_in x2 8 ∧ (vp_in 0 78 ∧ (((s 96 (Int32.toNatClampNeg x2)) ≤ (s 83 (Int32.toNatClampNeg 0)) → Q 0) ∧ (¬ (s 96 (Int32.toNatClampNeg x2)) ≤ (s 83 (Int32.toNatClampNeg 0)) → Q (-13)))))) ∧ (¬ x13 = 0 → Q x13)))) ∧ ((bi b10) = 0 → Q (-1))))
def rm_Mod_wrongRocks : Room := { frames := 3, cells := 0, slots := 0, locals := 64 }
set_option maxHeartbeats 4000000 in
set_option maxRecDepth 20000 in
theorem m_Mod_wrongRocks (g : Gx) (hg : gOk g) (x1 : Int32) (x2 : Int32)  (s : St) (Q : Int32 → Prop) (hw : vc_Mod_wrongRocks x1 x2 s Q) : Mc g y_Mod_wrongRocks b_Mod_wrongRocks 4 (some FieldType.int) rm_Mod_wrongRocks [.ref (ga g 82), .int x1, .int x2] s (fun v s' => ∃ r : Int32, v = some (.int r) ∧ s = s' ∧ Q r) := by
  refine mc_ofV (j := 1) (L := [some (.ref (ga g 82)), some (.int x1), some (.int x2), none]) hg (by decide) (Nat.le_of_ble_eq_true rfl) rfl ?_
  intro X hX C
  subst hX
  unfold vc_Mod_wrongRocks at hw
  refine x_aload_n C d_Mod_wrongRocks_0 rfl ?_
  refine x_iload_n C d_Mod_wrongRocks_1 rfl ?_
  refine x_callV (As := [.int x1]) (rest := []) (p := 82) C (m_Mod_isBody (xg X) C.2.2.2.2.2.2.1 x1 s _ hw) cw_Mod_isBody ml_Mod_179 rfl (by decide) (by decide) rfl rfl rfl ⟨rfl, rfl, Nat.le_of_ble_eq_true rfl, Nat.le_of_ble_eq_true rfl⟩ ⟨Nat.zero_le _, Nat.zero_le _⟩ rfl (Nat.le_of_ble_eq_true rfl) d_Mod_wrongRocks_2 ?_
  rintro _ _ ⟨b10, rfl, rfl, hw⟩
  show V X _ _ _ _ 5 [some (.ref (xa X 82)), some (.int x1), some (.int x2), none] [.int (bi b10)]
  refine x_if_ne (tgt := 10) C d_Mod_wrongRocks_5 (by decide) (fun c12 => ?_) (fun c12 => ?_)
  · have hw := hw.1 c12
    refine x_aload_n C d_Mod_wrongRocks_10 rfl ?_
    refine x_iload_n C d_Mod_wrongRocks_11 rfl ?_
    refine x_iconst (v := (-1)) C d_Mod_wrongRocks_12 rfl ?_
    refine x_callV (As := [.int x2, .int (-1)]) (rest := []) (p := 82) C (m_Mod_wrongRow (xg X) C.2.2.2.2.2.2.1 x2 (-1) s _ hw) cw_Mod_wrongRow ml_Mod_186 rfl (by decide) (by decide) rfl rfl rfl ⟨rfl, rfl, Nat.le_of_ble_eq_true rfl, Nat.le_of_ble_eq_true rfl⟩ ⟨Nat.zero_le _, Nat.zero_le _⟩ rfl (Nat.le_of_ble_eq_true rfl) d_Mod_wrongRocks_13 ?_
    rintro _ _ ⟨x13, rfl, rfl, hw⟩
    show V X _ _ _ _ 16 [some (.ref (xa X 82)), some (.int x1), some (.int x2), none] [.int x13]
    refine x_istore_n (L' := [some (.ref (xa X 82)), some (.int x1), some (.int x2), some (.int x13)]) C d_Mod_wrongRocks_16 (Nat.le_of_ble_eq_true rfl) rfl ?_
    refine x_iload_n C d_Mod_wrongRocks_17 rfl ?_
    refine x_if_eq (tgt := 25) C d_Mod_wrongRocks_18 (by decide) (fun c15 => ?_) (fun c15 => ?_)
    · have hw := hw.1 c15
      refine x_aload_n C d_Mod_wrongRocks_25 rfl ?_
      refine g_Mod_37 (p := 82) C rfl fl_Mod_49 d_Mod_wrongRocks_26 ?_
      refine x_iload_n C d_Mod_wrongRocks_29 rfl ?_
      obtain ⟨h16, hw⟩ := hw
      refine x_iald (p := 96) (n := 8) C rfl h16 d_Mod_wrongRocks_30 ?_
      refine x_aload_n C d_Mod_wrongRocks_31 rfl ?_
      refine g_Mod_0 (p := 82) C rfl fl_Mod_9 d_Mod_wrongRocks_32 ?_
      refine x_iconst (v := 0) C d_Mod_wrongRocks_35 rfl ?_
      obtain ⟨h17, hw⟩ := hw
      refine x_iald (p := 83) (n := 78) C rfl h17 d_Mod_wrongRocks_36 ?_
      refine x_icmp_le (tgt := 45) C d_Mod_wrongRocks_37 (by decide) (fun c18 => ?_) (fun c18 => ?_)
      · have hw := hw.1 c18
        refine x_iconst (v := 0) C d_Mod_wrongRocks_45 rfl ?_
        exact x_ireturn C d_Mod_wrongRocks_46 ⟨_, rfl, rfl, hw⟩
      · have hw := hw.2 c18
        refine x_bipush (v := (-13)) C d_Mod_wrongRocks_40 rfl ?_
        refine x_goto (tgt := 46) C d_Mod_wrongRocks_42 (by decide) ?_
        exact x_ireturn C d_Mod_wrongRocks_46 ⟨_, rfl, rfl, hw⟩
    · have hw := hw.2 c15
      refine x_iload_n C d_Mod_wrongRocks_21 rfl ?_
      refine x_goto (tgt := 46) C d_Mod_wrongRocks_22 (by decide) ?_
      exact x_ireturn C d_Mod_wrongRocks_46 ⟨_, rfl, rfl, hw⟩
  · have hw := hw.2 c12
    refine x_iconst (v := (-1)) C d_Mod_wrongRocks_8 rfl ?_
    exact x_ireturn C d_Mod_wrongRocks_9 ⟨_, rfl, rfl, hw⟩
def vc_Mod_rock (x1 : Int32) (x2 : Int32) (x3 : Int32) (s : St) (Q : Int32 → St → Prop) : Prop :=
    vc_Mod_isIn x3 0 1 (fun b10 => ((¬ (bi b10) = 0 → vc_Mod_wrongRocks x1 x2 s (fun x13 => ((x13 = 0 → (∃ I20 : Nat → Int32 → Int32 → Int32 → St → Prop, (∃ n21, I20 n21 0 (-4) 50 s) ∧ ∀ (nI20 : Nat) (x16 : Int32) (x17 : Int32) (x18 : Int32) (s19 : St), I20 nI20 x16 x17 x18 s19 → ((x18 < 10 → ((¬ x3 = 0 → Q x17 s19) ∧ (x3 = 0 → Q x16 s19))) ∧ (¬ x18 < 10 → vc_Mod_wrongRock x1 x2 x18 s19 (fun x24 s25 => (vp_in x2 8 ∧ (∃ J29 : Int32 → Int32 → Prop, (∀ (x27 : Int32) (x28 : Int32), J29 x27 x28 → (∀ x30 : Int32, x30 = x18 + (-1) → ∃ m31, m31 < nI20 ∧ I20 m31 x27 x28 x30 s25)) ∧ (((s25 96 (Int32.toNatClampNeg x2)) ≤ x24 → (∀ x33 : Int32, x33 = x16 + 1 → J29 x33 x18)) ∧ (¬ (s25 96 (Int32.toNatClampNeg x2)) ≤ x24 → J29 x16 x17))))))))) ∧ (¬ x13 = 0 → Q x13 s)))) ∧ ((bi b10) = 0 → Q (-1) s)))
def rm_Mod_rock : Room := { frames := 6, cells := 0, slots := 0, locals := 142 }
set_option maxHeartbeats 4000000 in
set_option maxRecDepth 20000 in
theorem m_Mod_rock (g : Gx) (hg : gOk g) (x1 : Int32) (x2 : Int32) (x3 : Int32)  (s : St) (Q : Int32 → St → Prop) (hw : vc_Mod_rock x1 x2 x3 s Q) : Mc g y_Mod_rock b_Mod_rock 8 (some FieldType.int) rm_Mod_rock [.ref (ga g 82), .int x1, .int x2, .int x3] s (fun v s' => ∃ r : Int32, v = some (.int r) ∧ Q r s') := by
  refine mc_ofV (j := 4) (L := [some (.ref (ga g 82)), some (.int x1), some (.int x2), some (.int x3), none, none, none, none]) hg (by decide) (Nat.le_of_ble_eq_true rfl) rfl ?_
  intro X hX C
  subst hX
  unfold vc_Mod_rock at hw
  refine x_iload_n C d_Mod_rock_0 rfl ?_
  refine x_iconst (v := 0) C d_Mod_rock_1 rfl ?_
  refine x_iconst (v := 1) C d_Mod_rock_2 rfl ?_
  refine x_callS (As := [.int x3, .int 0, .int 1]) (rest := []) C (m_Mod_isIn (xg X) C.2.2.2.2.2.2.1 x3 0 1 s _ hw) cw_Mod_isIn ml_Mod_55 rfl ⟨rfl, rfl, Nat.le_of_ble_eq_true rfl, Nat.le_of_ble_eq_true rfl⟩ ⟨Nat.zero_le _, Nat.zero_le _⟩ rfl (Nat.le_of_ble_eq_true rfl) d_Mod_rock_3 ?_
  rintro _ _ ⟨b10, rfl, rfl, hw⟩
  show V X _ _ _ _ 6 [some (.ref (xa X 82)), some (.int x1), some (.int x2), some (.int x3), none, none, none, none] [.int (bi b10)]
  refine x_if_ne (tgt := 11) C d_Mod_rock_6 (by decide) (fun c12 => ?_) (fun c12 => ?_)
  · have hw := hw.1 c12
    refine x_aload_n C d_Mod_rock_11 rfl ?_
    refine x_iload_n C d_Mod_rock_12 rfl ?_
    refine x_iload_n C d_Mod_rock_13 rfl ?_
    refine x_callV (As := [.int x1, .int x2]) (rest := []) (p := 82) C (m_Mod_wrongRocks (xg X) C.2.2.2.2.2.2.1 x1 x2 s _ hw) cw_Mod_wrongRocks ml_Mod_260 rfl (by decide) (by decide) rfl rfl rfl ⟨rfl, rfl, Nat.le_of_ble_eq_true rfl, Nat.le_of_ble_eq_true rfl⟩ ⟨Nat.zero_le _, Nat.zero_le _⟩ rfl (Nat.le_of_ble_eq_true rfl) d_Mod_rock_14 ?_
    rintro _ _ ⟨x13, rfl, rfl, hw⟩
    show V X _ _ _ _ 17 [some (.ref (xa X 82)), some (.int x1), some (.int x2), some (.int x3), none, none, none, none] [.int x13]
    refine x_istore (L' := [some (.ref (xa X 82)), some (.int x1), some (.int x2), some (.int x3), some (.int x13), none, none, none]) C d_Mod_rock_17 (Nat.le_of_ble_eq_true rfl) rfl ?_
    refine x_iload C d_Mod_rock_19 rfl ?_
    refine x_if_eq (tgt := 27) C d_Mod_rock_21 (by decide) (fun c15 => ?_) (fun c15 => ?_)
    · have hw := hw.1 c15
      refine x_iconst (v := 0) C d_Mod_rock_27 rfl ?_
      refine x_istore (L' := [some (.ref (xa X 82)), some (.int x1), some (.int x2), some (.int x3), some (.int x13), some (.int 0), none, none]) C d_Mod_rock_28 (Nat.le_of_ble_eq_true rfl) rfl ?_
      refine x_bipush (v := (-4)) C d_Mod_rock_30 rfl ?_
      refine x_istore (L' := [some (.ref (xa X 82)), some (.int x1), some (.int x2), some (.int x3), some (.int x13), some (.int 0), some (.int (-4)), none]) C d_Mod_rock_32 (Nat.le_of_ble_eq_true rfl) rfl ?_
      refine x_bipush (v := 50) C d_Mod_rock_34 rfl ?_
      refine x_istore (L' := [some (.ref (xa X 82)), some (.int x1), some (.int x2), some (.int x3), some (.int x13), some (.int 0), some (.int (-4)), some (.int 50)]) C d_Mod_rock_36 (Nat.le_of_ble_eq_true rfl) rfl ?_
      obtain ⟨I20, ⟨n21, hn21⟩, hI20⟩ := hw
      have lI20 : ∀ (nI20 : Nat) (x16 : Int32) (x17 : Int32) (x18 : Int32) (s19 : St), I20 nI20 x16 x17 x18 s19 → V X (xQ X (fun v s' => ∃ r : Int32, v = some (.int r) ∧ Q r s')) 0 0 s19 38 [some (.ref (xa X 82)), some (.int x1), some (.int x2), some (.int x3), some (.int x13), some (.int x16), some (.int x17), some (.int x18)] [] := by
        intro nI20
        induction nI20 using Nat.strongRecOn with
        | ind nI20 ihI20 =>
          intro x16 x17 x18 s19 hv
          have hw := hI20 nI20 x16 x17 x18 s19 hv
          refine x_iload C d_Mod_rock_38 rfl ?_
          refine x_bipush (v := 10) C d_Mod_rock_40 rfl ?_
          refine x_icmp_lt (tgt := 78) C d_Mod_rock_42 (by decide) (fun c22 => ?_) (fun c22 => ?_)
          · have hw := hw.1 c22
            refine x_iload_n C d_Mod_rock_78 rfl ?_
            refine x_if_ne (tgt := 87) C d_Mod_rock_79 (by decide) (fun c23 => ?_) (fun c23 => ?_)
            · have hw := hw.1 c23
              refine x_iload C d_Mod_rock_87 rfl ?_
              exact x_ireturn C d_Mod_rock_89 ⟨_, rfl, hw⟩
            · have hw := hw.2 c23
              refine x_iload C d_Mod_rock_82 rfl ?_
              refine x_goto (tgt := 89) C d_Mod_rock_84 (by decide) ?_
              exact x_ireturn C d_Mod_rock_89 ⟨_, rfl, hw⟩
          · have hw := hw.2 c22
            refine x_aload_n C d_Mod_rock_45 rfl ?_
            refine x_iload_n C d_Mod_rock_46 rfl ?_
            refine x_iload_n C d_Mod_rock_47 rfl ?_
            refine x_iload C d_Mod_rock_48 rfl ?_
            refine x_callV (As := [.int x1, .int x2, .int x18]) (rest := []) (p := 82) C (m_Mod_wrongRock (xg X) C.2.2.2.2.2.2.1 x1 x2 x18 s19 _ hw) cw_Mod_wrongRock ml_Mod_263 rfl (by decide) (by decide) rfl rfl rfl ⟨rfl, rfl, Nat.le_of_ble_eq_true rfl, Nat.le_of_ble_eq_true rfl⟩ ⟨Nat.zero_le _, Nat.zero_le _⟩ rfl (Nat.le_of_ble_eq_true rfl) d_Mod_rock_50 ?_
            rintro _ s25 ⟨x24, rfl, hw⟩
            show V X _ _ _ _ 53 [some (.ref (xa X 82)), some (.int x1), some (.int x2), some (.int x3), some (.int x13), some (.int x16), some (.int x17), some (.int x18)] [.int x24]
            refine x_aload_n C d_Mod_rock_53 rfl ?_
            refine g_Mod_37 (p := 82) C rfl fl_Mod_49 d_Mod_rock_54 ?_
            refine x_iload_n C d_Mod_rock_57 rfl ?_
            obtain ⟨h26, hw⟩ := hw
            refine x_iald (p := 96) (n := 8) C rfl h26 d_Mod_rock_58 ?_
            obtain ⟨J29, hJ29, hw⟩ := hw
            have kJ29 : ∀ (x27 : Int32) (x28 : Int32), J29 x27 x28 → V X (xQ X (fun v s' => ∃ r : Int32, v = some (.int r) ∧ Q r s')) 0 0 s25 72 [some (.ref (xa X 82)), some (.int x1), some (.int x2), some (.int x3), some (.int x13), some (.int x27), some (.int x28), some (.int x18)] [] := by
              intro x27 x28 hv
              have hw := hJ29 x27 x28 hv
              obtain ⟨x30, hx30⟩ : ∃ z : Int32, z = x18 + (-1) := ⟨_, rfl⟩
              refine x_iinc (v := x30) (L' := [some (.ref (xa X 82)), some (.int x1), some (.int x2), some (.int x3), some (.int x13), some (.int x27), some (.int x28), some (.int x30)]) C d_Mod_rock_72 (Nat.le_of_ble_eq_true rfl) rfl (by rw [hx30]; rfl) rfl ?_
              have hw := hw x30 hx30
              refine x_goto (tgt := 38) C d_Mod_rock_75 (by decide) ?_
              obtain ⟨m31, hm31, hw⟩ := hw
              exact x_wk (ihI20 m31 hm31 x27 x28 x30 s25 hw) (And.intro rfl (And.intro rfl (And.intro rfl (And.intro rfl (And.intro rfl (And.intro rfl (And.intro rfl (And.intro rfl (trivial)))))))))
            refine x_icmp_ge (tgt := 65) C d_Mod_rock_59 (by decide) (fun c32 => ?_) (fun c32 => ?_)
            · have hw := hw.1 c32
              obtain ⟨x33, hx33⟩ : ∃ z : Int32, z = x16 + 1 := ⟨_, rfl⟩
              refine x_iinc (v := x33) (L' := [some (.ref (xa X 82)), some (.int x1), some (.int x2), some (.int x3), some (.int x13), some (.int x33), some (.int x17), some (.int x18)]) C d_Mod_rock_65 (Nat.le_of_ble_eq_true rfl) rfl (by rw [hx33]; rfl) rfl ?_
              have hw := hw x33 hx33
              refine x_iload C d_Mod_rock_68 rfl ?_
              refine x_istore (L' := [some (.ref (xa X 82)), some (.int x1), some (.int x2), some (.int x3), some (.int x13), some (.int x33), some (.int x18), some (.int x18)]) C d_Mod_rock_70 (Nat.le_of_ble_eq_true rfl) rfl ?_
              exact x_wk (kJ29 x33 x18 hw) (And.intro rfl (And.intro rfl (And.intro rfl (And.intro rfl (And.intro rfl (And.intro rfl (And.intro rfl (And.intro rfl (trivial)))))))))
            · have hw := hw.2 c32
              refine x_goto (tgt := 72) C d_Mod_rock_62 (by decide) ?_
              exact x_wk (kJ29 x16 x17 hw) (And.intro rfl (And.intro rfl (And.intro rfl (And.intro rfl (And.intro rfl (And.intro rfl (And.intro rfl (And.intro rfl (trivial)))))))))
      exact x_wk (lI20 n21 0 (-4) 50 s hn21) (And.intro rfl (And.intro rfl (And.intro rfl (And.intro rfl (And.intro rfl (And.intro rfl (And.intro rfl (And.intro rfl (trivial)))))))))
    · have hw := hw.2 c15
      refine x_iload C d_Mod_rock_24 rfl ?_
      exact x_ireturn C d_Mod_rock_26 ⟨_, rfl, hw⟩
  · have hw := hw.2 c12
    refine x_iconst (v := (-1)) C d_Mod_rock_9 rfl ?_
    exact x_ireturn C d_Mod_rock_10 ⟨_, rfl, hw⟩
def vc_Mod_forged (x1 : Int32) (x2 : Int32) (s : St) (Q : Int32 → St → Prop) : Prop :=
    vc_Mod_wrongRocks x1 x2 s (fun x10 => ((x10 = 0 → (∃ I16 : Nat → Int32 → Int32 → St → Prop, (∃ n17, I16 n17 0 10 s) ∧ ∀ (nI16 : Nat) (x13 : Int32) (x14 : Int32) (s15 : St), I16 nI16 x13 x14 s15 → ((50 < x14 → (vp_in x2 8 ∧ ((¬ x13 = (s15 96 (Int32.toNatClampNeg x2)) → Q x13 s15) ∧ (x13 = (s15 96 (Int32.toNatClampNeg x2)) → Q (-4) s15)))) ∧ (¬ 50 < x14 → vc_Mod_wrongRock x1 x2 x14 s15 (fun x21 s22 => vc_Mod_most x13 x21 (fun x23 => (∀ x25 : Int32, x25 = x14 + 1 → ∃ m26, m26 < nI16 ∧ I16 m26 x23 x25 s22))))))) ∧ (¬ x10 = 0 → Q x10 s)))
def rm_Mod_forged : Room := { frames := 6, cells := 0, slots := 0, locals := 142 }
set_option maxHeartbeats 4000000 in
set_option maxRecDepth 20000 in
theorem m_Mod_forged (g : Gx) (hg : gOk g) (x1 : Int32) (x2 : Int32)  (s : St) (Q : Int32 → St → Prop) (hw : vc_Mod_forged x1 x2 s Q) : Mc g y_Mod_forged b_Mod_forged 6 (some FieldType.int) rm_Mod_forged [.ref (ga g 82), .int x1, .int x2] s (fun v s' => ∃ r : Int32, v = some (.int r) ∧ Q r s') := by
  refine mc_ofV (j := 3) (L := [some (.ref (ga g 82)), some (.int x1), some (.int x2), none, none, none]) hg (by decide) (Nat.le_of_ble_eq_true rfl) rfl ?_
  intro X hX C
  subst hX
  unfold vc_Mod_forged at hw
  refine x_aload_n C d_Mod_forged_0 rfl ?_
  refine x_iload_n C d_Mod_forged_1 rfl ?_
  refine x_iload_n C d_Mod_forged_2 rfl ?_
  refine x_callV (As := [.int x1, .int x2]) (rest := []) (p := 82) C (m_Mod_wrongRocks (xg X) C.2.2.2.2.2.2.1 x1 x2 s _ hw) cw_Mod_wrongRocks ml_Mod_260 rfl (by decide) (by decide) rfl rfl rfl ⟨rfl, rfl, Nat.le_of_ble_eq_true rfl, Nat.le_of_ble_eq_true rfl⟩ ⟨Nat.zero_le _, Nat.zero_le _⟩ rfl (Nat.le_of_ble_eq_true rfl) d_Mod_forged_3 ?_
  rintro _ _ ⟨x10, rfl, rfl, hw⟩
  show V X _ _ _ _ 6 [some (.ref (xa X 82)), some (.int x1), some (.int x2), none, none, none] [.int x10]
  refine x_istore_n (L' := [some (.ref (xa X 82)), some (.int x1), some (.int x2), some (.int x10), none, none]) C d_Mod_forged_6 (Nat.le_of_ble_eq_true rfl) rfl ?_
  refine x_iload_n C d_Mod_forged_7 rfl ?_
  refine x_if_eq (tgt := 13) C d_Mod_forged_8 (by decide) (fun c12 => ?_) (fun c12 => ?_)
  · have hw := hw.1 c12
    refine x_iconst (v := 0) C d_Mod_forged_13 rfl ?_
    refine x_istore (L' := [some (.ref (xa X 82)), some (.int x1), some (.int x2), some (.int x10), some (.int 0), none]) C d_Mod_forged_14 (Nat.le_of_ble_eq_true rfl) rfl ?_
    refine x_bipush (v := 10) C d_Mod_forged_16 rfl ?_
    refine x_istore (L' := [some (.ref (xa X 82)), some (.int x1), some (.int x2), some (.int x10), some (.int 0), some (.int 10)]) C d_Mod_forged_18 (Nat.le_of_ble_eq_true rfl) rfl ?_
    obtain ⟨I16, ⟨n17, hn17⟩, hI16⟩ := hw
    have lI16 : ∀ (nI16 : Nat) (x13 : Int32) (x14 : Int32) (s15 : St), I16 nI16 x13 x14 s15 → V X (xQ X (fun v s' => ∃ r : Int32, v = some (.int r) ∧ Q r s')) 0 0 s15 20 [some (.ref (xa X 82)), some (.int x1), some (.int x2), some (.int x10), some (.int x13), some (.int x14)] [] := by
      intro nI16
      induction nI16 using Nat.strongRecOn with
      | ind nI16 ihI16 =>
        intro x13 x14 s15 hv
        have hw := hI16 nI16 x13 x14 s15 hv
        refine x_iload C d_Mod_forged_20 rfl ?_
        refine x_bipush (v := 50) C d_Mod_forged_22 rfl ?_
        refine x_icmp_gt (tgt := 48) C d_Mod_forged_24 (by decide) (fun c18 => ?_) (fun c18 => ?_)
        · have hw := hw.1 c18
          refine x_iload C d_Mod_forged_48 rfl ?_
          refine x_aload_n C d_Mod_forged_50 rfl ?_
          refine g_Mod_37 (p := 82) C rfl fl_Mod_49 d_Mod_forged_51 ?_
          refine x_iload_n C d_Mod_forged_54 rfl ?_
          obtain ⟨h19, hw⟩ := hw
          refine x_iald (p := 96) (n := 8) C rfl h19 d_Mod_forged_55 ?_
          refine x_icmp_ne (tgt := 64) C d_Mod_forged_56 (by decide) (fun c20 => ?_) (fun c20 => ?_)
          · have hw := hw.1 c20
            refine x_iload C d_Mod_forged_64 rfl ?_
            exact x_ireturn C d_Mod_forged_66 ⟨_, rfl, hw⟩
          · have hw := hw.2 c20
            refine x_bipush (v := (-4)) C d_Mod_forged_59 rfl ?_
            refine x_goto (tgt := 66) C d_Mod_forged_61 (by decide) ?_
            exact x_ireturn C d_Mod_forged_66 ⟨_, rfl, hw⟩
        · have hw := hw.2 c18
          refine x_iload C d_Mod_forged_27 rfl ?_
          refine x_aload_n C d_Mod_forged_29 rfl ?_
          refine x_iload_n C d_Mod_forged_30 rfl ?_
          refine x_iload_n C d_Mod_forged_31 rfl ?_
          refine x_iload C d_Mod_forged_32 rfl ?_
          refine x_callV (As := [.int x1, .int x2, .int x14]) (rest := [.int x13]) (p := 82) C (m_Mod_wrongRock (xg X) C.2.2.2.2.2.2.1 x1 x2 x14 s15 _ hw) cw_Mod_wrongRock ml_Mod_263 rfl (by decide) (by decide) rfl rfl rfl ⟨rfl, rfl, Nat.le_of_ble_eq_true rfl, Nat.le_of_ble_eq_true rfl⟩ ⟨Nat.zero_le _, Nat.zero_le _⟩ rfl (Nat.le_of_ble_eq_true rfl) d_Mod_forged_34 ?_
          rintro _ s22 ⟨x21, rfl, hw⟩
          show V X _ _ _ _ 37 [some (.ref (xa X 82)), some (.int x1), some (.int x2), some (.int x10), some (.int x13), some (.int x14)] [.int x21, .int x13]
          refine x_callS (As := [.int x13, .int x21]) (rest := []) C (m_Mod_most (xg X) C.2.2.2.2.2.2.1 x13 x21 s22 _ hw) cw_Mod_most ml_Mod_66 rfl ⟨rfl, rfl, Nat.le_of_ble_eq_true rfl, Nat.le_of_ble_eq_true rfl⟩ ⟨Nat.zero_le _, Nat.zero_le _⟩ rfl (Nat.le_of_ble_eq_true rfl) d_Mod_forged_37 ?_
          rintro _ _ ⟨x23, rfl, rfl, hw⟩
          show V X _ _ _ _ 40 [some (.ref (xa X 82)), some (.int x1), some (.int x2), some (.int x10), some (.int x13), some (.int x14)] [.int x23]
          refine x_istore (L' := [some (.ref (xa X 82)), some (.int x1), some (.int x2), some (.int x10), some (.int x23), some (.int x14)]) C d_Mod_forged_40 (Nat.le_of_ble_eq_true rfl) rfl ?_
          obtain ⟨x25, hx25⟩ : ∃ z : Int32, z = x14 + 1 := ⟨_, rfl⟩
          refine x_iinc (v := x25) (L' := [some (.ref (xa X 82)), some (.int x1), some (.int x2), some (.int x10), some (.int x23), some (.int x25)]) C d_Mod_forged_42 (Nat.le_of_ble_eq_true rfl) rfl (by rw [hx25]; rfl) rfl ?_
          have hw := hw x25 hx25
          refine x_goto (tgt := 20) C d_Mod_forged_45 (by decide) ?_
          obtain ⟨m26, hm26, hw⟩ := hw
          exact x_wk (ihI16 m26 hm26 x23 x25 s22 hw) (And.intro rfl (And.intro rfl (And.intro rfl (And.intro rfl (And.intro rfl (And.intro rfl (trivial)))))))
    exact x_wk (lI16 n17 0 10 s hn17) (And.intro rfl (And.intro rfl (And.intro rfl (And.intro rfl (And.intro rfl (And.intro rfl (trivial)))))))
  · have hw := hw.2 c12
    refine x_iload_n C d_Mod_forged_11 rfl ?_
    exact x_ireturn C d_Mod_forged_12 ⟨_, rfl, hw⟩
def vc_Mod_judge (x1 : Int32) (s : St) (Q : Int32 → St → Prop) : Prop :=
    vc_Mod_wrongRow x1 (-1) s (fun x10 => ((x10 = 0 → (∀ s13 : St, s13 = wr s 82 7 0 → vc_Mod_goesThere  s13 (fun s14 => vc_Mod_bits (s14 82 8) (fun x15 => (∃ I18 : Nat → Int32 → Prop, (∃ n19, I18 n19 0) ∧ ∀ (nI18 : Nat) (x17 : Int32), I18 nI18 x17 → (vp_in x1 8 ∧ (((s14 96 (Int32.toNatClampNeg x1)) ≤ x17 → Q (-4) s14) ∧ (¬ (s14 96 (Int32.toNatClampNeg x1)) ≤ x17 → (vp_in ((100 * x1) + x17) 800 ∧ (∀ x23 : Int32, x23 = s14 97 (Int32.toNatClampNeg ((100 * x1) + x17)) → (vp_in x1 8 ∧ vc_Mod_leastOf (s14 95 (Int32.toNatClampNeg x1)) (fun x25 => (∃ J27 : Prop, (J27 → (∀ x28 : Int32, x28 = x17 + 1 → ∃ m29, m29 < nI18 ∧ I18 m29 x28)) ∧ ((¬ x23 = x25 → ((x17 < x15 → (vp_in x17 6 ∧ (vp_in 2 78 ∧ ((x23 = ((s14 86 (Int32.toNatClampNeg x17)) - (s14 83 (Int32.toNatClampNeg 2))) → J27) ∧ (¬ x23 = ((s14 86 (Int32.toNatClampNeg x17)) - (s14 83 (Int32.toNatClampNeg 2))) → Q x17 s14))))) ∧ (¬ x17 < x15 → Q x17 s14))) ∧ (x23 = x25 → J27))))))))))))))) ∧ (¬ x10 = 0 → Q x10 s)))
def rm_Mod_judge : Room := { frames := 7, cells := 0, slots := 0, locals := 163 }
set_option maxHeartbeats 4000000 in
set_option maxRecDepth 20000 in
theorem m_Mod_judge (g : Gx) (hg : gOk g) (x1 : Int32)  (s : St) (Q : Int32 → St → Prop) (hw : vc_Mod_judge x1 s Q) : Mc g y_Mod_judge b_Mod_judge 6 (some FieldType.int) rm_Mod_judge [.ref (ga g 82), .int x1] s (fun v s' => ∃ r : Int32, v = some (.int r) ∧ Q r s') := by
  refine mc_ofV (j := 4) (L := [some (.ref (ga g 82)), some (.int x1), none, none, none, none]) hg (by decide) (Nat.le_of_ble_eq_true rfl) rfl ?_
  intro X hX C
  subst hX
  unfold vc_Mod_judge at hw
  refine x_aload_n C d_Mod_judge_0 rfl ?_
  refine x_iload_n C d_Mod_judge_1 rfl ?_
  refine x_iconst (v := (-1)) C d_Mod_judge_2 rfl ?_
  refine x_callV (As := [.int x1, .int (-1)]) (rest := []) (p := 82) C (m_Mod_wrongRow (xg X) C.2.2.2.2.2.2.1 x1 (-1) s _ hw) cw_Mod_wrongRow ml_Mod_186 rfl (by decide) (by decide) rfl rfl rfl ⟨rfl, rfl, Nat.le_of_ble_eq_true rfl, Nat.le_of_ble_eq_true rfl⟩ ⟨Nat.zero_le _, Nat.zero_le _⟩ rfl (Nat.le_of_ble_eq_true rfl) d_Mod_judge_3 ?_
  rintro _ _ ⟨x10, rfl, rfl, hw⟩
  show V X _ _ _ _ 6 [some (.ref (xa X 82)), some (.int x1), none, none, none, none] [.int x10]
  refine x_istore_n (L' := [some (.ref (xa X 82)), some (.int x1), some (.int x10), none, none, none]) C d_Mod_judge_6 (Nat.le_of_ble_eq_true rfl) rfl ?_
  refine x_iload_n C d_Mod_judge_7 rfl ?_
  refine x_if_eq (tgt := 13) C d_Mod_judge_8 (by decide) (fun c12 => ?_) (fun c12 => ?_)
  · have hw := hw.1 c12
    refine x_aload_n C d_Mod_judge_13 rfl ?_
    refine x_iconst (v := 0) C d_Mod_judge_14 rfl ?_
    refine p_Mod_7 (p := 82) C rfl fl_Mod_112 d_Mod_judge_15 ?_
    refine x_st (fun s13 hs13 => ?_)
    have hw := hw s13 hs13
    refine x_aload_n C d_Mod_judge_18 rfl ?_
    refine x_callV (As := []) (rest := []) (p := 82) C (m_Mod_goesThere (xg X) C.2.2.2.2.2.2.1  s13 _ hw) cw_Mod_goesThere ml_Mod_136 rfl (by decide) (by decide) rfl rfl rfl ⟨rfl, rfl, Nat.le_of_ble_eq_true rfl, Nat.le_of_ble_eq_true rfl⟩ ⟨Nat.zero_le _, Nat.zero_le _⟩ rfl (Nat.le_of_ble_eq_true rfl) d_Mod_judge_19 ?_
    rintro _ s14 ⟨rfl, hw⟩
    show V X _ _ _ _ 22 [some (.ref (xa X 82)), some (.int x1), some (.int x10), none, none, none] []
    refine x_aload_n C d_Mod_judge_22 rfl ?_
    refine g_Mod_8 (p := 82) C rfl fl_Mod_118 d_Mod_judge_23 ?_
    refine x_callS (As := [.int (s14 82 8)]) (rest := []) C (m_Mod_bits (xg X) C.2.2.2.2.2.2.1 (s14 82 8) s14 _ hw) cw_Mod_bits ml_Mod_151 rfl ⟨rfl, rfl, Nat.le_of_ble_eq_true rfl, Nat.le_of_ble_eq_true rfl⟩ ⟨Nat.zero_le _, Nat.zero_le _⟩ rfl (Nat.le_of_ble_eq_true rfl) d_Mod_judge_26 ?_
    rintro _ _ ⟨x15, rfl, rfl, hw⟩
    show V X _ _ _ _ 29 [some (.ref (xa X 82)), some (.int x1), some (.int x10), none, none, none] [.int x15]
    refine x_istore_n (L' := [some (.ref (xa X 82)), some (.int x1), some (.int x10), some (.int x15), none, none]) C d_Mod_judge_29 (Nat.le_of_ble_eq_true rfl) rfl ?_
    refine x_iconst (v := 0) C d_Mod_judge_30 rfl ?_
    refine x_istore (L' := [some (.ref (xa X 82)), some (.int x1), some (.int x10), some (.int x15), some (.int 0), none]) C d_Mod_judge_31 (Nat.le_of_ble_eq_true rfl) rfl ?_
    obtain ⟨I18, ⟨n19, hn19⟩, hI18⟩ := hw
    have lI18 : ∀ (nI18 : Nat) (x17 : Int32), I18 nI18 x17 → V X (xQ X (fun v s' => ∃ r : Int32, v = some (.int r) ∧ Q r s')) 0 0 s14 33 [some (.ref (xa X 82)), some (.int x1), some (.int x10), some (.int x15), some (.int x17), none] [] := by
      intro nI18
      induction nI18 using Nat.strongRecOn with
      | ind nI18 ihI18 =>
        intro x17 hv
        have hw := hI18 nI18 x17 hv
        refine x_iload C d_Mod_judge_33 rfl ?_
        refine x_aload_n C d_Mod_judge_35 rfl ?_
        refine g_Mod_37 (p := 82) C rfl fl_Mod_49 d_Mod_judge_36 ?_
        refine x_iload_n C d_Mod_judge_39 rfl ?_
        obtain ⟨h20, hw⟩ := hw
        refine x_iald (p := 96) (n := 8) C rfl h20 d_Mod_judge_40 ?_
        refine x_icmp_ge (tgt := 112) C d_Mod_judge_41 (by decide) (fun c21 => ?_) (fun c21 => ?_)
        · have hw := hw.1 c21
          refine x_bipush (v := (-4)) C d_Mod_judge_112 rfl ?_
          exact x_ireturn C d_Mod_judge_114 ⟨_, rfl, hw⟩
        · have hw := hw.2 c21
          refine x_aload_n C d_Mod_judge_44 rfl ?_
          refine g_Mod_38 (p := 82) C rfl fl_Mod_52 d_Mod_judge_45 ?_
          refine x_bipush (v := 100) C d_Mod_judge_48 rfl ?_
          refine x_iload_n C d_Mod_judge_50 rfl ?_
          refine x_imul C d_Mod_judge_51 ?_
          refine x_iload C d_Mod_judge_52 rfl ?_
          refine x_iadd C d_Mod_judge_54 ?_
          obtain ⟨h22, hw⟩ := hw
          refine x_iald (p := 97) (n := 800) C rfl h22 d_Mod_judge_55 ?_
          refine x_nm (fun x23 hx23 => ?_)
          have hw := hw x23 hx23
          refine x_istore (L' := [some (.ref (xa X 82)), some (.int x1), some (.int x10), some (.int x15), some (.int x17), some (.int x23)]) C d_Mod_judge_56 (Nat.le_of_ble_eq_true rfl) rfl ?_
          refine x_iload C d_Mod_judge_58 rfl ?_
          refine x_aload_n C d_Mod_judge_60 rfl ?_
          refine g_Mod_36 (p := 82) C rfl fl_Mod_46 d_Mod_judge_61 ?_
          refine x_iload_n C d_Mod_judge_64 rfl ?_
          obtain ⟨h24, hw⟩ := hw
          refine x_iald (p := 95) (n := 8) C rfl h24 d_Mod_judge_65 ?_
          refine x_callS (As := [.int (s14 95 (Int32.toNatClampNeg x1))]) (rest := [.int x23]) C (m_Mod_leastOf (xg X) C.2.2.2.2.2.2.1 (s14 95 (Int32.toNatClampNeg x1)) s14 _ hw) cw_Mod_leastOf ml_Mod_257 rfl ⟨rfl, rfl, Nat.le_of_ble_eq_true rfl, Nat.le_of_ble_eq_true rfl⟩ ⟨Nat.zero_le _, Nat.zero_le _⟩ rfl (Nat.le_of_ble_eq_true rfl) d_Mod_judge_66 ?_
          rintro _ _ ⟨x25, rfl, rfl, hw⟩
          show V X _ _ _ _ 69 [some (.ref (xa X 82)), some (.int x1), some (.int x10), some (.int x15), some (.int x17), some (.int x23)] [.int x25, .int x23]
          obtain ⟨J27, hJ27, hw⟩ := hw
          have kJ27 : J27 → V X (xQ X (fun v s' => ∃ r : Int32, v = some (.int r) ∧ Q r s')) 0 0 s14 106 [some (.ref (xa X 82)), some (.int x1), some (.int x10), some (.int x15), some (.int x17), some (.int x23)] [] := by
            intro  hv
            have hw := hJ27  hv
            obtain ⟨x28, hx28⟩ : ∃ z : Int32, z = x17 + 1 := ⟨_, rfl⟩
            refine x_iinc (v := x28) (L' := [some (.ref (xa X 82)), some (.int x1), some (.int x10), some (.int x15), some (.int x28), some (.int x23)]) C d_Mod_judge_106 (Nat.le_of_ble_eq_true rfl) rfl (by rw [hx28]; rfl) rfl ?_
            have hw := hw x28 hx28
            refine x_goto (tgt := 33) C d_Mod_judge_109 (by decide) ?_
            obtain ⟨m29, hm29, hw⟩ := hw
            exact x_wk (ihI18 m29 hm29 x28 hw) (And.intro rfl (And.intro rfl (And.intro rfl (And.intro rfl (And.intro rfl (trivial))))))
          refine x_icmp_ne (tgt := 75) C d_Mod_judge_69 (by decide) (fun c30 => ?_) (fun c30 => ?_)
          · have hw := hw.1 c30
            refine x_iload C d_Mod_judge_75 rfl ?_
            refine x_iload_n C d_Mod_judge_77 rfl ?_
            refine x_icmp_lt (tgt := 84) C d_Mod_judge_78 (by decide) (fun c31 => ?_) (fun c31 => ?_)
            · have hw := hw.1 c31
              refine x_iload C d_Mod_judge_84 rfl ?_
              refine x_aload_n C d_Mod_judge_86 rfl ?_
              refine g_Mod_16 (p := 82) C rfl fl_Mod_19 d_Mod_judge_87 ?_
              refine x_iload C d_Mod_judge_90 rfl ?_
              obtain ⟨h32, hw⟩ := hw
              refine x_iald (p := 86) (n := 6) C rfl h32 d_Mod_judge_92 ?_
              refine x_aload_n C d_Mod_judge_93 rfl ?_
              refine g_Mod_0 (p := 82) C rfl fl_Mod_9 d_Mod_judge_94 ?_
              refine x_iconst (v := 2) C d_Mod_judge_97 rfl ?_
              obtain ⟨h33, hw⟩ := hw
              refine x_iald (p := 83) (n := 78) C rfl h33 d_Mod_judge_98 ?_
              refine x_isub C d_Mod_judge_99 ?_
              refine x_icmp_eq (tgt := 106) C d_Mod_judge_100 (by decide) (fun c34 => ?_) (fun c34 => ?_)
              · have hw := hw.1 c34
                exact x_wk (kJ27  hw) (And.intro rfl (And.intro rfl (And.intro rfl (And.intro rfl (And.intro rfl (And.intro rfl (trivial)))))))
              · have hw := hw.2 c34
                refine x_iload C d_Mod_judge_103 rfl ?_
                exact x_ireturn C d_Mod_judge_105 ⟨_, rfl, hw⟩
            · have hw := hw.2 c31
              refine x_iload C d_Mod_judge_81 rfl ?_
              exact x_ireturn C d_Mod_judge_83 ⟨_, rfl, hw⟩
          · have hw := hw.2 c30
            refine x_goto (tgt := 106) C d_Mod_judge_72 (by decide) ?_
            exact x_wk (kJ27  hw) (And.intro rfl (And.intro rfl (And.intro rfl (And.intro rfl (And.intro rfl (And.intro rfl (trivial)))))))
    exact x_wk (lI18 n19 0 hn19) (And.intro rfl (And.intro rfl (And.intro rfl (And.intro rfl (And.intro rfl (trivial))))))
  · have hw := hw.2 c12
    refine x_iload_n C d_Mod_judge_11 rfl ?_
    exact x_ireturn C d_Mod_judge_12 ⟨_, rfl, hw⟩
def vc_Mod_drawn (x1 : Int32) (s : St) (Q : Int32 → St → Prop) : Prop :=
    (∀ s10 : St, s10 = wr s 82 32 (((s 82 32) * 1103515245) + 12345) → (¬ x1 = 0 ∧ Q ((((s10 82 32) &&& 2147483647) / 65536) - (((s10 82 32) &&& 2147483647) / 65536) / x1 * x1) s10))
def rm_Mod_drawn : Room := { frames := 0, cells := 0, slots := 0, locals := 0 }
set_option maxHeartbeats 4000000 in
set_option maxRecDepth 20000 in
theorem m_Mod_drawn (g : Gx) (hg : gOk g) (x1 : Int32)  (s : St) (Q : Int32 → St → Prop) (hw : vc_Mod_drawn x1 s Q) : Mc g y_Mod_drawn b_Mod_drawn 2 (some FieldType.int) rm_Mod_drawn [.ref (ga g 82), .int x1] s (fun v s' => ∃ r : Int32, v = some (.int r) ∧ Q r s') := by
  refine mc_ofV (j := 0) (L := [some (.ref (ga g 82)), some (.int x1)]) hg (by decide) (Nat.le_of_ble_eq_true rfl) rfl ?_
  intro X hX C
  subst hX
  unfold vc_Mod_drawn at hw
  refine x_aload_n C d_Mod_drawn_0 rfl ?_
  refine x_aload_n C d_Mod_drawn_1 rfl ?_
  refine g_Mod_32 (p := 82) C rfl fl_Mod_266 d_Mod_drawn_2 ?_
  refine x_ldcw (v := 1103515245) C d_Mod_drawn_5 lc_Mod_269 ?_
  refine x_imul C d_Mod_drawn_8 ?_
  refine x_sipush (v := 12345) C d_Mod_drawn_9 rfl ?_
  refine x_iadd C d_Mod_drawn_12 ?_
  refine p_Mod_32 (p := 82) C rfl fl_Mod_266 d_Mod_drawn_13 ?_
  refine x_st (fun s10 hs10 => ?_)
  have hw := hw s10 hs10
  refine x_aload_n C d_Mod_drawn_16 rfl ?_
  refine g_Mod_32 (p := 82) C rfl fl_Mod_266 d_Mod_drawn_17 ?_
  refine x_ldcw (v := 2147483647) C d_Mod_drawn_20 lc_Mod_270 ?_
  refine x_iand C d_Mod_drawn_23 ?_
  refine x_ldcw (v := 65536) C d_Mod_drawn_24 lc_Mod_271 ?_
  refine x_idiv C d_Mod_drawn_27 (by decide) ?_
  refine x_iload_n C d_Mod_drawn_28 rfl ?_
  obtain ⟨h11, hw⟩ := hw
  refine x_irem C d_Mod_drawn_29 h11 ?_
  exact x_ireturn C d_Mod_drawn_30 ⟨_, rfl, hw⟩
def vc_Mod_parties (x1 : Int32) (x2 : Int32) (x3 : Int32) (s : St) (Q : Int32 → St → Prop) : Prop :=
    vc_Mod_isIn x1 1 20 (fun b10 => (((bi b10) = 0 → Q (-1) s) ∧ (¬ (bi b10) = 0 → vc_Mod_isIn x3 0 1 (fun b13 => ((¬ (bi b13) = 0 → (∀ s16 : St, s16 = wr s 82 32 x2 → vc_Mod_copies 83 78 85 78 s16 (fun s17 => (∀ s18 : St, s18 = wr s17 82 7 0 → (∃ I22 : Nat → Int32 → Int32 → St → Prop, (∃ n23, I22 n23 0 0 s18) ∧ ∀ (nI22 : Nat) (x19 : Int32) (x20 : Int32) (s21 : St), I22 nI22 x19 x20 s21 → ((x1 ≤ x20 → vc_Mod_copies 85 78 83 78 s21 (fun s25 => Q x19 s25)) ∧ (¬ x1 ≤ x20 → (∃ I28 : Nat → Int32 → St → Prop, (∃ n29, I28 n29 0 s21) ∧ ∀ (nI28 : Nat) (x26 : Int32) (s27 : St), I28 nI28 x26 s27 → (vp_in 1 78 ∧ (((s27 83 (Int32.toNatClampNeg 1)) ≤ x26 → vc_Mod_goesThereAndBack  s27 (fun s32 => (∃ J34 : Int32 → Prop, (∀ (x33 : Int32), J34 x33 → vc_Mod_bits x33 (fun x35 => (∀ x37 : Int32, x37 = x19 + x35 → (∀ x38 : Int32, x38 = x20 + 1 → ∃ m39, m39 < nI22 ∧ I22 m39 x37 x38 s32)))) ∧ ((¬ x3 = 0 → J34 (s32 82 11)) ∧ (x3 = 0 → J34 (s32 82 8)))))) ∧ (¬ (s27 83 (Int32.toNatClampNeg 1)) ≤ x26 → vc_Mod_atBody x26 2 (fun x41 => vc_Mod_drawn 10 s27 (fun x43 s44 => (vp_in x41 78 ∧ (∀ s46 : St, s46 = wr s44 83 (Int32.toNatClampNeg x41) x43 → (∀ x47 : Int32, x47 = x26 + 1 → ∃ m48, m48 < nI28 ∧ I28 m48 x47 s46)))))))))))))))) ∧ ((bi b13) = 0 → Q (-1) s))))))
def rm_Mod_parties : Room := { frames := 8, cells := 0, slots := 0, locals := 185 }
set_option maxHeartbeats 4000000 in
set_option maxRecDepth 20000 in
theorem m_Mod_parties (g : Gx) (hg : gOk g) (x1 : Int32) (x2 : Int32) (x3 : Int32)  (s : St) (Q : Int32 → St → Prop) (hw : vc_Mod_parties x1 x2 x3 s Q) : Mc g y_Mod_parties b_Mod_parties 7 (some FieldType.int) rm_Mod_parties [.ref (ga g 82), .int x1, .int x2, .int x3] s (fun v s' => ∃ r : Int32, v = some (.int r) ∧ Q r s') := by
  refine mc_ofV (j := 3) (L := [some (.ref (ga g 82)), some (.int x1), some (.int x2), some (.int x3), none, none, none]) hg (by decide) (Nat.le_of_ble_eq_true rfl) rfl ?_
  intro X hX C
  subst hX
  unfold vc_Mod_parties at hw
  refine x_iload_n C d_Mod_parties_0 rfl ?_
  refine x_iconst (v := 1) C d_Mod_parties_1 rfl ?_
  refine x_bipush (v := 20) C d_Mod_parties_2 rfl ?_
  refine x_callS (As := [.int x1, .int 1, .int 20]) (rest := []) C (m_Mod_isIn (xg X) C.2.2.2.2.2.2.1 x1 1 20 s _ hw) cw_Mod_isIn ml_Mod_55 rfl ⟨rfl, rfl, Nat.le_of_ble_eq_true rfl, Nat.le_of_ble_eq_true rfl⟩ ⟨Nat.zero_le _, Nat.zero_le _⟩ rfl (Nat.le_of_ble_eq_true rfl) d_Mod_parties_4 ?_
  rintro _ _ ⟨b10, rfl, rfl, hw⟩
  show V X _ _ _ _ 7 [some (.ref (xa X 82)), some (.int x1), some (.int x2), some (.int x3), none, none, none] [.int (bi b10)]
  refine x_if_eq (tgt := 19) C d_Mod_parties_7 (by decide) (fun c12 => ?_) (fun c12 => ?_)
  · have hw := hw.1 c12
    refine x_iconst (v := (-1)) C d_Mod_parties_19 rfl ?_
    exact x_ireturn C d_Mod_parties_20 ⟨_, rfl, hw⟩
  · have hw := hw.2 c12
    refine x_iload_n C d_Mod_parties_10 rfl ?_
    refine x_iconst (v := 0) C d_Mod_parties_11 rfl ?_
    refine x_iconst (v := 1) C d_Mod_parties_12 rfl ?_
    refine x_callS (As := [.int x3, .int 0, .int 1]) (rest := []) C (m_Mod_isIn (xg X) C.2.2.2.2.2.2.1 x3 0 1 s _ hw) cw_Mod_isIn ml_Mod_55 rfl ⟨rfl, rfl, Nat.le_of_ble_eq_true rfl, Nat.le_of_ble_eq_true rfl⟩ ⟨Nat.zero_le _, Nat.zero_le _⟩ rfl (Nat.le_of_ble_eq_true rfl) d_Mod_parties_13 ?_
    rintro _ _ ⟨b13, rfl, rfl, hw⟩
    show V X _ _ _ _ 16 [some (.ref (xa X 82)), some (.int x1), some (.int x2), some (.int x3), none, none, none] [.int (bi b13)]
    refine x_if_ne (tgt := 21) C d_Mod_parties_16 (by decide) (fun c15 => ?_) (fun c15 => ?_)
    · have hw := hw.1 c15
      refine x_aload_n C d_Mod_parties_21 rfl ?_
      refine x_iload_n C d_Mod_parties_22 rfl ?_
      refine p_Mod_32 (p := 82) C rfl fl_Mod_266 d_Mod_parties_23 ?_
      refine x_st (fun s16 hs16 => ?_)
      have hw := hw s16 hs16
      refine x_aload_n C d_Mod_parties_26 rfl ?_
      refine g_Mod_0 (p := 82) C rfl fl_Mod_9 d_Mod_parties_27 ?_
      refine x_aload_n C d_Mod_parties_30 rfl ?_
      refine g_Mod_2 (p := 82) C rfl fl_Mod_16 d_Mod_parties_31 ?_
      refine x_callS (As := [.ref (xa X 83), .ref (xa X 85)]) (rest := []) C (m_Mod_copies (xg X) C.2.2.2.2.2.2.1 83 78 85 78 rfl rfl s16 _ hw) cw_Mod_copies ml_Mod_193 rfl ⟨rfl, rfl, Nat.le_of_ble_eq_true rfl, Nat.le_of_ble_eq_true rfl⟩ ⟨Nat.zero_le _, Nat.zero_le _⟩ rfl (Nat.le_of_ble_eq_true rfl) d_Mod_parties_34 ?_
      rintro _ s17 ⟨rfl, hw⟩
      show V X _ _ _ _ 37 [some (.ref (xa X 82)), some (.int x1), some (.int x2), some (.int x3), none, none, none] []
      refine x_aload_n C d_Mod_parties_37 rfl ?_
      refine x_iconst (v := 0) C d_Mod_parties_38 rfl ?_
      refine p_Mod_7 (p := 82) C rfl fl_Mod_112 d_Mod_parties_39 ?_
      refine x_st (fun s18 hs18 => ?_)
      have hw := hw s18 hs18
      refine x_iconst (v := 0) C d_Mod_parties_42 rfl ?_
      refine x_istore (L' := [some (.ref (xa X 82)), some (.int x1), some (.int x2), some (.int x3), some (.int 0), none, none]) C d_Mod_parties_43 (Nat.le_of_ble_eq_true rfl) rfl ?_
      refine x_iconst (v := 0) C d_Mod_parties_45 rfl ?_
      refine x_istore (L' := [some (.ref (xa X 82)), some (.int x1), some (.int x2), some (.int x3), some (.int 0), some (.int 0), none]) C d_Mod_parties_46 (Nat.le_of_ble_eq_true rfl) rfl ?_
      obtain ⟨I22, ⟨n23, hn23⟩, hI22⟩ := hw
      have lI22 : ∀ (nI22 : Nat) (x19 : Int32) (x20 : Int32) (s21 : St), I22 nI22 x19 x20 s21 → V X (xQ X (fun v s' => ∃ r : Int32, v = some (.int r) ∧ Q r s')) 0 0 s21 48 [some (.ref (xa X 82)), some (.int x1), some (.int x2), some (.int x3), some (.int x19), some (.int x20), none] [] := by
        intro nI22
        induction nI22 using Nat.strongRecOn with
        | ind nI22 ihI22 =>
          intro x19 x20 s21 hv
          have hw := hI22 nI22 x19 x20 s21 hv
          refine x_iload C d_Mod_parties_48 rfl ?_
          refine x_iload_n C d_Mod_parties_50 rfl ?_
          refine x_icmp_ge (tgt := 124) C d_Mod_parties_51 (by decide) (fun c24 => ?_) (fun c24 => ?_)
          · have hw := hw.1 c24
            refine x_aload_n C d_Mod_parties_124 rfl ?_
            refine g_Mod_2 (p := 82) C rfl fl_Mod_16 d_Mod_parties_125 ?_
            refine x_aload_n C d_Mod_parties_128 rfl ?_
            refine g_Mod_0 (p := 82) C rfl fl_Mod_9 d_Mod_parties_129 ?_
            refine x_callS (As := [.ref (xa X 85), .ref (xa X 83)]) (rest := []) C (m_Mod_copies (xg X) C.2.2.2.2.2.2.1 85 78 83 78 rfl rfl s21 _ hw) cw_Mod_copies ml_Mod_193 rfl ⟨rfl, rfl, Nat.le_of_ble_eq_true rfl, Nat.le_of_ble_eq_true rfl⟩ ⟨Nat.zero_le _, Nat.zero_le _⟩ rfl (Nat.le_of_ble_eq_true rfl) d_Mod_parties_132 ?_
            rintro _ s25 ⟨rfl, hw⟩
            show V X _ _ _ _ 135 [some (.ref (xa X 82)), some (.int x1), some (.int x2), some (.int x3), some (.int x19), some (.int x20), none] []
            refine x_iload C d_Mod_parties_135 rfl ?_
            exact x_ireturn C d_Mod_parties_137 ⟨_, rfl, hw⟩
          · have hw := hw.2 c24
            refine x_iconst (v := 0) C d_Mod_parties_54 rfl ?_
            refine x_istore (L' := [some (.ref (xa X 82)), some (.int x1), some (.int x2), some (.int x3), some (.int x19), some (.int x20), some (.int 0)]) C d_Mod_parties_55 (Nat.le_of_ble_eq_true rfl) rfl ?_
            obtain ⟨I28, ⟨n29, hn29⟩, hI28⟩ := hw
            have lI28 : ∀ (nI28 : Nat) (x26 : Int32) (s27 : St), I28 nI28 x26 s27 → V X (xQ X (fun v s' => ∃ r : Int32, v = some (.int r) ∧ Q r s')) 0 0 s27 57 [some (.ref (xa X 82)), some (.int x1), some (.int x2), some (.int x3), some (.int x19), some (.int x20), some (.int x26)] [] := by
              intro nI28
              induction nI28 using Nat.strongRecOn with
              | ind nI28 ihI28 =>
                intro x26 s27 hv
                have hw := hI28 nI28 x26 s27 hv
                refine x_iload C d_Mod_parties_57 rfl ?_
                refine x_aload_n C d_Mod_parties_59 rfl ?_
                refine g_Mod_0 (p := 82) C rfl fl_Mod_9 d_Mod_parties_60 ?_
                refine x_iconst (v := 1) C d_Mod_parties_63 rfl ?_
                obtain ⟨h30, hw⟩ := hw
                refine x_iald (p := 83) (n := 78) C rfl h30 d_Mod_parties_64 ?_
                refine x_icmp_ge (tgt := 91) C d_Mod_parties_65 (by decide) (fun c31 => ?_) (fun c31 => ?_)
                · have hw := hw.1 c31
                  refine x_aload_n C d_Mod_parties_91 rfl ?_
                  refine x_callV (As := []) (rest := []) (p := 82) C (m_Mod_goesThereAndBack (xg X) C.2.2.2.2.2.2.1  s27 _ hw) cw_Mod_goesThereAndBack ml_Mod_148 rfl (by decide) (by decide) rfl rfl rfl ⟨rfl, rfl, Nat.le_of_ble_eq_true rfl, Nat.le_of_ble_eq_true rfl⟩ ⟨Nat.zero_le _, Nat.zero_le _⟩ rfl (Nat.le_of_ble_eq_true rfl) d_Mod_parties_92 ?_
                  rintro _ s32 ⟨rfl, hw⟩
                  show V X _ _ _ _ 95 [some (.ref (xa X 82)), some (.int x1), some (.int x2), some (.int x3), some (.int x19), some (.int x20), some (.int x26)] []
                  refine x_iload C d_Mod_parties_95 rfl ?_
                  refine x_iload_n C d_Mod_parties_97 rfl ?_
                  obtain ⟨J34, hJ34, hw⟩ := hw
                  have kJ34 : ∀ (x33 : Int32), J34 x33 → V X (xQ X (fun v s' => ∃ r : Int32, v = some (.int r) ∧ Q r s')) 0 0 s32 112 [some (.ref (xa X 82)), some (.int x1), some (.int x2), some (.int x3), some (.int x19), some (.int x20), some (.int x26)] [.int x33, .int x19] := by
                    intro x33 hv
                    have hw := hJ34 x33 hv
                    refine x_callS (As := [.int x33]) (rest := [.int x19]) C (m_Mod_bits (xg X) C.2.2.2.2.2.2.1 x33 s32 _ hw) cw_Mod_bits ml_Mod_151 rfl ⟨rfl, rfl, Nat.le_of_ble_eq_true rfl, Nat.le_of_ble_eq_true rfl⟩ ⟨Nat.zero_le _, Nat.zero_le _⟩ rfl (Nat.le_of_ble_eq_true rfl) d_Mod_parties_112 ?_
                    rintro _ _ ⟨x35, rfl, rfl, hw⟩
                    show V X _ _ _ _ 115 [some (.ref (xa X 82)), some (.int x1), some (.int x2), some (.int x3), some (.int x19), some (.int x20), some (.int x26)] [.int x35, .int x19]
                    refine x_iadd C d_Mod_parties_115 ?_
                    refine x_nm (fun x37 hx37 => ?_)
                    have hw := hw x37 hx37
                    refine x_istore (L' := [some (.ref (xa X 82)), some (.int x1), some (.int x2), some (.int x3), some (.int x37), some (.int x20), some (.int x26)]) C d_Mod_parties_116 (Nat.le_of_ble_eq_true rfl) rfl ?_
                    obtain ⟨x38, hx38⟩ : ∃ z : Int32, z = x20 + 1 := ⟨_, rfl⟩
                    refine x_iinc (v := x38) (L' := [some (.ref (xa X 82)), some (.int x1), some (.int x2), some (.int x3), some (.int x37), some (.int x38), some (.int x26)]) C d_Mod_parties_118 (Nat.le_of_ble_eq_true rfl) rfl (by rw [hx38]; rfl) rfl ?_
                    have hw := hw x38 hx38
                    refine x_goto (tgt := 48) C d_Mod_parties_121 (by decide) ?_
                    obtain ⟨m39, hm39, hw⟩ := hw
                    exact x_wk (ihI22 m39 hm39 x37 x38 s32 hw) (And.intro rfl (And.intro rfl (And.intro rfl (And.intro rfl (And.intro rfl (And.intro rfl (trivial)))))))
                  refine x_if_ne (tgt := 108) C d_Mod_parties_98 (by decide) (fun c40 => ?_) (fun c40 => ?_)
                  · have hw := hw.1 c40
                    refine x_aload_n C d_Mod_parties_108 rfl ?_
                    refine g_Mod_11 (p := 82) C rfl fl_Mod_139 d_Mod_parties_109 ?_
                    exact x_wk (kJ34 (s32 82 11) hw) (And.intro rfl (And.intro rfl (And.intro rfl (And.intro rfl (And.intro rfl (And.intro rfl (And.intro rfl (trivial))))))))
                  · have hw := hw.2 c40
                    refine x_aload_n C d_Mod_parties_101 rfl ?_
                    refine g_Mod_8 (p := 82) C rfl fl_Mod_118 d_Mod_parties_102 ?_
                    refine x_goto (tgt := 112) C d_Mod_parties_105 (by decide) ?_
                    exact x_wk (kJ34 (s32 82 8) hw) (And.intro rfl (And.intro rfl (And.intro rfl (And.intro rfl (And.intro rfl (And.intro rfl (And.intro rfl (trivial))))))))
                · have hw := hw.2 c31
                  refine x_aload_n C d_Mod_parties_68 rfl ?_
                  refine g_Mod_0 (p := 82) C rfl fl_Mod_9 d_Mod_parties_69 ?_
                  refine x_iload C d_Mod_parties_72 rfl ?_
                  refine x_iconst (v := 2) C d_Mod_parties_74 rfl ?_
                  refine x_callS (As := [.int x26, .int 2]) (rest := [.ref (xa X 83)]) C (m_Mod_atBody (xg X) C.2.2.2.2.2.2.1 x26 2 s27 _ hw) cw_Mod_atBody ml_Mod_59 rfl ⟨rfl, rfl, Nat.le_of_ble_eq_true rfl, Nat.le_of_ble_eq_true rfl⟩ ⟨Nat.zero_le _, Nat.zero_le _⟩ rfl (Nat.le_of_ble_eq_true rfl) d_Mod_parties_75 ?_
                  rintro _ _ ⟨x41, rfl, rfl, hw⟩
                  show V X _ _ _ _ 78 [some (.ref (xa X 82)), some (.int x1), some (.int x2), some (.int x3), some (.int x19), some (.int x20), some (.int x26)] [.int x41, .ref (xa X 83)]
                  refine x_aload_n C d_Mod_parties_78 rfl ?_
                  refine x_bipush (v := 10) C d_Mod_parties_79 rfl ?_
                  refine x_callV (As := [.int 10]) (rest := [.int x41, .ref (xa X 83)]) (p := 82) C (m_Mod_drawn (xg X) C.2.2.2.2.2.2.1 10 s27 _ hw) cw_Mod_drawn ml_Mod_272 rfl (by decide) (by decide) rfl rfl rfl ⟨rfl, rfl, Nat.le_of_ble_eq_true rfl, Nat.le_of_ble_eq_true rfl⟩ ⟨Nat.zero_le _, Nat.zero_le _⟩ rfl (Nat.le_of_ble_eq_true rfl) d_Mod_parties_81 ?_
                  rintro _ s44 ⟨x43, rfl, hw⟩
                  show V X _ _ _ _ 84 [some (.ref (xa X 82)), some (.int x1), some (.int x2), some (.int x3), some (.int x19), some (.int x20), some (.int x26)] [.int x43, .int x41, .ref (xa X 83)]
                  obtain ⟨h45, hw⟩ := hw
                  refine x_iast (p := 83) (n := 78) C rfl h45 d_Mod_parties_84 ?_
                  refine x_st (fun s46 hs46 => ?_)
                  have hw := hw s46 hs46
                  obtain ⟨x47, hx47⟩ : ∃ z : Int32, z = x26 + 1 := ⟨_, rfl⟩
                  refine x_iinc (v := x47) (L' := [some (.ref (xa X 82)), some (.int x1), some (.int x2), some (.int x3), some (.int x19), some (.int x20), some (.int x47)]) C d_Mod_parties_85 (Nat.le_of_ble_eq_true rfl) rfl (by rw [hx47]; rfl) rfl ?_
                  have hw := hw x47 hx47
                  refine x_goto (tgt := 57) C d_Mod_parties_88 (by decide) ?_
                  obtain ⟨m48, hm48, hw⟩ := hw
                  exact x_wk (ihI28 m48 hm48 x47 s46 hw) (And.intro rfl (And.intro rfl (And.intro rfl (And.intro rfl (And.intro rfl (And.intro rfl (And.intro rfl (trivial))))))))
            exact x_wk (lI28 n29 0 s21 hn29) (And.intro rfl (And.intro rfl (And.intro rfl (And.intro rfl (And.intro rfl (And.intro rfl (And.intro rfl (trivial))))))))
      exact x_wk (lI22 n23 0 0 s18 hn23) (And.intro rfl (And.intro rfl (And.intro rfl (And.intro rfl (And.intro rfl (And.intro rfl (trivial)))))))
    · have hw := hw.2 c15
      refine x_iconst (v := (-1)) C d_Mod_parties_19 rfl ?_
      exact x_ireturn C d_Mod_parties_20 ⟨_, rfl, hw⟩
def vc_Mod_image  (s : St) (Q : Int32 → St → Prop) : Prop :=
    vc_Mod_copies 83 78 84 78 s (fun s10 => (∀ s11 : St, s11 = wr s10 82 3 1 → (vp_in 2 78 ∧ Q (s11 83 (Int32.toNatClampNeg 2)) s11)))
def rm_Mod_image : Room := { frames := 1, cells := 0, slots := 0, locals := 22 }
set_option maxHeartbeats 4000000 in
set_option maxRecDepth 20000 in
theorem m_Mod_image (g : Gx) (hg : gOk g)   (s : St) (Q : Int32 → St → Prop) (hw : vc_Mod_image  s Q) : Mc g y_Mod_image b_Mod_image 1 (some FieldType.int) rm_Mod_image [.ref (ga g 82)] s (fun v s' => ∃ r : Int32, v = some (.int r) ∧ Q r s') := by
  refine mc_ofV (j := 0) (L := [some (.ref (ga g 82))]) hg (by decide) (Nat.le_of_ble_eq_true rfl) rfl ?_
  intro X hX C
  subst hX
  unfold vc_Mod_image at hw
  refine x_aload_n C d_Mod_image_0 rfl ?_
  refine g_Mod_0 (p := 82) C rfl fl_Mod_9 d_Mod_image_1 ?_
  refine x_aload_n C d_Mod_image_4 rfl ?_
  refine g_Mod_1 (p := 82) C rfl fl_Mod_13 d_Mod_image_5 ?_
  refine x_callS (As := [.ref (xa X 83), .ref (xa X 84)]) (rest := []) C (m_Mod_copies (xg X) C.2.2.2.2.2.2.1 83 78 84 78 rfl rfl s _ hw) cw_Mod_copies ml_Mod_193 rfl ⟨rfl, rfl, Nat.le_of_ble_eq_true rfl, Nat.le_of_ble_eq_true rfl⟩ ⟨Nat.zero_le _, Nat.zero_le _⟩ rfl (Nat.le_of_ble_eq_true rfl) d_Mod_image_8 ?_
  rintro _ s10 ⟨rfl, hw⟩
  show V X _ _ _ _ 11 [some (.ref (xa X 82))] []
  refine x_aload_n C d_Mod_image_11 rfl ?_
  refine x_iconst (v := 1) C d_Mod_image_12 rfl ?_
  refine p_Mod_3 (p := 82) C rfl fl_Mod_275 ⟨rfl, rfl⟩ d_Mod_image_13 ?_
  refine x_st (fun s11 hs11 => ?_)
  have hw := hw s11 hs11
  refine x_aload_n C d_Mod_image_16 rfl ?_
  refine g_Mod_0 (p := 82) C rfl fl_Mod_9 d_Mod_image_17 ?_
  refine x_iconst (v := 2) C d_Mod_image_20 rfl ?_
  obtain ⟨h12, hw⟩ := hw
  refine x_iald (p := 83) (n := 78) C rfl h12 d_Mod_image_21 ?_
  exact x_ireturn C d_Mod_image_22 ⟨_, rfl, hw⟩
def vc_Mod_restore  (s : St) (Q : Int32 → St → Prop) : Prop :=
    ((¬ (s 82 3) = 0 → vc_Mod_copies 84 78 83 78 s (fun s11 => (vp_in 2 78 ∧ Q (s11 83 (Int32.toNatClampNeg 2)) s11))) ∧ ((s 82 3) = 0 → Q (-3) s))
def rm_Mod_restore : Room := { frames := 1, cells := 0, slots := 0, locals := 22 }
set_option maxHeartbeats 4000000 in
set_option maxRecDepth 20000 in
theorem m_Mod_restore (g : Gx) (hg : gOk g)   (s : St) (Q : Int32 → St → Prop) (hw : vc_Mod_restore  s Q) : Mc g y_Mod_restore b_Mod_restore 1 (some FieldType.int) rm_Mod_restore [.ref (ga g 82)] s (fun v s' => ∃ r : Int32, v = some (.int r) ∧ Q r s') := by
  refine mc_ofV (j := 0) (L := [some (.ref (ga g 82))]) hg (by decide) (Nat.le_of_ble_eq_true rfl) rfl ?_
  intro X hX C
  subst hX
  unfold vc_Mod_restore at hw
  refine x_aload_n C d_Mod_restore_0 rfl ?_
  refine g_Mod_3 (p := 82) C rfl fl_Mod_275 d_Mod_restore_1 ?_
  refine x_if_ne (tgt := 10) C d_Mod_restore_4 (by decide) (fun c10 => ?_) (fun c10 => ?_)
  · have hw := hw.1 c10
    refine x_aload_n C d_Mod_restore_10 rfl ?_
    refine g_Mod_1 (p := 82) C rfl fl_Mod_13 d_Mod_restore_11 ?_
    refine x_aload_n C d_Mod_restore_14 rfl ?_
    refine g_Mod_0 (p := 82) C rfl fl_Mod_9 d_Mod_restore_15 ?_
    refine x_callS (As := [.ref (xa X 84), .ref (xa X 83)]) (rest := []) C (m_Mod_copies (xg X) C.2.2.2.2.2.2.1 84 78 83 78 rfl rfl s _ hw) cw_Mod_copies ml_Mod_193 rfl ⟨rfl, rfl, Nat.le_of_ble_eq_true rfl, Nat.le_of_ble_eq_true rfl⟩ ⟨Nat.zero_le _, Nat.zero_le _⟩ rfl (Nat.le_of_ble_eq_true rfl) d_Mod_restore_18 ?_
    rintro _ s11 ⟨rfl, hw⟩
    show V X _ _ _ _ 21 [some (.ref (xa X 82))] []
    refine x_aload_n C d_Mod_restore_21 rfl ?_
    refine g_Mod_0 (p := 82) C rfl fl_Mod_9 d_Mod_restore_22 ?_
    refine x_iconst (v := 2) C d_Mod_restore_25 rfl ?_
    obtain ⟨h12, hw⟩ := hw
    refine x_iald (p := 83) (n := 78) C rfl h12 d_Mod_restore_26 ?_
    exact x_ireturn C d_Mod_restore_27 ⟨_, rfl, hw⟩
  · have hw := hw.2 c10
    refine x_bipush (v := (-3)) C d_Mod_restore_7 rfl ?_
    exact x_ireturn C d_Mod_restore_9 ⟨_, rfl, hw⟩
def vc_Mod_count (x1 : Int32) (s : St) (Q : Int32 → Prop) : Prop :=
    vc_Mod_isIn x1 0 5 (fun b10 => (((bi b10) = 0 → ((x1 = 6 → (∃ I16 : Nat → Int32 → Int32 → Prop, (∃ n17, I16 n17 0 0) ∧ ∀ (nI16 : Nat) (x14 : Int32) (x15 : Int32), I16 nI16 x14 x15 → (vp_in 0 78 ∧ (((s 83 (Int32.toNatClampNeg 0)) ≤ x15 → Q x14) ∧ (¬ (s 83 (Int32.toNatClampNeg 0)) ≤ x15 → vc_Mod_atYard x15 2 (fun x20 => (vp_in x20 78 ∧ (∀ x23 : Int32, x23 = x14 + (s 83 (Int32.toNatClampNeg x20)) → (∀ x24 : Int32, x24 = x15 + 1 → ∃ m25, m25 < nI16 ∧ I16 m25 x23 x24))))))))) ∧ (¬ x1 = 6 → ((x1 = 7 → (∃ I29 : Nat → Int32 → Int32 → Prop, (∃ n30, I29 n30 0 0) ∧ ∀ (nI29 : Nat) (x27 : Int32) (x28 : Int32), I29 nI29 x27 x28 → (vp_in 1 78 ∧ (((s 83 (Int32.toNatClampNeg 1)) ≤ x28 → Q x27) ∧ (¬ (s 83 (Int32.toNatClampNeg 1)) ≤ x28 → vc_Mod_of x28 0 s (fun x33 => (∀ x35 : Int32, x35 = x27 + x33 → (∀ x36 : Int32, x36 = x28 + 1 → ∃ m37, m37 < nI29 ∧ I29 m37 x35 x36)))))))) ∧ (¬ x1 = 7 → Q (-1)))))) ∧ (¬ (bi b10) = 0 → (vp_in x1 78 ∧ Q (s 83 (Int32.toNatClampNeg x1))))))
def rm_Mod_count : Room := { frames := 2, cells := 0, slots := 0, locals := 43 }
set_option maxHeartbeats 4000000 in
set_option maxRecDepth 20000 in
theorem m_Mod_count (g : Gx) (hg : gOk g) (x1 : Int32)  (s : St) (Q : Int32 → Prop) (hw : vc_Mod_count x1 s Q) : Mc g y_Mod_count b_Mod_count 4 (some FieldType.int) rm_Mod_count [.ref (ga g 82), .int x1] s (fun v s' => ∃ r : Int32, v = some (.int r) ∧ s = s' ∧ Q r) := by
  refine mc_ofV (j := 2) (L := [some (.ref (ga g 82)), some (.int x1), none, none]) hg (by decide) (Nat.le_of_ble_eq_true rfl) rfl ?_
  intro X hX C
  subst hX
  unfold vc_Mod_count at hw
  refine x_iload_n C d_Mod_count_0 rfl ?_
  refine x_iconst (v := 0) C d_Mod_count_1 rfl ?_
  refine x_iconst (v := 5) C d_Mod_count_2 rfl ?_
  refine x_callS (As := [.int x1, .int 0, .int 5]) (rest := []) C (m_Mod_isIn (xg X) C.2.2.2.2.2.2.1 x1 0 5 s _ hw) cw_Mod_isIn ml_Mod_55 rfl ⟨rfl, rfl, Nat.le_of_ble_eq_true rfl, Nat.le_of_ble_eq_true rfl⟩ ⟨Nat.zero_le _, Nat.zero_le _⟩ rfl (Nat.le_of_ble_eq_true rfl) d_Mod_count_3 ?_
  rintro _ _ ⟨b10, rfl, rfl, hw⟩
  show V X _ _ _ _ 6 [some (.ref (xa X 82)), some (.int x1), none, none] [.int (bi b10)]
  refine x_if_eq (tgt := 16) C d_Mod_count_6 (by decide) (fun c12 => ?_) (fun c12 => ?_)
  · have hw := hw.1 c12
    refine x_iconst (v := 0) C d_Mod_count_16 rfl ?_
    refine x_istore_n (L' := [some (.ref (xa X 82)), some (.int x1), some (.int 0), none]) C d_Mod_count_17 (Nat.le_of_ble_eq_true rfl) rfl ?_
    refine x_iload_n C d_Mod_count_18 rfl ?_
    by_cases c13 : x1 = 6
    · have hw := hw.1 c13
      refine x_lswIn (v := 6) (off := 25) (tgt := 44) C d_Mod_count_19 (by decide) c13 (by decide) (by decide) ?_
      refine x_iconst (v := 0) C d_Mod_count_44 rfl ?_
      refine x_istore_n (L' := [some (.ref (xa X 82)), some (.int x1), some (.int 0), some (.int 0)]) C d_Mod_count_45 (Nat.le_of_ble_eq_true rfl) rfl ?_
      obtain ⟨I16, ⟨n17, hn17⟩, hI16⟩ := hw
      have lI16 : ∀ (nI16 : Nat) (x14 : Int32) (x15 : Int32), I16 nI16 x14 x15 → V X (xQ X (fun v s' => ∃ r : Int32, v = some (.int r) ∧ s = s' ∧ Q r)) 0 0 s 46 [some (.ref (xa X 82)), some (.int x1), some (.int x14), some (.int x15)] [] := by
        intro nI16
        induction nI16 using Nat.strongRecOn with
        | ind nI16 ihI16 =>
          intro x14 x15 hv
          have hw := hI16 nI16 x14 x15 hv
          refine x_iload_n C d_Mod_count_46 rfl ?_
          refine x_aload_n C d_Mod_count_47 rfl ?_
          refine g_Mod_0 (p := 82) C rfl fl_Mod_9 d_Mod_count_48 ?_
          refine x_iconst (v := 0) C d_Mod_count_51 rfl ?_
          obtain ⟨h18, hw⟩ := hw
          refine x_iald (p := 83) (n := 78) C rfl h18 d_Mod_count_52 ?_
          refine x_icmp_ge (tgt := 75) C d_Mod_count_53 (by decide) (fun c19 => ?_) (fun c19 => ?_)
          · have hw := hw.1 c19
            refine x_iload_n C d_Mod_count_75 rfl ?_
            exact x_ireturn C d_Mod_count_76 ⟨_, rfl, rfl, hw⟩
          · have hw := hw.2 c19
            refine x_iload_n C d_Mod_count_56 rfl ?_
            refine x_aload_n C d_Mod_count_57 rfl ?_
            refine g_Mod_0 (p := 82) C rfl fl_Mod_9 d_Mod_count_58 ?_
            refine x_iload_n C d_Mod_count_61 rfl ?_
            refine x_iconst (v := 2) C d_Mod_count_62 rfl ?_
            refine x_callS (As := [.int x15, .int 2]) (rest := [.ref (xa X 83), .int x14]) C (m_Mod_atYard (xg X) C.2.2.2.2.2.2.1 x15 2 s _ hw) cw_Mod_atYard ml_Mod_63 rfl ⟨rfl, rfl, Nat.le_of_ble_eq_true rfl, Nat.le_of_ble_eq_true rfl⟩ ⟨Nat.zero_le _, Nat.zero_le _⟩ rfl (Nat.le_of_ble_eq_true rfl) d_Mod_count_63 ?_
            rintro _ _ ⟨x20, rfl, rfl, hw⟩
            show V X _ _ _ _ 66 [some (.ref (xa X 82)), some (.int x1), some (.int x14), some (.int x15)] [.int x20, .ref (xa X 83), .int x14]
            obtain ⟨h22, hw⟩ := hw
            refine x_iald (p := 83) (n := 78) C rfl h22 d_Mod_count_66 ?_
            refine x_iadd C d_Mod_count_67 ?_
            refine x_nm (fun x23 hx23 => ?_)
            have hw := hw x23 hx23
            refine x_istore_n (L' := [some (.ref (xa X 82)), some (.int x1), some (.int x23), some (.int x15)]) C d_Mod_count_68 (Nat.le_of_ble_eq_true rfl) rfl ?_
            obtain ⟨x24, hx24⟩ : ∃ z : Int32, z = x15 + 1 := ⟨_, rfl⟩
            refine x_iinc (v := x24) (L' := [some (.ref (xa X 82)), some (.int x1), some (.int x23), some (.int x24)]) C d_Mod_count_69 (Nat.le_of_ble_eq_true rfl) rfl (by rw [hx24]; rfl) rfl ?_
            have hw := hw x24 hx24
            refine x_goto (tgt := 46) C d_Mod_count_72 (by decide) ?_
            obtain ⟨m25, hm25, hw⟩ := hw
            exact x_wk (ihI16 m25 hm25 x23 x24 hw) (And.intro rfl (And.intro rfl (And.intro rfl (And.intro rfl (trivial)))))
      exact x_wk (lI16 n17 0 0 hn17) (And.intro rfl (And.intro rfl (And.intro rfl (And.intro rfl (trivial)))))
    have hw := hw.2 c13
    by_cases c26 : x1 = 7
    · have hw := hw.1 c26
      refine x_lswIn (v := 7) (off := 58) (tgt := 77) C d_Mod_count_19 (by decide) c26 (by decide) (by decide) ?_
      refine x_iconst (v := 0) C d_Mod_count_77 rfl ?_
      refine x_istore_n (L' := [some (.ref (xa X 82)), some (.int x1), some (.int 0), some (.int 0)]) C d_Mod_count_78 (Nat.le_of_ble_eq_true rfl) rfl ?_
      obtain ⟨I29, ⟨n30, hn30⟩, hI29⟩ := hw
      have lI29 : ∀ (nI29 : Nat) (x27 : Int32) (x28 : Int32), I29 nI29 x27 x28 → V X (xQ X (fun v s' => ∃ r : Int32, v = some (.int r) ∧ s = s' ∧ Q r)) 0 0 s 79 [some (.ref (xa X 82)), some (.int x1), some (.int x27), some (.int x28)] [] := by
        intro nI29
        induction nI29 using Nat.strongRecOn with
        | ind nI29 ihI29 =>
          intro x27 x28 hv
          have hw := hI29 nI29 x27 x28 hv
          refine x_iload_n C d_Mod_count_79 rfl ?_
          refine x_aload_n C d_Mod_count_80 rfl ?_
          refine g_Mod_0 (p := 82) C rfl fl_Mod_9 d_Mod_count_81 ?_
          refine x_iconst (v := 1) C d_Mod_count_84 rfl ?_
          obtain ⟨h31, hw⟩ := hw
          refine x_iald (p := 83) (n := 78) C rfl h31 d_Mod_count_85 ?_
          refine x_icmp_ge (tgt := 104) C d_Mod_count_86 (by decide) (fun c32 => ?_) (fun c32 => ?_)
          · have hw := hw.1 c32
            refine x_iload_n C d_Mod_count_104 rfl ?_
            exact x_ireturn C d_Mod_count_105 ⟨_, rfl, rfl, hw⟩
          · have hw := hw.2 c32
            refine x_iload_n C d_Mod_count_89 rfl ?_
            refine x_aload_n C d_Mod_count_90 rfl ?_
            refine x_iload_n C d_Mod_count_91 rfl ?_
            refine x_iconst (v := 0) C d_Mod_count_92 rfl ?_
            refine x_callV (As := [.int x28, .int 0]) (rest := [.int x27]) (p := 82) C (m_Mod_of (xg X) C.2.2.2.2.2.2.1 x28 0 s _ hw) cw_Mod_of ml_Mod_73 rfl (by decide) (by decide) rfl rfl rfl ⟨rfl, rfl, Nat.le_of_ble_eq_true rfl, Nat.le_of_ble_eq_true rfl⟩ ⟨Nat.zero_le _, Nat.zero_le _⟩ rfl (Nat.le_of_ble_eq_true rfl) d_Mod_count_93 ?_
            rintro _ _ ⟨x33, rfl, rfl, hw⟩
            show V X _ _ _ _ 96 [some (.ref (xa X 82)), some (.int x1), some (.int x27), some (.int x28)] [.int x33, .int x27]
            refine x_iadd C d_Mod_count_96 ?_
            refine x_nm (fun x35 hx35 => ?_)
            have hw := hw x35 hx35
            refine x_istore_n (L' := [some (.ref (xa X 82)), some (.int x1), some (.int x35), some (.int x28)]) C d_Mod_count_97 (Nat.le_of_ble_eq_true rfl) rfl ?_
            obtain ⟨x36, hx36⟩ : ∃ z : Int32, z = x28 + 1 := ⟨_, rfl⟩
            refine x_iinc (v := x36) (L' := [some (.ref (xa X 82)), some (.int x1), some (.int x35), some (.int x36)]) C d_Mod_count_98 (Nat.le_of_ble_eq_true rfl) rfl (by rw [hx36]; rfl) rfl ?_
            have hw := hw x36 hx36
            refine x_goto (tgt := 79) C d_Mod_count_101 (by decide) ?_
            obtain ⟨m37, hm37, hw⟩ := hw
            exact x_wk (ihI29 m37 hm37 x35 x36 hw) (And.intro rfl (And.intro rfl (And.intro rfl (And.intro rfl (trivial)))))
      exact x_wk (lI29 n30 0 0 hn30) (And.intro rfl (And.intro rfl (And.intro rfl (And.intro rfl (trivial)))))
    have hw := hw.2 c26
    refine x_lswD (tgt := 106) C d_Mod_count_19 (by decide) (fun q hq => ?_) (by decide) ?_
    · simp only [List.mem_cons, List.not_mem_nil, or_false] at hq
      rcases hq with rfl | rfl
      · exact ne_toInt c13
      · exact ne_toInt c26
    refine x_iconst (v := (-1)) C d_Mod_count_106 rfl ?_
    exact x_ireturn C d_Mod_count_107 ⟨_, rfl, rfl, hw⟩
  · have hw := hw.2 c12
    refine x_aload_n C d_Mod_count_9 rfl ?_
    refine g_Mod_0 (p := 82) C rfl fl_Mod_9 d_Mod_count_10 ?_
    refine x_iload_n C d_Mod_count_13 rfl ?_
    obtain ⟨h38, hw⟩ := hw
    refine x_iald (p := 83) (n := 78) C rfl h38 d_Mod_count_14 ?_
    exact x_ireturn C d_Mod_count_15 ⟨_, rfl, rfl, hw⟩
def vc_Mod_thrown  (s : St) (Q : Int32 → Prop) : Prop :=
    Q (s 82 39)
def rm_Mod_thrown : Room := { frames := 0, cells := 0, slots := 0, locals := 0 }
set_option maxHeartbeats 4000000 in
set_option maxRecDepth 20000 in
theorem m_Mod_thrown (g : Gx) (hg : gOk g)   (s : St) (Q : Int32 → Prop) (hw : vc_Mod_thrown  s Q) : Mc g y_Mod_thrown b_Mod_thrown 1 (some FieldType.int) rm_Mod_thrown [.ref (ga g 82)] s (fun v s' => ∃ r : Int32, v = some (.int r) ∧ s = s' ∧ Q r) := by
  refine mc_ofV (j := 0) (L := [some (.ref (ga g 82))]) hg (by decide) (Nat.le_of_ble_eq_true rfl) rfl ?_
  intro X hX C
  subst hX
  unfold vc_Mod_thrown at hw
  refine x_aload_n C d_Mod_thrown_0 rfl ?_
  refine g_Mod_39 (p := 82) C rfl fl_Mod_279 d_Mod_thrown_1 ?_
  exact x_ireturn C d_Mod_thrown_4 ⟨_, rfl, rfl, hw⟩
def vc_Mod_keep (x1 : Int32) (x2 : Int32) (x3 : Int32) (x4 : Int32) (s : St) (Q : Int32 → St → Prop) : Prop :=
    vc_Mod_isShelf x1 (fun b10 => (((bi b10) = 0 → Q (-1) s) ∧ (¬ (bi b10) = 0 → vc_Mod_isIn x2 0 1 (fun b13 => (((bi b13) = 0 → Q (-1) s) ∧ (¬ (bi b13) = 0 → (∃ J16 : Prop, (J16 → (vp_in x1 8 ∧ (∀ s18 : St, s18 = wr s 92 (Int32.toNatClampNeg x1) x2 → (vp_in x1 8 ∧ (∀ s20 : St, s20 = wr s18 93 (Int32.toNatClampNeg x1) x3 → (vp_in x1 8 ∧ (∀ s22 : St, s22 = wr s20 94 (Int32.toNatClampNeg x1) x4 → Q 0 s22))))))) ∧ ((¬ x2 = 1 → J16) ∧ (x2 = 1 → vc_Mod_isIn x3 0 7 (fun b24 => (((bi b24) = 0 → Q (-1) s) ∧ (¬ (bi b24) = 0 → vc_Mod_isIn x4 0 9 (fun b27 => ((¬ (bi b27) = 0 → J16) ∧ ((bi b27) = 0 → Q (-1) s)))))))))))))))
def rm_Mod_keep : Room := { frames := 2, cells := 0, slots := 0, locals := 42 }
set_option maxHeartbeats 4000000 in
set_option maxRecDepth 20000 in
theorem m_Mod_keep (g : Gx) (hg : gOk g) (x1 : Int32) (x2 : Int32) (x3 : Int32) (x4 : Int32)  (s : St) (Q : Int32 → St → Prop) (hw : vc_Mod_keep x1 x2 x3 x4 s Q) : Mc g y_Mod_keep b_Mod_keep 5 (some FieldType.int) rm_Mod_keep [.ref (ga g 82), .int x1, .int x2, .int x3, .int x4] s (fun v s' => ∃ r : Int32, v = some (.int r) ∧ Q r s') := by
  refine mc_ofV (j := 0) (L := [some (.ref (ga g 82)), some (.int x1), some (.int x2), some (.int x3), some (.int x4)]) hg (by decide) (Nat.le_of_ble_eq_true rfl) rfl ?_
  intro X hX C
  subst hX
  unfold vc_Mod_keep at hw
  refine x_iload_n C d_Mod_keep_0 rfl ?_
  refine x_callS (As := [.int x1]) (rest := []) C (m_Mod_isShelf (xg X) C.2.2.2.2.2.2.1 x1 s _ hw) cw_Mod_isShelf ml_Mod_206 rfl ⟨rfl, rfl, Nat.le_of_ble_eq_true rfl, Nat.le_of_ble_eq_true rfl⟩ ⟨Nat.zero_le _, Nat.zero_le _⟩ rfl (Nat.le_of_ble_eq_true rfl) d_Mod_keep_1 ?_
  rintro _ _ ⟨b10, rfl, rfl, hw⟩
  show V X _ _ _ _ 4 [some (.ref (xa X 82)), some (.int x1), some (.int x2), some (.int x3), some (.int x4)] [.int (bi b10)]
  refine x_if_eq (tgt := 42) C d_Mod_keep_4 (by decide) (fun c12 => ?_) (fun c12 => ?_)
  · have hw := hw.1 c12
    refine x_iconst (v := (-1)) C d_Mod_keep_42 rfl ?_
    exact x_ireturn C d_Mod_keep_43 ⟨_, rfl, hw⟩
  · have hw := hw.2 c12
    refine x_iload_n C d_Mod_keep_7 rfl ?_
    refine x_iconst (v := 0) C d_Mod_keep_8 rfl ?_
    refine x_iconst (v := 1) C d_Mod_keep_9 rfl ?_
    refine x_callS (As := [.int x2, .int 0, .int 1]) (rest := []) C (m_Mod_isIn (xg X) C.2.2.2.2.2.2.1 x2 0 1 s _ hw) cw_Mod_isIn ml_Mod_55 rfl ⟨rfl, rfl, Nat.le_of_ble_eq_true rfl, Nat.le_of_ble_eq_true rfl⟩ ⟨Nat.zero_le _, Nat.zero_le _⟩ rfl (Nat.le_of_ble_eq_true rfl) d_Mod_keep_10 ?_
    rintro _ _ ⟨b13, rfl, rfl, hw⟩
    show V X _ _ _ _ 13 [some (.ref (xa X 82)), some (.int x1), some (.int x2), some (.int x3), some (.int x4)] [.int (bi b13)]
    refine x_if_eq (tgt := 42) C d_Mod_keep_13 (by decide) (fun c15 => ?_) (fun c15 => ?_)
    · have hw := hw.1 c15
      refine x_iconst (v := (-1)) C d_Mod_keep_42 rfl ?_
      exact x_ireturn C d_Mod_keep_43 ⟨_, rfl, hw⟩
    · have hw := hw.2 c15
      refine x_iload_n C d_Mod_keep_16 rfl ?_
      refine x_iconst (v := 1) C d_Mod_keep_17 rfl ?_
      obtain ⟨J16, hJ16, hw⟩ := hw
      have kJ16 : J16 → V X (xQ X (fun v s' => ∃ r : Int32, v = some (.int r) ∧ Q r s')) 0 0 s 44 [some (.ref (xa X 82)), some (.int x1), some (.int x2), some (.int x3), some (.int x4)] [] := by
        intro  hv
        have hw := hJ16  hv
        refine x_aload_n C d_Mod_keep_44 rfl ?_
        refine g_Mod_33 (p := 82) C rfl fl_Mod_37 d_Mod_keep_45 ?_
        refine x_iload_n C d_Mod_keep_48 rfl ?_
        refine x_iload_n C d_Mod_keep_49 rfl ?_
        obtain ⟨h17, hw⟩ := hw
        refine x_iast (p := 92) (n := 8) C rfl h17 d_Mod_keep_50 ?_
        refine x_st (fun s18 hs18 => ?_)
        have hw := hw s18 hs18
        refine x_aload_n C d_Mod_keep_51 rfl ?_
        refine g_Mod_34 (p := 82) C rfl fl_Mod_40 d_Mod_keep_52 ?_
        refine x_iload_n C d_Mod_keep_55 rfl ?_
        refine x_iload_n C d_Mod_keep_56 rfl ?_
        obtain ⟨h19, hw⟩ := hw
        refine x_iast (p := 93) (n := 8) C rfl h19 d_Mod_keep_57 ?_
        refine x_st (fun s20 hs20 => ?_)
        have hw := hw s20 hs20
        refine x_aload_n C d_Mod_keep_58 rfl ?_
        refine g_Mod_35 (p := 82) C rfl fl_Mod_43 d_Mod_keep_59 ?_
        refine x_iload_n C d_Mod_keep_62 rfl ?_
        refine x_iload C d_Mod_keep_63 rfl ?_
        obtain ⟨h21, hw⟩ := hw
        refine x_iast (p := 94) (n := 8) C rfl h21 d_Mod_keep_65 ?_
        refine x_st (fun s22 hs22 => ?_)
        have hw := hw s22 hs22
        refine x_iconst (v := 0) C d_Mod_keep_66 rfl ?_
        exact x_ireturn C d_Mod_keep_67 ⟨_, rfl, hw⟩
      refine x_icmp_ne (tgt := 44) C d_Mod_keep_18 (by decide) (fun c23 => ?_) (fun c23 => ?_)
      · have hw := hw.1 c23
        exact x_wk (kJ16  hw) (And.intro rfl (And.intro rfl (And.intro rfl (And.intro rfl (And.intro rfl (trivial))))))
      · have hw := hw.2 c23
        refine x_iload_n C d_Mod_keep_21 rfl ?_
        refine x_iconst (v := 0) C d_Mod_keep_22 rfl ?_
        refine x_bipush (v := 7) C d_Mod_keep_23 rfl ?_
        refine x_callS (As := [.int x3, .int 0, .int 7]) (rest := []) C (m_Mod_isIn (xg X) C.2.2.2.2.2.2.1 x3 0 7 s _ hw) cw_Mod_isIn ml_Mod_55 rfl ⟨rfl, rfl, Nat.le_of_ble_eq_true rfl, Nat.le_of_ble_eq_true rfl⟩ ⟨Nat.zero_le _, Nat.zero_le _⟩ rfl (Nat.le_of_ble_eq_true rfl) d_Mod_keep_25 ?_
        rintro _ _ ⟨b24, rfl, rfl, hw⟩
        show V X _ _ _ _ 28 [some (.ref (xa X 82)), some (.int x1), some (.int x2), some (.int x3), some (.int x4)] [.int (bi b24)]
        refine x_if_eq (tgt := 42) C d_Mod_keep_28 (by decide) (fun c26 => ?_) (fun c26 => ?_)
        · have hw := hw.1 c26
          refine x_iconst (v := (-1)) C d_Mod_keep_42 rfl ?_
          exact x_ireturn C d_Mod_keep_43 ⟨_, rfl, hw⟩
        · have hw := hw.2 c26
          refine x_iload C d_Mod_keep_31 rfl ?_
          refine x_iconst (v := 0) C d_Mod_keep_33 rfl ?_
          refine x_bipush (v := 9) C d_Mod_keep_34 rfl ?_
          refine x_callS (As := [.int x4, .int 0, .int 9]) (rest := []) C (m_Mod_isIn (xg X) C.2.2.2.2.2.2.1 x4 0 9 s _ hw) cw_Mod_isIn ml_Mod_55 rfl ⟨rfl, rfl, Nat.le_of_ble_eq_true rfl, Nat.le_of_ble_eq_true rfl⟩ ⟨Nat.zero_le _, Nat.zero_le _⟩ rfl (Nat.le_of_ble_eq_true rfl) d_Mod_keep_36 ?_
          rintro _ _ ⟨b27, rfl, rfl, hw⟩
          show V X _ _ _ _ 39 [some (.ref (xa X 82)), some (.int x1), some (.int x2), some (.int x3), some (.int x4)] [.int (bi b27)]
          refine x_if_ne (tgt := 44) C d_Mod_keep_39 (by decide) (fun c29 => ?_) (fun c29 => ?_)
          · have hw := hw.1 c29
            exact x_wk (kJ16  hw) (And.intro rfl (And.intro rfl (And.intro rfl (And.intro rfl (And.intro rfl (trivial))))))
          · have hw := hw.2 c29
            refine x_iconst (v := (-1)) C d_Mod_keep_42 rfl ?_
            exact x_ireturn C d_Mod_keep_43 ⟨_, rfl, hw⟩
def vc_Mod_row (x1 : Int32) (x2 : Int32) (x3 : Int32) (s : St) (Q : Int32 → St → Prop) : Prop :=
    vc_Mod_isShelf x1 (fun b10 => (((bi b10) = 0 → Q (-1) s) ∧ (¬ (bi b10) = 0 → vc_Mod_isIn x2 0 2 (fun b13 => (((bi b13) = 0 → Q (-1) s) ∧ (¬ (bi b13) = 0 → ((x3 ≤ 100 → ((0 ≤ x3 → (vp_in x1 8 ∧ (∀ s19 : St, s19 = wr s 92 (Int32.toNatClampNeg x1) 2 → (vp_in x1 8 ∧ (∀ s21 : St, s21 = wr s19 95 (Int32.toNatClampNeg x1) x2 → (vp_in x1 8 ∧ (∀ s23 : St, s23 = wr s21 96 (Int32.toNatClampNeg x1) x3 → (∃ I26 : Nat → Int32 → St → Prop, (∃ n27, I26 n27 0 s23) ∧ ∀ (nI26 : Nat) (x24 : Int32) (s25 : St), I26 nI26 x24 s25 → ((100 ≤ x24 → Q 0 s25) ∧ (¬ 100 ≤ x24 → (vp_in ((100 * x1) + x24) 800 ∧ (∀ s30 : St, s30 = wr s25 97 (Int32.toNatClampNeg ((100 * x1) + x24)) 0 → (∀ x31 : Int32, x31 = x24 + 1 → ∃ m32, m32 < nI26 ∧ I26 m32 x31 s30))))))))))))) ∧ (¬ 0 ≤ x3 → Q (-14) s))) ∧ (¬ x3 ≤ 100 → Q (-1) s))))))))
def rm_Mod_row : Room := { frames := 2, cells := 0, slots := 0, locals := 42 }
set_option maxHeartbeats 4000000 in
set_option maxRecDepth 20000 in
theorem m_Mod_row (g : Gx) (hg : gOk g) (x1 : Int32) (x2 : Int32) (x3 : Int32)  (s : St) (Q : Int32 → St → Prop) (hw : vc_Mod_row x1 x2 x3 s Q) : Mc g y_Mod_row b_Mod_row 5 (some FieldType.int) rm_Mod_row [.ref (ga g 82), .int x1, .int x2, .int x3] s (fun v s' => ∃ r : Int32, v = some (.int r) ∧ Q r s') := by
  refine mc_ofV (j := 1) (L := [some (.ref (ga g 82)), some (.int x1), some (.int x2), some (.int x3), none]) hg (by decide) (Nat.le_of_ble_eq_true rfl) rfl ?_
  intro X hX C
  subst hX
  unfold vc_Mod_row at hw
  refine x_iload_n C d_Mod_row_0 rfl ?_
  refine x_callS (As := [.int x1]) (rest := []) C (m_Mod_isShelf (xg X) C.2.2.2.2.2.2.1 x1 s _ hw) cw_Mod_isShelf ml_Mod_206 rfl ⟨rfl, rfl, Nat.le_of_ble_eq_true rfl, Nat.le_of_ble_eq_true rfl⟩ ⟨Nat.zero_le _, Nat.zero_le _⟩ rfl (Nat.le_of_ble_eq_true rfl) d_Mod_row_1 ?_
  rintro _ _ ⟨b10, rfl, rfl, hw⟩
  show V X _ _ _ _ 4 [some (.ref (xa X 82)), some (.int x1), some (.int x2), some (.int x3), none] [.int (bi b10)]
  refine x_if_eq (tgt := 22) C d_Mod_row_4 (by decide) (fun c12 => ?_) (fun c12 => ?_)
  · have hw := hw.1 c12
    refine x_iconst (v := (-1)) C d_Mod_row_22 rfl ?_
    exact x_ireturn C d_Mod_row_23 ⟨_, rfl, hw⟩
  · have hw := hw.2 c12
    refine x_iload_n C d_Mod_row_7 rfl ?_
    refine x_iconst (v := 0) C d_Mod_row_8 rfl ?_
    refine x_iconst (v := 2) C d_Mod_row_9 rfl ?_
    refine x_callS (As := [.int x2, .int 0, .int 2]) (rest := []) C (m_Mod_isIn (xg X) C.2.2.2.2.2.2.1 x2 0 2 s _ hw) cw_Mod_isIn ml_Mod_55 rfl ⟨rfl, rfl, Nat.le_of_ble_eq_true rfl, Nat.le_of_ble_eq_true rfl⟩ ⟨Nat.zero_le _, Nat.zero_le _⟩ rfl (Nat.le_of_ble_eq_true rfl) d_Mod_row_10 ?_
    rintro _ _ ⟨b13, rfl, rfl, hw⟩
    show V X _ _ _ _ 13 [some (.ref (xa X 82)), some (.int x1), some (.int x2), some (.int x3), none] [.int (bi b13)]
    refine x_if_eq (tgt := 22) C d_Mod_row_13 (by decide) (fun c15 => ?_) (fun c15 => ?_)
    · have hw := hw.1 c15
      refine x_iconst (v := (-1)) C d_Mod_row_22 rfl ?_
      exact x_ireturn C d_Mod_row_23 ⟨_, rfl, hw⟩
    · have hw := hw.2 c15
      refine x_iload_n C d_Mod_row_16 rfl ?_
      refine x_bipush (v := 100) C d_Mod_row_17 rfl ?_
      refine x_icmp_le (tgt := 24) C d_Mod_row_19 (by decide) (fun c16 => ?_) (fun c16 => ?_)
      · have hw := hw.1 c16
        refine x_iload_n C d_Mod_row_24 rfl ?_
        refine x_if_ge (tgt := 31) C d_Mod_row_25 (by decide) (fun c17 => ?_) (fun c17 => ?_)
        · have hw := hw.1 c17
          refine x_aload_n C d_Mod_row_31 rfl ?_
          refine g_Mod_33 (p := 82) C rfl fl_Mod_37 d_Mod_row_32 ?_
          refine x_iload_n C d_Mod_row_35 rfl ?_
          refine x_iconst (v := 2) C d_Mod_row_36 rfl ?_
          obtain ⟨h18, hw⟩ := hw
          refine x_iast (p := 92) (n := 8) C rfl h18 d_Mod_row_37 ?_
          refine x_st (fun s19 hs19 => ?_)
          have hw := hw s19 hs19
          refine x_aload_n C d_Mod_row_38 rfl ?_
          refine g_Mod_36 (p := 82) C rfl fl_Mod_46 d_Mod_row_39 ?_
          refine x_iload_n C d_Mod_row_42 rfl ?_
          refine x_iload_n C d_Mod_row_43 rfl ?_
          obtain ⟨h20, hw⟩ := hw
          refine x_iast (p := 95) (n := 8) C rfl h20 d_Mod_row_44 ?_
          refine x_st (fun s21 hs21 => ?_)
          have hw := hw s21 hs21
          refine x_aload_n C d_Mod_row_45 rfl ?_
          refine g_Mod_37 (p := 82) C rfl fl_Mod_49 d_Mod_row_46 ?_
          refine x_iload_n C d_Mod_row_49 rfl ?_
          refine x_iload_n C d_Mod_row_50 rfl ?_
          obtain ⟨h22, hw⟩ := hw
          refine x_iast (p := 96) (n := 8) C rfl h22 d_Mod_row_51 ?_
          refine x_st (fun s23 hs23 => ?_)
          have hw := hw s23 hs23
          refine x_iconst (v := 0) C d_Mod_row_52 rfl ?_
          refine x_istore (L' := [some (.ref (xa X 82)), some (.int x1), some (.int x2), some (.int x3), some (.int 0)]) C d_Mod_row_53 (Nat.le_of_ble_eq_true rfl) rfl ?_
          obtain ⟨I26, ⟨n27, hn27⟩, hI26⟩ := hw
          have lI26 : ∀ (nI26 : Nat) (x24 : Int32) (s25 : St), I26 nI26 x24 s25 → V X (xQ X (fun v s' => ∃ r : Int32, v = some (.int r) ∧ Q r s')) 0 0 s25 55 [some (.ref (xa X 82)), some (.int x1), some (.int x2), some (.int x3), some (.int x24)] [] := by
            intro nI26
            induction nI26 using Nat.strongRecOn with
            | ind nI26 ihI26 =>
              intro x24 s25 hv
              have hw := hI26 nI26 x24 s25 hv
              refine x_iload C d_Mod_row_55 rfl ?_
              refine x_bipush (v := 100) C d_Mod_row_57 rfl ?_
              refine x_icmp_ge (tgt := 81) C d_Mod_row_59 (by decide) (fun c28 => ?_) (fun c28 => ?_)
              · have hw := hw.1 c28
                refine x_iconst (v := 0) C d_Mod_row_81 rfl ?_
                exact x_ireturn C d_Mod_row_82 ⟨_, rfl, hw⟩
              · have hw := hw.2 c28
                refine x_aload_n C d_Mod_row_62 rfl ?_
                refine g_Mod_38 (p := 82) C rfl fl_Mod_52 d_Mod_row_63 ?_
                refine x_bipush (v := 100) C d_Mod_row_66 rfl ?_
                refine x_iload_n C d_Mod_row_68 rfl ?_
                refine x_imul C d_Mod_row_69 ?_
                refine x_iload C d_Mod_row_70 rfl ?_
                refine x_iadd C d_Mod_row_72 ?_
                refine x_iconst (v := 0) C d_Mod_row_73 rfl ?_
                obtain ⟨h29, hw⟩ := hw
                refine x_iast (p := 97) (n := 800) C rfl h29 d_Mod_row_74 ?_
                refine x_st (fun s30 hs30 => ?_)
                have hw := hw s30 hs30
                obtain ⟨x31, hx31⟩ : ∃ z : Int32, z = x24 + 1 := ⟨_, rfl⟩
                refine x_iinc (v := x31) (L' := [some (.ref (xa X 82)), some (.int x1), some (.int x2), some (.int x3), some (.int x31)]) C d_Mod_row_75 (Nat.le_of_ble_eq_true rfl) rfl (by rw [hx31]; rfl) rfl ?_
                have hw := hw x31 hx31
                refine x_goto (tgt := 55) C d_Mod_row_78 (by decide) ?_
                obtain ⟨m32, hm32, hw⟩ := hw
                exact x_wk (ihI26 m32 hm32 x31 s30 hw) (And.intro rfl (And.intro rfl (And.intro rfl (And.intro rfl (And.intro rfl (trivial))))))
          exact x_wk (lI26 n27 0 s23 hn27) (And.intro rfl (And.intro rfl (And.intro rfl (And.intro rfl (And.intro rfl (trivial))))))
        · have hw := hw.2 c17
          refine x_bipush (v := (-14)) C d_Mod_row_28 rfl ?_
          exact x_ireturn C d_Mod_row_30 ⟨_, rfl, hw⟩
      · have hw := hw.2 c16
        refine x_iconst (v := (-1)) C d_Mod_row_22 rfl ?_
        exact x_ireturn C d_Mod_row_23 ⟨_, rfl, hw⟩
def vc_Mod_put (x1 : Int32) (x2 : Int32) (x3 : Int32) (s : St) (Q : Int32 → St → Prop) : Prop :=
    vc_Mod_wrongRow x1 (-1) s (fun x10 => ((x10 = 0 → (vp_in x1 8 ∧ vc_Mod_isIn x2 0 ((s 96 (Int32.toNatClampNeg x1)) - 1) (fun b14 => ((¬ (bi b14) = 0 → (vp_in x1 8 ∧ (∃ J19 : Int32 → Prop, (∀ (x18 : Int32), J19 x18 → (vp_in ((100 * x1) + x2) 800 ∧ (∀ s21 : St, s21 = wr s 97 (Int32.toNatClampNeg ((100 * x1) + x2)) x18 → Q 0 s21))) ∧ ((¬ (s 95 (Int32.toNatClampNeg x1)) = 0 → (vp_in x1 8 ∧ ((¬ (s 95 (Int32.toNatClampNeg x1)) = 1 → J19 x3) ∧ ((s 95 (Int32.toNatClampNeg x1)) = 1 → J19 ((Int32.toInt16 x3).toInt32))))) ∧ ((s 95 (Int32.toNatClampNeg x1)) = 0 → J19 ((Int32.toInt8 x3).toInt32)))))) ∧ ((bi b14) = 0 → Q (-13) s))))) ∧ (¬ x10 = 0 → Q x10 s)))
def rm_Mod_put : Room := { frames := 3, cells := 0, slots := 0, locals := 64 }
set_option maxHeartbeats 4000000 in
set_option maxRecDepth 20000 in
theorem m_Mod_put (g : Gx) (hg : gOk g) (x1 : Int32) (x2 : Int32) (x3 : Int32)  (s : St) (Q : Int32 → St → Prop) (hw : vc_Mod_put x1 x2 x3 s Q) : Mc g y_Mod_put b_Mod_put 5 (some FieldType.int) rm_Mod_put [.ref (ga g 82), .int x1, .int x2, .int x3] s (fun v s' => ∃ r : Int32, v = some (.int r) ∧ Q r s') := by
  refine mc_ofV (j := 1) (L := [some (.ref (ga g 82)), some (.int x1), some (.int x2), some (.int x3), none]) hg (by decide) (Nat.le_of_ble_eq_true rfl) rfl ?_
  intro X hX C
  subst hX
  unfold vc_Mod_put at hw
  refine x_aload_n C d_Mod_put_0 rfl ?_
  refine x_iload_n C d_Mod_put_1 rfl ?_
  refine x_iconst (v := (-1)) C d_Mod_put_2 rfl ?_
  refine x_callV (As := [.int x1, .int (-1)]) (rest := []) (p := 82) C (m_Mod_wrongRow (xg X) C.2.2.2.2.2.2.1 x1 (-1) s _ hw) cw_Mod_wrongRow ml_Mod_186 rfl (by decide) (by decide) rfl rfl rfl ⟨rfl, rfl, Nat.le_of_ble_eq_true rfl, Nat.le_of_ble_eq_true rfl⟩ ⟨Nat.zero_le _, Nat.zero_le _⟩ rfl (Nat.le_of_ble_eq_true rfl) d_Mod_put_3 ?_
  rintro _ _ ⟨x10, rfl, rfl, hw⟩
  show V X _ _ _ _ 6 [some (.ref (xa X 82)), some (.int x1), some (.int x2), some (.int x3), none] [.int x10]
  refine x_istore (L' := [some (.ref (xa X 82)), some (.int x1), some (.int x2), some (.int x3), some (.int x10)]) C d_Mod_put_6 (Nat.le_of_ble_eq_true rfl) rfl ?_
  refine x_iload C d_Mod_put_8 rfl ?_
  refine x_if_eq (tgt := 16) C d_Mod_put_10 (by decide) (fun c12 => ?_) (fun c12 => ?_)
  · have hw := hw.1 c12
    refine x_iload_n C d_Mod_put_16 rfl ?_
    refine x_iconst (v := 0) C d_Mod_put_17 rfl ?_
    refine x_aload_n C d_Mod_put_18 rfl ?_
    refine g_Mod_37 (p := 82) C rfl fl_Mod_49 d_Mod_put_19 ?_
    refine x_iload_n C d_Mod_put_22 rfl ?_
    obtain ⟨h13, hw⟩ := hw
    refine x_iald (p := 96) (n := 8) C rfl h13 d_Mod_put_23 ?_
    refine x_iconst (v := 1) C d_Mod_put_24 rfl ?_
    refine x_isub C d_Mod_put_25 ?_
    refine x_callS (As := [.int x2, .int 0, .int ((s 96 (Int32.toNatClampNeg x1)) - 1)]) (rest := []) C (m_Mod_isIn (xg X) C.2.2.2.2.2.2.1 x2 0 ((s 96 (Int32.toNatClampNeg x1)) - 1) s _ hw) cw_Mod_isIn ml_Mod_55 rfl ⟨rfl, rfl, Nat.le_of_ble_eq_true rfl, Nat.le_of_ble_eq_true rfl⟩ ⟨Nat.zero_le _, Nat.zero_le _⟩ rfl (Nat.le_of_ble_eq_true rfl) d_Mod_put_26 ?_
    rintro _ _ ⟨b14, rfl, rfl, hw⟩
    show V X _ _ _ _ 29 [some (.ref (xa X 82)), some (.int x1), some (.int x2), some (.int x3), some (.int x10)] [.int (bi b14)]
    refine x_if_ne (tgt := 35) C d_Mod_put_29 (by decide) (fun c16 => ?_) (fun c16 => ?_)
    · have hw := hw.1 c16
      refine x_aload_n C d_Mod_put_35 rfl ?_
      refine g_Mod_38 (p := 82) C rfl fl_Mod_52 d_Mod_put_36 ?_
      refine x_bipush (v := 100) C d_Mod_put_39 rfl ?_
      refine x_iload_n C d_Mod_put_41 rfl ?_
      refine x_imul C d_Mod_put_42 ?_
      refine x_iload_n C d_Mod_put_43 rfl ?_
      refine x_iadd C d_Mod_put_44 ?_
      refine x_aload_n C d_Mod_put_45 rfl ?_
      refine g_Mod_36 (p := 82) C rfl fl_Mod_46 d_Mod_put_46 ?_
      refine x_iload_n C d_Mod_put_49 rfl ?_
      obtain ⟨h17, hw⟩ := hw
      refine x_iald (p := 95) (n := 8) C rfl h17 d_Mod_put_50 ?_
      obtain ⟨J19, hJ19, hw⟩ := hw
      have kJ19 : ∀ (x18 : Int32), J19 x18 → V X (xQ X (fun v s' => ∃ r : Int32, v = some (.int r) ∧ Q r s')) 0 0 s 75 [some (.ref (xa X 82)), some (.int x1), some (.int x2), some (.int x3), some (.int x10)] [.int x18, .int ((100 * x1) + x2), .ref (xa X 97)] := by
        intro x18 hv
        have hw := hJ19 x18 hv
        obtain ⟨h20, hw⟩ := hw
        refine x_iast (p := 97) (n := 800) C rfl h20 d_Mod_put_75 ?_
        refine x_st (fun s21 hs21 => ?_)
        have hw := hw s21 hs21
        refine x_iconst (v := 0) C d_Mod_put_76 rfl ?_
        exact x_ireturn C d_Mod_put_77 ⟨_, rfl, hw⟩
      refine x_if_ne (tgt := 59) C d_Mod_put_51 (by decide) (fun c22 => ?_) (fun c22 => ?_)
      · have hw := hw.1 c22
        refine x_aload_n C d_Mod_put_59 rfl ?_
        refine g_Mod_36 (p := 82) C rfl fl_Mod_46 d_Mod_put_60 ?_
        refine x_iload_n C d_Mod_put_63 rfl ?_
        obtain ⟨h23, hw⟩ := hw
        refine x_iald (p := 95) (n := 8) C rfl h23 d_Mod_put_64 ?_
        refine x_iconst (v := 1) C d_Mod_put_65 rfl ?_
        refine x_icmp_ne (tgt := 74) C d_Mod_put_66 (by decide) (fun c24 => ?_) (fun c24 => ?_)
        · have hw := hw.1 c24
          refine x_iload_n C d_Mod_put_74 rfl ?_
          exact x_wk (kJ19 x3 hw) (And.intro rfl (And.intro rfl (And.intro rfl (And.intro rfl (And.intro rfl (trivial))))))
        · have hw := hw.2 c24
          refine x_iload_n C d_Mod_put_69 rfl ?_
          refine x_i2s C d_Mod_put_70 ?_
          refine x_goto (tgt := 75) C d_Mod_put_71 (by decide) ?_
          exact x_wk (kJ19 ((Int32.toInt16 x3).toInt32) hw) (And.intro rfl (And.intro rfl (And.intro rfl (And.intro rfl (And.intro rfl (trivial))))))
      · have hw := hw.2 c22
        refine x_iload_n C d_Mod_put_54 rfl ?_
        refine x_i2b C d_Mod_put_55 ?_
        refine x_goto (tgt := 75) C d_Mod_put_56 (by decide) ?_
        exact x_wk (kJ19 ((Int32.toInt8 x3).toInt32) hw) (And.intro rfl (And.intro rfl (And.intro rfl (And.intro rfl (And.intro rfl (trivial))))))
    · have hw := hw.2 c16
      refine x_bipush (v := (-13)) C d_Mod_put_32 rfl ?_
      exact x_ireturn C d_Mod_put_34 ⟨_, rfl, hw⟩
  · have hw := hw.2 c12
    refine x_iload C d_Mod_put_13 rfl ?_
    exact x_ireturn C d_Mod_put_15 ⟨_, rfl, hw⟩
def vc_Mod_element (x1 : Int32) (x2 : Int32) (s : St) (Q : Int64 → St → Prop) : Prop :=
    vc_Mod_isShelf x1 (fun b10 => (∃ J13 : Int32 → Prop, (∀ (x12 : Int32), J13 x12 → (∀ s14 : St, s14 = wr s 82 39 x12 → ((¬ (s14 82 39) = 0 → Q 0 s14) ∧ ((s14 82 39) = 0 → (vp_in ((100 * x1) + x2) 800 ∧ Q (Int32.toInt64 (s14 97 (Int32.toNatClampNeg ((100 * x1) + x2)))) s14))))) ∧ ((¬ (bi b10) = 0 → (vp_in x1 8 ∧ (∃ J19 : Prop, (J19 → J13 2) ∧ ((¬ (s 92 (Int32.toNatClampNeg x1)) = 2 → J19) ∧ ((s 92 (Int32.toNatClampNeg x1)) = 2 → (vp_in x1 8 ∧ vc_Mod_isIn x2 0 ((s 96 (Int32.toNatClampNeg x1)) - 1) (fun b22 => ((¬ (bi b22) = 0 → J13 0) ∧ ((bi b22) = 0 → J19))))))))) ∧ ((bi b10) = 0 → J13 1))))
def rm_Mod_element : Room := { frames := 2, cells := 0, slots := 0, locals := 42 }
set_option maxHeartbeats 4000000 in
set_option maxRecDepth 20000 in
theorem m_Mod_element (g : Gx) (hg : gOk g) (x1 : Int32) (x2 : Int32)  (s : St) (Q : Int64 → St → Prop) (hw : vc_Mod_element x1 x2 s Q) : Mc g y_Mod_element b_Mod_element 3 (some FieldType.long) rm_Mod_element [.ref (ga g 82), .int x1, .int x2] s (fun v s' => ∃ r : Int64, v = some (.long r) ∧ Q r s') := by
  refine mc_ofV (j := 0) (L := [some (.ref (ga g 82)), some (.int x1), some (.int x2)]) hg (by decide) (Nat.le_of_ble_eq_true rfl) rfl ?_
  intro X hX C
  subst hX
  unfold vc_Mod_element at hw
  refine x_aload_n C d_Mod_element_0 rfl ?_
  refine x_iload_n C d_Mod_element_1 rfl ?_
  refine x_callS (As := [.int x1]) (rest := [.ref (xa X 82)]) C (m_Mod_isShelf (xg X) C.2.2.2.2.2.2.1 x1 s _ hw) cw_Mod_isShelf ml_Mod_206 rfl ⟨rfl, rfl, Nat.le_of_ble_eq_true rfl, Nat.le_of_ble_eq_true rfl⟩ ⟨Nat.zero_le _, Nat.zero_le _⟩ rfl (Nat.le_of_ble_eq_true rfl) d_Mod_element_2 ?_
  rintro _ _ ⟨b10, rfl, rfl, hw⟩
  show V X _ _ _ _ 5 [some (.ref (xa X 82)), some (.int x1), some (.int x2)] [.int (bi b10), .ref (xa X 82)]
  obtain ⟨J13, hJ13, hw⟩ := hw
  have kJ13 : ∀ (x12 : Int32), J13 x12 → V X (xQ X (fun v s' => ∃ r : Int64, v = some (.long r) ∧ Q r s')) 0 0 s 43 [some (.ref (xa X 82)), some (.int x1), some (.int x2)] [.int x12, .ref (xa X 82)] := by
    intro x12 hv
    have hw := hJ13 x12 hv
    refine p_Mod_39 (p := 82) C rfl fl_Mod_279 d_Mod_element_43 ?_
    refine x_st (fun s14 hs14 => ?_)
    have hw := hw s14 hs14
    refine x_aload_n C d_Mod_element_46 rfl ?_
    refine g_Mod_39 (p := 82) C rfl fl_Mod_279 d_Mod_element_47 ?_
    refine x_if_ne (tgt := 68) C d_Mod_element_50 (by decide) (fun c15 => ?_) (fun c15 => ?_)
    · have hw := hw.1 c15
      refine x_lconst (v := 0) C d_Mod_element_68 rfl ?_
      exact x_lreturn C d_Mod_element_69 ⟨_, rfl, hw⟩
    · have hw := hw.2 c15
      refine x_aload_n C d_Mod_element_53 rfl ?_
      refine g_Mod_38 (p := 82) C rfl fl_Mod_52 d_Mod_element_54 ?_
      refine x_bipush (v := 100) C d_Mod_element_57 rfl ?_
      refine x_iload_n C d_Mod_element_59 rfl ?_
      refine x_imul C d_Mod_element_60 ?_
      refine x_iload_n C d_Mod_element_61 rfl ?_
      refine x_iadd C d_Mod_element_62 ?_
      obtain ⟨h16, hw⟩ := hw
      refine x_iald (p := 97) (n := 800) C rfl h16 d_Mod_element_63 ?_
      refine x_i2l C d_Mod_element_64 ?_
      refine x_goto (tgt := 69) C d_Mod_element_65 (by decide) ?_
      exact x_lreturn C d_Mod_element_69 ⟨_, rfl, hw⟩
  refine x_if_ne (tgt := 12) C d_Mod_element_5 (by decide) (fun c17 => ?_) (fun c17 => ?_)
  · have hw := hw.1 c17
    refine x_aload_n C d_Mod_element_12 rfl ?_
    refine g_Mod_33 (p := 82) C rfl fl_Mod_37 d_Mod_element_13 ?_
    refine x_iload_n C d_Mod_element_16 rfl ?_
    obtain ⟨h18, hw⟩ := hw
    refine x_iald (p := 92) (n := 8) C rfl h18 d_Mod_element_17 ?_
    refine x_iconst (v := 2) C d_Mod_element_18 rfl ?_
    obtain ⟨J19, hJ19, hw⟩ := hw
    have kJ19 : J19 → V X (xQ X (fun v s' => ∃ r : Int64, v = some (.long r) ∧ Q r s')) 0 0 s 38 [some (.ref (xa X 82)), some (.int x1), some (.int x2)] [.ref (xa X 82)] := by
      intro  hv
      have hw := hJ19  hv
      refine x_iconst (v := 2) C d_Mod_element_38 rfl ?_
      refine x_goto (tgt := 43) C d_Mod_element_39 (by decide) ?_
      exact x_wk (kJ13 2 hw) (And.intro rfl (And.intro rfl (And.intro rfl (trivial))))
    refine x_icmp_ne (tgt := 38) C d_Mod_element_19 (by decide) (fun c20 => ?_) (fun c20 => ?_)
    · have hw := hw.1 c20
      exact x_wk (kJ19  hw) (And.intro rfl (And.intro rfl (And.intro rfl (trivial))))
    · have hw := hw.2 c20
      refine x_iload_n C d_Mod_element_22 rfl ?_
      refine x_iconst (v := 0) C d_Mod_element_23 rfl ?_
      refine x_aload_n C d_Mod_element_24 rfl ?_
      refine g_Mod_37 (p := 82) C rfl fl_Mod_49 d_Mod_element_25 ?_
      refine x_iload_n C d_Mod_element_28 rfl ?_
      obtain ⟨h21, hw⟩ := hw
      refine x_iald (p := 96) (n := 8) C rfl h21 d_Mod_element_29 ?_
      refine x_iconst (v := 1) C d_Mod_element_30 rfl ?_
      refine x_isub C d_Mod_element_31 ?_
      refine x_callS (As := [.int x2, .int 0, .int ((s 96 (Int32.toNatClampNeg x1)) - 1)]) (rest := [.ref (xa X 82)]) C (m_Mod_isIn (xg X) C.2.2.2.2.2.2.1 x2 0 ((s 96 (Int32.toNatClampNeg x1)) - 1) s _ hw) cw_Mod_isIn ml_Mod_55 rfl ⟨rfl, rfl, Nat.le_of_ble_eq_true rfl, Nat.le_of_ble_eq_true rfl⟩ ⟨Nat.zero_le _, Nat.zero_le _⟩ rfl (Nat.le_of_ble_eq_true rfl) d_Mod_element_32 ?_
      rintro _ _ ⟨b22, rfl, rfl, hw⟩
      show V X _ _ _ _ 35 [some (.ref (xa X 82)), some (.int x1), some (.int x2)] [.int (bi b22), .ref (xa X 82)]
      refine x_if_ne (tgt := 42) C d_Mod_element_35 (by decide) (fun c24 => ?_) (fun c24 => ?_)
      · have hw := hw.1 c24
        refine x_iconst (v := 0) C d_Mod_element_42 rfl ?_
        exact x_wk (kJ13 0 hw) (And.intro rfl (And.intro rfl (And.intro rfl (trivial))))
      · have hw := hw.2 c24
        exact x_wk (kJ19  hw) (And.intro rfl (And.intro rfl (And.intro rfl (trivial))))
  · have hw := hw.2 c17
    refine x_iconst (v := 1) C d_Mod_element_8 rfl ?_
    refine x_goto (tgt := 43) C d_Mod_element_9 (by decide) ?_
    exact x_wk (kJ13 1 hw) (And.intro rfl (And.intro rfl (And.intro rfl (trivial))))
