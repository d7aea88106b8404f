theorem d_Brt_rescue_0 : decode b_Brt_rescue 0 = .ok (.aload_n 0, 1) := by decide +kernel
theorem d_Brt_rescue_1 : decode b_Brt_rescue 1 = .ok (.getfield 10, 3) := by decide +kernel
theorem d_Brt_rescue_4 : decode b_Brt_rescue 4 = .ok (.iload_n 1, 1) := by decide +kernel
theorem d_Brt_rescue_5 : decode b_Brt_rescue 5 = .ok (.iload_n 2, 1) := by decide +kernel
theorem d_Brt_rescue_6 : decode b_Brt_rescue 6 = .ok (.invokevirtual 191, 3) := by decide +kernel
theorem d_Brt_rescue_9 : decode b_Brt_rescue 9 = .ok (.ifCond .eq 19, 3) := by decide +kernel
theorem d_Brt_rescue_12 : decode b_Brt_rescue 12 = .ok (.iload_n 3, 1) := by decide +kernel
theorem d_Brt_rescue_13 : decode b_Brt_rescue 13 = .ok (.iconst 0, 1) := by decide +kernel
theorem d_Brt_rescue_14 : decode b_Brt_rescue 14 = .ok (.bipush 6, 2) := by decide +kernel
theorem d_Brt_rescue_16 : decode b_Brt_rescue 16 = .ok (.invokestatic 185, 3) := by decide +kernel
theorem d_Brt_rescue_19 : decode b_Brt_rescue 19 = .ok (.ifCond .eq 9, 3) := by decide +kernel
theorem d_Brt_rescue_22 : decode b_Brt_rescue 22 = .ok (.iload 4, 2) := by decide +kernel
theorem d_Brt_rescue_24 : decode b_Brt_rescue 24 = .ok (.iconst (-1), 1) := by decide +kernel
theorem d_Brt_rescue_25 : decode b_Brt_rescue 25 = .ok (.if_icmp .ge 5, 3) := by decide +kernel
theorem d_Brt_rescue_28 : decode b_Brt_rescue 28 = .ok (.iconst (-1), 1) := by decide +kernel
theorem d_Brt_rescue_29 : decode b_Brt_rescue 29 = .ok (.ireturn, 1) := by decide +kernel
theorem d_Brt_rescue_30 : decode b_Brt_rescue 30 = .ok (.aload_n 0, 1) := by decide +kernel
theorem d_Brt_rescue_31 : decode b_Brt_rescue 31 = .ok (.getfield 10, 3) := by decide +kernel
theorem d_Brt_rescue_34 : decode b_Brt_rescue 34 = .ok (.iload_n 1, 1) := by decide +kernel
theorem d_Brt_rescue_35 : decode b_Brt_rescue 35 = .ok (.iload_n 2, 1) := by decide +kernel
theorem d_Brt_rescue_36 : decode b_Brt_rescue 36 = .ok (.invokevirtual 202, 3) := by decide +kernel
theorem d_Brt_rescue_39 : decode b_Brt_rescue 39 = .ok (.iconst 2, 1) := by decide +kernel
theorem d_Brt_rescue_40 : decode b_Brt_rescue 40 = .ok (.if_icmp .eq 6, 3) := by decide +kernel
theorem d_Brt_rescue_43 : decode b_Brt_rescue 43 = .ok (.bipush (-3), 2) := by decide +kernel
theorem d_Brt_rescue_45 : decode b_Brt_rescue 45 = .ok (.ireturn, 1) := by decide +kernel
theorem d_Brt_rescue_46 : decode b_Brt_rescue 46 = .ok (.aload_n 0, 1) := by decide +kernel
theorem d_Brt_rescue_47 : decode b_Brt_rescue 47 = .ok (.getfield 39, 3) := by decide +kernel
theorem d_Brt_rescue_50 : decode b_Brt_rescue 50 = .ok (.aload_n 0, 1) := by decide +kernel
theorem d_Brt_rescue_51 : decode b_Brt_rescue 51 = .ok (.getfield 10, 3) := by decide +kernel
theorem d_Brt_rescue_54 : decode b_Brt_rescue 54 = .ok (.iload_n 1, 1) := by decide +kernel
theorem d_Brt_rescue_55 : decode b_Brt_rescue 55 = .ok (.iload_n 2, 1) := by decide +kernel
theorem d_Brt_rescue_56 : decode b_Brt_rescue 56 = .ok (.iload_n 3, 1) := by decide +kernel
theorem d_Brt_rescue_57 : decode b_Brt_rescue 57 = .ok (.invokevirtual 270, 3) := by decide +kernel
theorem d_Brt_rescue_60 : decode b_Brt_rescue 60 = .ok (.aload_n 0, 1) := by decide +kernel
theorem d_Brt_rescue_61 : decode b_Brt_rescue 61 = .ok (.getfield 39, 3) := by decide +kernel
theorem d_Brt_rescue_64 : decode b_Brt_rescue 64 = .ok (.getfield 273, 3) := by decide +kernel
theorem d_Brt_rescue_67 : decode b_Brt_rescue 67 = .ok (.ifCond .eq 15, 3) := by decide +kernel
theorem d_Brt_rescue_70 : decode b_Brt_rescue 70 = .ok (.iload 4, 2) := by decide +kernel
theorem d_Brt_rescue_72 : decode b_Brt_rescue 72 = .ok (.aload_n 0, 1) := by decide +kernel
theorem d_Brt_rescue_73 : decode b_Brt_rescue 73 = .ok (.getfield 39, 3) := by decide +kernel
theorem d_Brt_rescue_76 : decode b_Brt_rescue 76 = .ok (.getfield 276, 3) := by decide +kernel
theorem d_Brt_rescue_79 : decode b_Brt_rescue 79 = .ok (.if_icmp .lt 6, 3) := by decide +kernel
theorem d_Brt_rescue_82 : decode b_Brt_rescue 82 = .ok (.bipush (-4), 2) := by decide +kernel
theorem d_Brt_rescue_84 : decode b_Brt_rescue 84 = .ok (.ireturn, 1) := by decide +kernel
theorem d_Brt_rescue_85 : decode b_Brt_rescue 85 = .ok (.iload 4, 2) := by decide +kernel
theorem d_Brt_rescue_87 : decode b_Brt_rescue 87 = .ok (.iconst (-1), 1) := by decide +kernel
theorem d_Brt_rescue_88 : decode b_Brt_rescue 88 = .ok (.if_icmp .ne 13, 3) := by decide +kernel
theorem d_Brt_rescue_91 : decode b_Brt_rescue 91 = .ok (.aload_n 0, 1) := by decide +kernel
theorem d_Brt_rescue_92 : decode b_Brt_rescue 92 = .ok (.getfield 39, 3) := by decide +kernel
theorem d_Brt_rescue_95 : decode b_Brt_rescue 95 = .ok (.getfield 279, 3) := by decide +kernel
theorem d_Brt_rescue_98 : decode b_Brt_rescue 98 = .ok (.goto 13, 3) := by decide +kernel
theorem d_Brt_rescue_101 : decode b_Brt_rescue 101 = .ok (.aload_n 0, 1) := by decide +kernel
theorem d_Brt_rescue_102 : decode b_Brt_rescue 102 = .ok (.getfield 39, 3) := by decide +kernel
theorem d_Brt_rescue_105 : decode b_Brt_rescue 105 = .ok (.getfield 282, 3) := by decide +kernel
theorem d_Brt_rescue_108 : decode b_Brt_rescue 108 = .ok (.iload 4, 2) := by decide +kernel
theorem d_Brt_rescue_110 : decode b_Brt_rescue 110 = .ok (.iaload, 1) := by decide +kernel
theorem d_Brt_rescue_111 : decode b_Brt_rescue 111 = .ok (.ireturn, 1) := by decide +kernel
theorem d_Brt_areBackInLight_0 : decode b_Brt_areBackInLight 0 = .ok (.aload_n 0, 1) := by decide +kernel
theorem d_Brt_areBackInLight_1 : decode b_Brt_areBackInLight 1 = .ok (.getfield 25, 3) := by decide +kernel
theorem d_Brt_areBackInLight_4 : decode b_Brt_areBackInLight 4 = .ok (.aload_n 0, 1) := by decide +kernel
theorem d_Brt_areBackInLight_5 : decode b_Brt_areBackInLight 5 = .ok (.getfield 10, 3) := by decide +kernel
theorem d_Brt_areBackInLight_8 : decode b_Brt_areBackInLight 8 = .ok (.aload_n 0, 1) := by decide +kernel
theorem d_Brt_areBackInLight_9 : decode b_Brt_areBackInLight 9 = .ok (.getfield 10, 3) := by decide +kernel
theorem d_Brt_areBackInLight_12 : decode b_Brt_areBackInLight 12 = .ok (.getfield 127, 3) := by decide +kernel
theorem d_Brt_areBackInLight_15 : decode b_Brt_areBackInLight 15 = .ok (.getfield 249, 3) := by decide +kernel
theorem d_Brt_areBackInLight_18 : decode b_Brt_areBackInLight 18 = .ok (.aload_n 0, 1) := by decide +kernel
theorem d_Brt_areBackInLight_19 : decode b_Brt_areBackInLight 19 = .ok (.getfield 10, 3) := by decide +kernel
theorem d_Brt_areBackInLight_22 : decode b_Brt_areBackInLight 22 = .ok (.getfield 127, 3) := by decide +kernel
theorem d_Brt_areBackInLight_25 : decode b_Brt_areBackInLight 25 = .ok (.getfield 250, 3) := by decide +kernel
theorem d_Brt_areBackInLight_28 : decode b_Brt_areBackInLight 28 = .ok (.aload_n 0, 1) := by decide +kernel
theorem d_Brt_areBackInLight_29 : decode b_Brt_areBackInLight 29 = .ok (.getfield 10, 3) := by decide +kernel
theorem d_Brt_areBackInLight_32 : decode b_Brt_areBackInLight 32 = .ok (.getfield 111, 3) := by decide +kernel
theorem d_Brt_areBackInLight_35 : decode b_Brt_areBackInLight 35 = .ok (.iload_n 1, 1) := by decide +kernel
theorem d_Brt_areBackInLight_36 : decode b_Brt_areBackInLight 36 = .ok (.iadd, 1) := by decide +kernel
theorem d_Brt_areBackInLight_37 : decode b_Brt_areBackInLight 37 = .ok (.invokevirtual 402, 3) := by decide +kernel
theorem d_Brt_areBackInLight_40 : decode b_Brt_areBackInLight 40 = .ok (.istore_n 2, 1) := by decide +kernel
theorem d_Brt_areBackInLight_41 : decode b_Brt_areBackInLight 41 = .ok (.iload_n 2, 1) := by decide +kernel
theorem d_Brt_areBackInLight_42 : decode b_Brt_areBackInLight 42 = .ok (.ifCond .eq 27, 3) := by decide +kernel
theorem d_Brt_areBackInLight_45 : decode b_Brt_areBackInLight 45 = .ok (.aload_n 0, 1) := by decide +kernel
theorem d_Brt_areBackInLight_46 : decode b_Brt_areBackInLight 46 = .ok (.getfield 25, 3) := by decide +kernel
theorem d_Brt_areBackInLight_49 : decode b_Brt_areBackInLight 49 = .ok (.getfield 241, 3) := by decide +kernel
theorem d_Brt_areBackInLight_52 : decode b_Brt_areBackInLight 52 = .ok (.getfield 214, 3) := by decide +kernel
theorem d_Brt_areBackInLight_55 : decode b_Brt_areBackInLight 55 = .ok (.aload_n 0, 1) := by decide +kernel
theorem d_Brt_areBackInLight_56 : decode b_Brt_areBackInLight 56 = .ok (.getfield 10, 3) := by decide +kernel
theorem d_Brt_areBackInLight_59 : decode b_Brt_areBackInLight 59 = .ok (.getfield 285, 3) := by decide +kernel
theorem d_Brt_areBackInLight_62 : decode b_Brt_areBackInLight 62 = .ok (.if_icmp .gt 7, 3) := by decide +kernel
theorem d_Brt_areBackInLight_65 : decode b_Brt_areBackInLight 65 = .ok (.iconst 1, 1) := by decide +kernel
theorem d_Brt_areBackInLight_66 : decode b_Brt_areBackInLight 66 = .ok (.goto 4, 3) := by decide +kernel
theorem d_Brt_areBackInLight_69 : decode b_Brt_areBackInLight 69 = .ok (.iconst 0, 1) := by decide +kernel
theorem d_Brt_areBackInLight_70 : decode b_Brt_areBackInLight 70 = .ok (.ireturn, 1) := by decide +kernel
theorem d_Brt_turns_0 : decode b_Brt_turns 0 = .ok (.bipush (-4), 2) := by decide +kernel
theorem d_Brt_turns_2 : decode b_Brt_turns 2 = .ok (.istore_n 1, 1) := by decide +kernel
theorem d_Brt_turns_3 : decode b_Brt_turns 3 = .ok (.iconst 0, 1) := by decide +kernel
theorem d_Brt_turns_4 : decode b_Brt_turns 4 = .ok (.istore_n 2, 1) := by decide +kernel
theorem d_Brt_turns_5 : decode b_Brt_turns 5 = .ok (.sipush 600, 3) := by decide +kernel
theorem d_Brt_turns_8 : decode b_Brt_turns 8 = .ok (.aload_n 0, 1) := by decide +kernel
theorem d_Brt_turns_9 : decode b_Brt_turns 9 = .ok (.getfield 10, 3) := by decide +kernel
theorem d_Brt_turns_12 : decode b_Brt_turns 12 = .ok (.getfield 285, 3) := by decide +kernel
theorem d_Brt_turns_15 : decode b_Brt_turns 15 = .ok (.aload_n 0, 1) := by decide +kernel
theorem d_Brt_turns_16 : decode b_Brt_turns 16 = .ok (.getfield 10, 3) := by decide +kernel
theorem d_Brt_turns_19 : decode b_Brt_turns 19 = .ok (.getfield 111, 3) := by decide +kernel
theorem d_Brt_turns_22 : decode b_Brt_turns 22 = .ok (.isub, 1) := by decide +kernel
theorem d_Brt_turns_23 : decode b_Brt_turns 23 = .ok (.invokestatic 288, 3) := by decide +kernel
theorem d_Brt_turns_26 : decode b_Brt_turns 26 = .ok (.istore_n 3, 1) := by decide +kernel
theorem d_Brt_turns_27 : decode b_Brt_turns 27 = .ok (.iconst 0, 1) := by decide +kernel
theorem d_Brt_turns_28 : decode b_Brt_turns 28 = .ok (.istore 4, 2) := by decide +kernel
theorem d_Brt_turns_30 : decode b_Brt_turns 30 = .ok (.iload 4, 2) := by decide +kernel
theorem d_Brt_turns_32 : decode b_Brt_turns 32 = .ok (.bipush 32, 2) := by decide +kernel
theorem d_Brt_turns_34 : decode b_Brt_turns 34 = .ok (.if_icmp .ge 46, 3) := by decide +kernel
theorem d_Brt_turns_37 : decode b_Brt_turns 37 = .ok (.iload_n 2, 1) := by decide +kernel
theorem d_Brt_turns_38 : decode b_Brt_turns 38 = .ok (.iload_n 3, 1) := by decide +kernel
theorem d_Brt_turns_39 : decode b_Brt_turns 39 = .ok (.if_icmp .gt 41, 3) := by decide +kernel
theorem d_Brt_turns_42 : decode b_Brt_turns 42 = .ok (.iload_n 2, 1) := by decide +kernel
theorem d_Brt_turns_43 : decode b_Brt_turns 43 = .ok (.iload_n 3, 1) := by decide +kernel
theorem d_Brt_turns_44 : decode b_Brt_turns 44 = .ok (.iadd, 1) := by decide +kernel
theorem d_Brt_turns_45 : decode b_Brt_turns 45 = .ok (.iconst 2, 1) := by decide +kernel
theorem d_Brt_turns_46 : decode b_Brt_turns 46 = .ok (.idiv, 1) := by decide +kernel
theorem d_Brt_turns_47 : decode b_Brt_turns 47 = .ok (.istore 5, 2) := by decide +kernel
theorem d_Brt_turns_49 : decode b_Brt_turns 49 = .ok (.aload_n 0, 1) := by decide +kernel
theorem d_Brt_turns_50 : decode b_Brt_turns 50 = .ok (.iload 5, 2) := by decide +kernel
theorem d_Brt_turns_52 : decode b_Brt_turns 52 = .ok (.invokevirtual 291, 3) := by decide +kernel
theorem d_Brt_turns_55 : decode b_Brt_turns 55 = .ok (.ifCond .eq 14, 3) := by decide +kernel
theorem d_Brt_turns_58 : decode b_Brt_turns 58 = .ok (.iload 5, 2) := by decide +kernel
theorem d_Brt_turns_60 : decode b_Brt_turns 60 = .ok (.istore_n 1, 1) := by decide +kernel
theorem d_Brt_turns_61 : decode b_Brt_turns 61 = .ok (.iload 5, 2) := by decide +kernel
theorem d_Brt_turns_63 : decode b_Brt_turns 63 = .ok (.iconst 1, 1) := by decide +kernel
theorem d_Brt_turns_64 : decode b_Brt_turns 64 = .ok (.iadd, 1) := by decide +kernel
theorem d_Brt_turns_65 : decode b_Brt_turns 65 = .ok (.istore_n 2, 1) := by decide +kernel
theorem d_Brt_turns_66 : decode b_Brt_turns 66 = .ok (.goto 8, 3) := by decide +kernel
theorem d_Brt_turns_69 : decode b_Brt_turns 69 = .ok (.iload 5, 2) := by decide +kernel
theorem d_Brt_turns_71 : decode b_Brt_turns 71 = .ok (.iconst 1, 1) := by decide +kernel
theorem d_Brt_turns_72 : decode b_Brt_turns 72 = .ok (.isub, 1) := by decide +kernel
theorem d_Brt_turns_73 : decode b_Brt_turns 73 = .ok (.istore_n 3, 1) := by decide +kernel
theorem d_Brt_turns_74 : decode b_Brt_turns 74 = .ok (.iinc 4 1, 3) := by decide +kernel
theorem d_Brt_turns_77 : decode b_Brt_turns 77 = .ok (.goto (-47), 3) := by decide +kernel
theorem d_Brt_turns_80 : decode b_Brt_turns 80 = .ok (.iload_n 1, 1) := by decide +kernel
theorem d_Brt_turns_81 : decode b_Brt_turns 81 = .ok (.ireturn, 1) := by decide +kernel
theorem d_Brt_floods_0 : decode b_Brt_floods 0 = .ok (.aload_n 0, 1) := by decide +kernel
theorem d_Brt_floods_1 : decode b_Brt_floods 1 = .ok (.getfield 10, 3) := by decide +kernel
theorem d_Brt_floods_4 : decode b_Brt_floods 4 = .ok (.iload_n 1, 1) := by decide +kernel
theorem d_Brt_floods_5 : decode b_Brt_floods 5 = .ok (.iload_n 2, 1) := by decide +kernel
theorem d_Brt_floods_6 : decode b_Brt_floods 6 = .ok (.invokevirtual 191, 3) := by decide +kernel
theorem d_Brt_floods_9 : decode b_Brt_floods 9 = .ok (.ifCond .ne 5, 3) := by decide +kernel
theorem d_Brt_floods_12 : decode b_Brt_floods 12 = .ok (.iconst (-1), 1) := by decide +kernel
theorem d_Brt_floods_13 : decode b_Brt_floods 13 = .ok (.ireturn, 1) := by decide +kernel
theorem d_Brt_floods_14 : decode b_Brt_floods 14 = .ok (.aload_n 0, 1) := by decide +kernel
theorem d_Brt_floods_15 : decode b_Brt_floods 15 = .ok (.getfield 10, 3) := by decide +kernel
theorem d_Brt_floods_18 : decode b_Brt_floods 18 = .ok (.getfield 127, 3) := by decide +kernel
theorem d_Brt_floods_21 : decode b_Brt_floods 21 = .ok (.getfield 146, 3) := by decide +kernel
theorem d_Brt_floods_24 : decode b_Brt_floods 24 = .ok (.iload_n 1, 1) := by decide +kernel
theorem d_Brt_floods_25 : decode b_Brt_floods 25 = .ok (.iaload, 1) := by decide +kernel
theorem d_Brt_floods_26 : decode b_Brt_floods 26 = .ok (.istore_n 3, 1) := by decide +kernel
theorem d_Brt_floods_27 : decode b_Brt_floods 27 = .ok (.aload_n 0, 1) := by decide +kernel
theorem d_Brt_floods_28 : decode b_Brt_floods 28 = .ok (.getfield 10, 3) := by decide +kernel
theorem d_Brt_floods_31 : decode b_Brt_floods 31 = .ok (.getfield 127, 3) := by decide +kernel
theorem d_Brt_floods_34 : decode b_Brt_floods 34 = .ok (.iload_n 1, 1) := by decide +kernel
theorem d_Brt_floods_35 : decode b_Brt_floods 35 = .ok (.iload_n 3, 1) := by decide +kernel
theorem d_Brt_floods_36 : decode b_Brt_floods 36 = .ok (.iconst 1, 1) := by decide +kernel
theorem d_Brt_floods_37 : decode b_Brt_floods 37 = .ok (.invokevirtual 194, 3) := by decide +kernel
theorem d_Brt_floods_40 : decode b_Brt_floods 40 = .ok (.aload_n 0, 1) := by decide +kernel
theorem d_Brt_floods_41 : decode b_Brt_floods 41 = .ok (.getfield 10, 3) := by decide +kernel
theorem d_Brt_floods_44 : decode b_Brt_floods 44 = .ok (.getfield 92, 3) := by decide +kernel
theorem d_Brt_floods_47 : decode b_Brt_floods 47 = .ok (.iload_n 3, 1) := by decide +kernel
theorem d_Brt_floods_48 : decode b_Brt_floods 48 = .ok (.invokevirtual 198, 3) := by decide +kernel
theorem d_Brt_floods_51 : decode b_Brt_floods 51 = .ok (.iload_n 2, 1) := by decide +kernel
theorem d_Brt_floods_52 : decode b_Brt_floods 52 = .ok (.iaload, 1) := by decide +kernel
theorem d_Brt_floods_53 : decode b_Brt_floods 53 = .ok (.iadd, 1) := by decide +kernel
theorem d_Brt_floods_54 : decode b_Brt_floods 54 = .ok (.istore 4, 2) := by decide +kernel
theorem d_Brt_floods_56 : decode b_Brt_floods 56 = .ok (.iconst 0, 1) := by decide +kernel
theorem d_Brt_floods_57 : decode b_Brt_floods 57 = .ok (.istore 5, 2) := by decide +kernel
theorem d_Brt_floods_59 : decode b_Brt_floods 59 = .ok (.iload 5, 2) := by decide +kernel
theorem d_Brt_floods_61 : decode b_Brt_floods 61 = .ok (.bipush 99, 2) := by decide +kernel
theorem d_Brt_floods_63 : decode b_Brt_floods 63 = .ok (.if_icmp .gt 38, 3) := by decide +kernel
theorem d_Brt_floods_66 : decode b_Brt_floods 66 = .ok (.iload 4, 2) := by decide +kernel
theorem d_Brt_floods_68 : decode b_Brt_floods 68 = .ok (.aload_n 0, 1) := by decide +kernel
theorem d_Brt_floods_69 : decode b_Brt_floods 69 = .ok (.getfield 10, 3) := by decide +kernel
theorem d_Brt_floods_72 : decode b_Brt_floods 72 = .ok (.getfield 92, 3) := by decide +kernel
theorem d_Brt_floods_75 : decode b_Brt_floods 75 = .ok (.iload_n 2, 1) := by decide +kernel
theorem d_Brt_floods_76 : decode b_Brt_floods 76 = .ok (.iload 5, 2) := by decide +kernel
theorem d_Brt_floods_78 : decode b_Brt_floods 78 = .ok (.aload_n 0, 1) := by decide +kernel
theorem d_Brt_floods_79 : decode b_Brt_floods 79 = .ok (.getfield 10, 3) := by decide +kernel
theorem d_Brt_floods_82 : decode b_Brt_floods 82 = .ok (.getfield 294, 3) := by decide +kernel
theorem d_Brt_floods_85 : decode b_Brt_floods 85 = .ok (.imul, 1) := by decide +kernel
theorem d_Brt_floods_86 : decode b_Brt_floods 86 = .ok (.invokevirtual 117, 3) := by decide +kernel
theorem d_Brt_floods_89 : decode b_Brt_floods 89 = .ok (.if_icmp .le 6, 3) := by decide +kernel
theorem d_Brt_floods_92 : decode b_Brt_floods 92 = .ok (.iload 5, 2) := by decide +kernel
theorem d_Brt_floods_94 : decode b_Brt_floods 94 = .ok (.ireturn, 1) := by decide +kernel
theorem d_Brt_floods_95 : decode b_Brt_floods 95 = .ok (.iinc 5 1, 3) := by decide +kernel
theorem d_Brt_floods_98 : decode b_Brt_floods 98 = .ok (.goto (-39), 3) := by decide +kernel
theorem d_Brt_floods_101 : decode b_Brt_floods 101 = .ok (.bipush (-4), 2) := by decide +kernel
theorem d_Brt_floods_103 : decode b_Brt_floods 103 = .ok (.ireturn, 1) := by decide +kernel
theorem d_Brt_haste_0 : decode b_Brt_haste 0 = .ok (.aload_n 0, 1) := by decide +kernel
theorem d_Brt_haste_1 : decode b_Brt_haste 1 = .ok (.aload_n 0, 1) := by decide +kernel
theorem d_Brt_haste_2 : decode b_Brt_haste 2 = .ok (.getfield 10, 3) := by decide +kernel
theorem d_Brt_haste_5 : decode b_Brt_haste 5 = .ok (.invokevirtual 237, 3) := by decide +kernel
theorem d_Brt_haste_8 : decode b_Brt_haste 8 = .ok (.pop, 1) := by decide +kernel
theorem d_Brt_haste_9 : decode b_Brt_haste 9 = .ok (.aload_n 0, 1) := by decide +kernel
theorem d_Brt_haste_10 : decode b_Brt_haste 10 = .ok (.getfield 25, 3) := by decide +kernel
theorem d_Brt_haste_13 : decode b_Brt_haste 13 = .ok (.getfield 241, 3) := by decide +kernel
theorem d_Brt_haste_16 : decode b_Brt_haste 16 = .ok (.getfield 214, 3) := by decide +kernel
theorem d_Brt_haste_19 : decode b_Brt_haste 19 = .ok (.istore_n 1, 1) := by decide +kernel
theorem d_Brt_haste_20 : decode b_Brt_haste 20 = .ok (.aload_n 0, 1) := by decide +kernel
theorem d_Brt_haste_21 : decode b_Brt_haste 21 = .ok (.getfield 19, 3) := by decide +kernel
theorem d_Brt_haste_24 : decode b_Brt_haste 24 = .ok (.aload_n 0, 1) := by decide +kernel
theorem d_Brt_haste_25 : decode b_Brt_haste 25 = .ok (.getfield 10, 3) := by decide +kernel
theorem d_Brt_haste_28 : decode b_Brt_haste 28 = .ok (.invokevirtual 72, 3) := by decide +kernel
theorem d_Brt_haste_31 : decode b_Brt_haste 31 = .ok (.aload_n 0, 1) := by decide +kernel
theorem d_Brt_haste_32 : decode b_Brt_haste 32 = .ok (.getfield 19, 3) := by decide +kernel
theorem d_Brt_haste_35 : decode b_Brt_haste 35 = .ok (.getfield 127, 3) := by decide +kernel
theorem d_Brt_haste_38 : decode b_Brt_haste 38 = .ok (.getfield 140, 3) := by decide +kernel
theorem d_Brt_haste_41 : decode b_Brt_haste 41 = .ok (.iconst 0, 1) := by decide +kernel
theorem d_Brt_haste_42 : decode b_Brt_haste 42 = .ok (.invokestatic 297, 3) := by decide +kernel
theorem d_Brt_haste_45 : decode b_Brt_haste 45 = .ok (.aload_n 0, 1) := by decide +kernel
theorem d_Brt_haste_46 : decode b_Brt_haste 46 = .ok (.aload_n 0, 1) := by decide +kernel
theorem d_Brt_haste_47 : decode b_Brt_haste 47 = .ok (.getfield 19, 3) := by decide +kernel
theorem d_Brt_haste_50 : decode b_Brt_haste 50 = .ok (.invokevirtual 237, 3) := by decide +kernel
theorem d_Brt_haste_53 : decode b_Brt_haste 53 = .ok (.pop, 1) := by decide +kernel
theorem d_Brt_haste_54 : decode b_Brt_haste 54 = .ok (.iconst 0, 1) := by decide +kernel
theorem d_Brt_haste_55 : decode b_Brt_haste 55 = .ok (.iload_n 1, 1) := by decide +kernel
theorem d_Brt_haste_56 : decode b_Brt_haste 56 = .ok (.aload_n 0, 1) := by decide +kernel
theorem d_Brt_haste_57 : decode b_Brt_haste 57 = .ok (.getfield 25, 3) := by decide +kernel
theorem d_Brt_haste_60 : decode b_Brt_haste 60 = .ok (.getfield 241, 3) := by decide +kernel
theorem d_Brt_haste_63 : decode b_Brt_haste 63 = .ok (.getfield 214, 3) := by decide +kernel
theorem d_Brt_haste_66 : decode b_Brt_haste 66 = .ok (.isub, 1) := by decide +kernel
theorem d_Brt_haste_67 : decode b_Brt_haste 67 = .ok (.invokestatic 225, 3) := by decide +kernel
theorem d_Brt_haste_70 : decode b_Brt_haste 70 = .ok (.ireturn, 1) := by decide +kernel
theorem d_Brt_commonDivisor_0 : decode b_Brt_commonDivisor 0 = .ok (.lload_n 0, 1) := by decide +kernel
theorem d_Brt_commonDivisor_1 : decode b_Brt_commonDivisor 1 = .ok (.lstore 4, 2) := by decide +kernel
theorem d_Brt_commonDivisor_3 : decode b_Brt_commonDivisor 3 = .ok (.lload_n 2, 1) := by decide +kernel
theorem d_Brt_commonDivisor_4 : decode b_Brt_commonDivisor 4 = .ok (.lstore 6, 2) := by decide +kernel
theorem d_Brt_commonDivisor_6 : decode b_Brt_commonDivisor 6 = .ok (.iconst 0, 1) := by decide +kernel
theorem d_Brt_commonDivisor_7 : decode b_Brt_commonDivisor 7 = .ok (.istore 8, 2) := by decide +kernel
theorem d_Brt_commonDivisor_9 : decode b_Brt_commonDivisor 9 = .ok (.iload 8, 2) := by decide +kernel
theorem d_Brt_commonDivisor_11 : decode b_Brt_commonDivisor 11 = .ok (.sipush 200, 3) := by decide +kernel
theorem d_Brt_commonDivisor_14 : decode b_Brt_commonDivisor 14 = .ok (.if_icmp .ge 31, 3) := by decide +kernel
theorem d_Brt_commonDivisor_17 : decode b_Brt_commonDivisor 17 = .ok (.lload 6, 2) := by decide +kernel
theorem d_Brt_commonDivisor_19 : decode b_Brt_commonDivisor 19 = .ok (.lconst 0, 1) := by decide +kernel
theorem d_Brt_commonDivisor_20 : decode b_Brt_commonDivisor 20 = .ok (.lcmp, 1) := by decide +kernel
theorem d_Brt_commonDivisor_21 : decode b_Brt_commonDivisor 21 = .ok (.ifCond .eq 24, 3) := by decide +kernel
theorem d_Brt_commonDivisor_24 : decode b_Brt_commonDivisor 24 = .ok (.lload 4, 2) := by decide +kernel
theorem d_Brt_commonDivisor_26 : decode b_Brt_commonDivisor 26 = .ok (.lload 6, 2) := by decide +kernel
theorem d_Brt_commonDivisor_28 : decode b_Brt_commonDivisor 28 = .ok (.lrem, 1) := by decide +kernel
theorem d_Brt_commonDivisor_29 : decode b_Brt_commonDivisor 29 = .ok (.lstore 9, 2) := by decide +kernel
theorem d_Brt_commonDivisor_31 : decode b_Brt_commonDivisor 31 = .ok (.lload 6, 2) := by decide +kernel
theorem d_Brt_commonDivisor_33 : decode b_Brt_commonDivisor 33 = .ok (.lstore 4, 2) := by decide +kernel
theorem d_Brt_commonDivisor_35 : decode b_Brt_commonDivisor 35 = .ok (.lload 9, 2) := by decide +kernel
theorem d_Brt_commonDivisor_37 : decode b_Brt_commonDivisor 37 = .ok (.lstore 6, 2) := by decide +kernel
theorem d_Brt_commonDivisor_39 : decode b_Brt_commonDivisor 39 = .ok (.iinc 8 1, 3) := by decide +kernel
theorem d_Brt_commonDivisor_42 : decode b_Brt_commonDivisor 42 = .ok (.goto (-33), 3) := by decide +kernel
theorem d_Brt_commonDivisor_45 : decode b_Brt_commonDivisor 45 = .ok (.lload 4, 2) := by decide +kernel
theorem d_Brt_commonDivisor_47 : decode b_Brt_commonDivisor 47 = .ok (.lreturn, 1) := by decide +kernel
theorem d_Brt_panicOf_0 : decode b_Brt_panicOf 0 = .ok (.lconst 1, 1) := by decide +kernel
theorem d_Brt_panicOf_1 : decode b_Brt_panicOf 1 = .ok (.lstore_n 2, 1) := by decide +kernel
theorem d_Brt_panicOf_2 : decode b_Brt_panicOf 2 = .ok (.iconst 0, 1) := by decide +kernel
theorem d_Brt_panicOf_3 : decode b_Brt_panicOf 3 = .ok (.istore 4, 2) := by decide +kernel
theorem d_Brt_panicOf_5 : decode b_Brt_panicOf 5 = .ok (.iload 4, 2) := by decide +kernel
theorem d_Brt_panicOf_7 : decode b_Brt_panicOf 7 = .ok (.aload_n 0, 1) := by decide +kernel
theorem d_Brt_panicOf_8 : decode b_Brt_panicOf 8 = .ok (.getfield 10, 3) := by decide +kernel
theorem d_Brt_panicOf_11 : decode b_Brt_panicOf 11 = .ok (.getfield 127, 3) := by decide +kernel
theorem d_Brt_panicOf_14 : decode b_Brt_panicOf 14 = .ok (.getfield 250, 3) := by decide +kernel
theorem d_Brt_panicOf_17 : decode b_Brt_panicOf 17 = .ok (.if_icmp .ge 86, 3) := by decide +kernel
theorem d_Brt_panicOf_20 : decode b_Brt_panicOf 20 = .ok (.aload_n 0, 1) := by decide +kernel
theorem d_Brt_panicOf_21 : decode b_Brt_panicOf 21 = .ok (.getfield 10, 3) := by decide +kernel
theorem d_Brt_panicOf_24 : decode b_Brt_panicOf 24 = .ok (.getfield 127, 3) := by decide +kernel
theorem d_Brt_panicOf_27 : decode b_Brt_panicOf 27 = .ok (.getfield 140, 3) := by decide +kernel
theorem d_Brt_panicOf_30 : decode b_Brt_panicOf 30 = .ok (.iload 4, 2) := by decide +kernel
theorem d_Brt_panicOf_32 : decode b_Brt_panicOf 32 = .ok (.iaload, 1) := by decide +kernel
theorem d_Brt_panicOf_33 : decode b_Brt_panicOf 33 = .ok (.istore 5, 2) := by decide +kernel
theorem d_Brt_panicOf_35 : decode b_Brt_panicOf 35 = .ok (.iload_n 1, 1) := by decide +kernel
theorem d_Brt_panicOf_36 : decode b_Brt_panicOf 36 = .ok (.iload 4, 2) := by decide +kernel
theorem d_Brt_panicOf_38 : decode b_Brt_panicOf 38 = .ok (.ishr, 1) := by decide +kernel
theorem d_Brt_panicOf_39 : decode b_Brt_panicOf 39 = .ok (.iconst 1, 1) := by decide +kernel
theorem d_Brt_panicOf_40 : decode b_Brt_panicOf 40 = .ok (.iand, 1) := by decide +kernel
theorem d_Brt_panicOf_41 : decode b_Brt_panicOf 41 = .ok (.iconst 1, 1) := by decide +kernel
theorem d_Brt_panicOf_42 : decode b_Brt_panicOf 42 = .ok (.if_icmp .ne 7, 3) := by decide +kernel
theorem d_Brt_panicOf_45 : decode b_Brt_panicOf 45 = .ok (.iconst 1, 1) := by decide +kernel
theorem d_Brt_panicOf_46 : decode b_Brt_panicOf 46 = .ok (.goto 4, 3) := by decide +kernel
theorem d_Brt_panicOf_49 : decode b_Brt_panicOf 49 = .ok (.iconst 0, 1) := by decide +kernel
theorem d_Brt_panicOf_50 : decode b_Brt_panicOf 50 = .ok (.istore 6, 2) := by decide +kernel
theorem d_Brt_panicOf_52 : decode b_Brt_panicOf 52 = .ok (.lload_n 2, 1) := by decide +kernel
theorem d_Brt_panicOf_53 : decode b_Brt_panicOf 53 = .ok (.iload 6, 2) := by decide +kernel
theorem d_Brt_panicOf_55 : decode b_Brt_panicOf 55 = .ok (.ifCond .eq 9, 3) := by decide +kernel
theorem d_Brt_panicOf_58 : decode b_Brt_panicOf 58 = .ok (.iload 5, 2) := by decide +kernel
theorem d_Brt_panicOf_60 : decode b_Brt_panicOf 60 = .ok (.i2l, 1) := by decide +kernel
theorem d_Brt_panicOf_61 : decode b_Brt_panicOf 61 = .ok (.goto 9, 3) := by decide +kernel
theorem d_Brt_panicOf_64 : decode b_Brt_panicOf 64 = .ok (.bipush 10, 2) := by decide +kernel
theorem d_Brt_panicOf_66 : decode b_Brt_panicOf 66 = .ok (.iload 5, 2) := by decide +kernel
theorem d_Brt_panicOf_68 : decode b_Brt_panicOf 68 = .ok (.isub, 1) := by decide +kernel
theorem d_Brt_panicOf_69 : decode b_Brt_panicOf 69 = .ok (.i2l, 1) := by decide +kernel
theorem d_Brt_panicOf_70 : decode b_Brt_panicOf 70 = .ok (.lmul, 1) := by decide +kernel
theorem d_Brt_panicOf_71 : decode b_Brt_panicOf 71 = .ok (.lstore_n 2, 1) := by decide +kernel
theorem d_Brt_panicOf_72 : decode b_Brt_panicOf 72 = .ok (.aload_n 0, 1) := by decide +kernel
theorem d_Brt_panicOf_73 : decode b_Brt_panicOf 73 = .ok (.getfield 19, 3) := by decide +kernel
theorem d_Brt_panicOf_76 : decode b_Brt_panicOf 76 = .ok (.getfield 127, 3) := by decide +kernel
theorem d_Brt_panicOf_79 : decode b_Brt_panicOf 79 = .ok (.getfield 140, 3) := by decide +kernel
theorem d_Brt_panicOf_82 : decode b_Brt_panicOf 82 = .ok (.iload 4, 2) := by decide +kernel
theorem d_Brt_panicOf_84 : decode b_Brt_panicOf 84 = .ok (.iload 6, 2) := by decide +kernel
theorem d_Brt_panicOf_86 : decode b_Brt_panicOf 86 = .ok (.ifCond .eq 8, 3) := by decide +kernel
theorem d_Brt_panicOf_89 : decode b_Brt_panicOf 89 = .ok (.bipush 9, 2) := by decide +kernel
theorem d_Brt_panicOf_91 : decode b_Brt_panicOf 91 = .ok (.goto 5, 3) := by decide +kernel
theorem d_Brt_panicOf_94 : decode b_Brt_panicOf 94 = .ok (.iload 5, 2) := by decide +kernel
theorem d_Brt_panicOf_96 : decode b_Brt_panicOf 96 = .ok (.iastore, 1) := by decide +kernel
theorem d_Brt_panicOf_97 : decode b_Brt_panicOf 97 = .ok (.iinc 4 1, 3) := by decide +kernel
theorem d_Brt_panicOf_100 : decode b_Brt_panicOf 100 = .ok (.goto (-95), 3) := by decide +kernel
theorem d_Brt_panicOf_103 : decode b_Brt_panicOf 103 = .ok (.lload_n 2, 1) := by decide +kernel
theorem d_Brt_panicOf_104 : decode b_Brt_panicOf 104 = .ok (.lreturn, 1) := by decide +kernel
theorem d_Brt_panic_0 : decode b_Brt_panic 0 = .ok (.iload_n 1, 1) := by decide +kernel
theorem d_Brt_panic_1 : decode b_Brt_panic 1 = .ok (.iconst 0, 1) := by decide +kernel
theorem d_Brt_panic_2 : decode b_Brt_panic 2 = .ok (.iconst 1, 1) := by decide +kernel
theorem d_Brt_panic_3 : decode b_Brt_panic 3 = .ok (.invokestatic 185, 3) := by decide +kernel
theorem d_Brt_panic_6 : decode b_Brt_panic 6 = .ok (.ifCond .ne 7, 3) := by decide +kernel
theorem d_Brt_panic_9 : decode b_Brt_panic 9 = .ok (.ldc2_w 303, 3) := by decide +kernel
theorem d_Brt_panic_12 : decode b_Brt_panic 12 = .ok (.lreturn, 1) := by decide +kernel
theorem d_Brt_panic_13 : decode b_Brt_panic 13 = .ok (.aload_n 0, 1) := by decide +kernel
theorem d_Brt_panic_14 : decode b_Brt_panic 14 = .ok (.getfield 19, 3) := by decide +kernel
theorem d_Brt_panic_17 : decode b_Brt_panic 17 = .ok (.aload_n 0, 1) := by decide +kernel
theorem d_Brt_panic_18 : decode b_Brt_panic 18 = .ok (.getfield 10, 3) := by decide +kernel
theorem d_Brt_panic_21 : decode b_Brt_panic 21 = .ok (.invokevirtual 72, 3) := by decide +kernel
theorem d_Brt_panic_24 : decode b_Brt_panic 24 = .ok (.aload_n 0, 1) := by decide +kernel
theorem d_Brt_panic_25 : decode b_Brt_panic 25 = .ok (.getfield 10, 3) := by decide +kernel
theorem d_Brt_panic_28 : decode b_Brt_panic 28 = .ok (.getfield 127, 3) := by decide +kernel
theorem d_Brt_panic_31 : decode b_Brt_panic 31 = .ok (.getfield 250, 3) := by decide +kernel
theorem d_Brt_panic_34 : decode b_Brt_panic 34 = .ok (.istore_n 2, 1) := by decide +kernel
theorem d_Brt_panic_35 : decode b_Brt_panic 35 = .ok (.lconst 1, 1) := by decide +kernel
theorem d_Brt_panic_36 : decode b_Brt_panic 36 = .ok (.lstore_n 3, 1) := by decide +kernel
theorem d_Brt_panic_37 : decode b_Brt_panic 37 = .ok (.iconst 0, 1) := by decide +kernel
theorem d_Brt_panic_38 : decode b_Brt_panic 38 = .ok (.istore 5, 2) := by decide +kernel
theorem d_Brt_panic_40 : decode b_Brt_panic 40 = .ok (.iload 5, 2) := by decide +kernel
theorem d_Brt_panic_42 : decode b_Brt_panic 42 = .ok (.iload_n 2, 1) := by decide +kernel
theorem d_Brt_panic_43 : decode b_Brt_panic 43 = .ok (.if_icmp .ge 15, 3) := by decide +kernel
theorem d_Brt_panic_46 : decode b_Brt_panic 46 = .ok (.lload_n 3, 1) := by decide +kernel
theorem d_Brt_panic_47 : decode b_Brt_panic 47 = .ok (.ldc2_w 305, 3) := by decide +kernel
theorem d_Brt_panic_50 : decode b_Brt_panic 50 = .ok (.lmul, 1) := by decide +kernel
theorem d_Brt_panic_51 : decode b_Brt_panic 51 = .ok (.lstore_n 3, 1) := by decide +kernel
theorem d_Brt_panic_52 : decode b_Brt_panic 52 = .ok (.iinc 5 1, 3) := by decide +kernel
theorem d_Brt_panic_55 : decode b_Brt_panic 55 = .ok (.goto (-15), 3) := by decide +kernel
theorem d_Brt_panic_58 : decode b_Brt_panic 58 = .ok (.lconst 0, 1) := by decide +kernel
theorem d_Brt_panic_59 : decode b_Brt_panic 59 = .ok (.lstore 5, 2) := by decide +kernel
theorem d_Brt_panic_61 : decode b_Brt_panic 61 = .ok (.iconst 1, 1) := by decide +kernel
theorem d_Brt_panic_62 : decode b_Brt_panic 62 = .ok (.iload_n 2, 1) := by decide +kernel
theorem d_Brt_panic_63 : decode b_Brt_panic 63 = .ok (.ishl, 1) := by decide +kernel
theorem d_Brt_panic_64 : decode b_Brt_panic 64 = .ok (.istore 7, 2) := by decide +kernel
theorem d_Brt_panic_66 : decode b_Brt_panic 66 = .ok (.iconst 0, 1) := by decide +kernel
theorem d_Brt_panic_67 : decode b_Brt_panic 67 = .ok (.istore 8, 2) := by decide +kernel
theorem d_Brt_panic_69 : decode b_Brt_panic 69 = .ok (.iload 8, 2) := by decide +kernel
theorem d_Brt_panic_71 : decode b_Brt_panic 71 = .ok (.iload 7, 2) := by decide +kernel
theorem d_Brt_panic_73 : decode b_Brt_panic 73 = .ok (.if_icmp .ge 42, 3) := by decide +kernel
theorem d_Brt_panic_76 : decode b_Brt_panic 76 = .ok (.aload_n 0, 1) := by decide +kernel
theorem d_Brt_panic_77 : decode b_Brt_panic 77 = .ok (.iload 8, 2) := by decide +kernel
theorem d_Brt_panic_79 : decode b_Brt_panic 79 = .ok (.invokevirtual 307, 3) := by decide +kernel
theorem d_Brt_panic_82 : decode b_Brt_panic 82 = .ok (.lstore 9, 2) := by decide +kernel
theorem d_Brt_panic_84 : decode b_Brt_panic 84 = .ok (.lload 9, 2) := by decide +kernel
theorem d_Brt_panic_86 : decode b_Brt_panic 86 = .ok (.lconst 0, 1) := by decide +kernel
theorem d_Brt_panic_87 : decode b_Brt_panic 87 = .ok (.lcmp, 1) := by decide +kernel
theorem d_Brt_panic_88 : decode b_Brt_panic 88 = .ok (.ifCond .le 21, 3) := by decide +kernel
theorem d_Brt_panic_91 : decode b_Brt_panic 91 = .ok (.aload_n 0, 1) := by decide +kernel
theorem d_Brt_panic_92 : decode b_Brt_panic 92 = .ok (.aload_n 0, 1) := by decide +kernel
theorem d_Brt_panic_93 : decode b_Brt_panic 93 = .ok (.getfield 19, 3) := by decide +kernel
theorem d_Brt_panic_96 : decode b_Brt_panic 96 = .ok (.invokevirtual 237, 3) := by decide +kernel
theorem d_Brt_panic_99 : decode b_Brt_panic 99 = .ok (.ifCond .eq 10, 3) := by decide +kernel
theorem d_Brt_panic_102 : decode b_Brt_panic 102 = .ok (.lload 5, 2) := by decide +kernel
theorem d_Brt_panic_104 : decode b_Brt_panic 104 = .ok (.lload 9, 2) := by decide +kernel
theorem d_Brt_panic_106 : decode b_Brt_panic 106 = .ok (.ladd, 1) := by decide +kernel
theorem d_Brt_panic_107 : decode b_Brt_panic 107 = .ok (.lstore 5, 2) := by decide +kernel
theorem d_Brt_panic_109 : decode b_Brt_panic 109 = .ok (.iinc 8 1, 3) := by decide +kernel
theorem d_Brt_panic_112 : decode b_Brt_panic 112 = .ok (.goto (-43), 3) := by decide +kernel
theorem d_Brt_panic_115 : decode b_Brt_panic 115 = .ok (.lload_n 3, 1) := by decide +kernel
theorem d_Brt_panic_116 : decode b_Brt_panic 116 = .ok (.lload 5, 2) := by decide +kernel
theorem d_Brt_panic_118 : decode b_Brt_panic 118 = .ok (.invokestatic 311, 3) := by decide +kernel
theorem d_Brt_panic_121 : decode b_Brt_panic 121 = .ok (.lstore 8, 2) := by decide +kernel
theorem d_Brt_panic_123 : decode b_Brt_panic 123 = .ok (.lload 8, 2) := by decide +kernel
theorem d_Brt_panic_125 : decode b_Brt_panic 125 = .ok (.lconst 0, 1) := by decide +kernel
theorem d_Brt_panic_126 : decode b_Brt_panic 126 = .ok (.lcmp, 1) := by decide +kernel
theorem d_Brt_panic_127 : decode b_Brt_panic 127 = .ok (.ifCond .gt 7, 3) := by decide +kernel
theorem d_Brt_panic_130 : decode b_Brt_panic 130 = .ok (.ldc2_w 303, 3) := by decide +kernel
theorem d_Brt_panic_133 : decode b_Brt_panic 133 = .ok (.lreturn, 1) := by decide +kernel
theorem d_Brt_panic_134 : decode b_Brt_panic 134 = .ok (.iload_n 1, 1) := by decide +kernel
theorem d_Brt_panic_135 : decode b_Brt_panic 135 = .ok (.ifCond .ne 11, 3) := by decide +kernel
theorem d_Brt_panic_138 : decode b_Brt_panic 138 = .ok (.lload 5, 2) := by decide +kernel
theorem d_Brt_panic_140 : decode b_Brt_panic 140 = .ok (.lload 8, 2) := by decide +kernel
theorem d_Brt_panic_142 : decode b_Brt_panic 142 = .ok (.ldiv, 1) := by decide +kernel
theorem d_Brt_panic_143 : decode b_Brt_panic 143 = .ok (.goto 7, 3) := by decide +kernel
theorem d_Brt_panic_146 : decode b_Brt_panic 146 = .ok (.lload_n 3, 1) := by decide +kernel
theorem d_Brt_panic_147 : decode b_Brt_panic 147 = .ok (.lload 8, 2) := by decide +kernel
theorem d_Brt_panic_149 : decode b_Brt_panic 149 = .ok (.ldiv, 1) := by decide +kernel
theorem d_Brt_panic_150 : decode b_Brt_panic 150 = .ok (.lreturn, 1) := by decide +kernel
theorem d_Brt_pose_0 : decode b_Brt_pose 0 = .ok (.iconst 0, 1) := by decide +kernel
theorem d_Brt_pose_1 : decode b_Brt_pose 1 = .ok (.istore_n 3, 1) := by decide +kernel
theorem d_Brt_pose_2 : decode b_Brt_pose 2 = .ok (.iconst 0, 1) := by decide +kernel
theorem d_Brt_pose_3 : decode b_Brt_pose 3 = .ok (.istore 4, 2) := by decide +kernel
theorem d_Brt_pose_5 : decode b_Brt_pose 5 = .ok (.iload 4, 2) := by decide +kernel
theorem d_Brt_pose_7 : decode b_Brt_pose 7 = .ok (.iload_n 2, 1) := by decide +kernel
theorem d_Brt_pose_8 : decode b_Brt_pose 8 = .ok (.if_icmp .ge 46, 3) := by decide +kernel
theorem d_Brt_pose_11 : decode b_Brt_pose 11 = .ok (.iload_n 1, 1) := by decide +kernel
theorem d_Brt_pose_12 : decode b_Brt_pose 12 = .ok (.iconst 2, 1) := by decide +kernel
theorem d_Brt_pose_13 : decode b_Brt_pose 13 = .ok (.iload_n 2, 1) := by decide +kernel
theorem d_Brt_pose_14 : decode b_Brt_pose 14 = .ok (.iconst 1, 1) := by decide +kernel
theorem d_Brt_pose_15 : decode b_Brt_pose 15 = .ok (.isub, 1) := by decide +kernel
theorem d_Brt_pose_16 : decode b_Brt_pose 16 = .ok (.iload 4, 2) := by decide +kernel
theorem d_Brt_pose_18 : decode b_Brt_pose 18 = .ok (.isub, 1) := by decide +kernel
theorem d_Brt_pose_19 : decode b_Brt_pose 19 = .ok (.imul, 1) := by decide +kernel
theorem d_Brt_pose_20 : decode b_Brt_pose 20 = .ok (.ishr, 1) := by decide +kernel
theorem d_Brt_pose_21 : decode b_Brt_pose 21 = .ok (.iconst 3, 1) := by decide +kernel
theorem d_Brt_pose_22 : decode b_Brt_pose 22 = .ok (.iand, 1) := by decide +kernel
theorem d_Brt_pose_23 : decode b_Brt_pose 23 = .ok (.istore 5, 2) := by decide +kernel
theorem d_Brt_pose_25 : decode b_Brt_pose 25 = .ok (.aload_n 0, 1) := by decide +kernel
theorem d_Brt_pose_26 : decode b_Brt_pose 26 = .ok (.getfield 19, 3) := by decide +kernel
theorem d_Brt_pose_29 : decode b_Brt_pose 29 = .ok (.getfield 127, 3) := by decide +kernel
theorem d_Brt_pose_32 : decode b_Brt_pose 32 = .ok (.getfield 146, 3) := by decide +kernel
theorem d_Brt_pose_35 : decode b_Brt_pose 35 = .ok (.iload 4, 2) := by decide +kernel
theorem d_Brt_pose_37 : decode b_Brt_pose 37 = .ok (.iload 5, 2) := by decide +kernel
theorem d_Brt_pose_39 : decode b_Brt_pose 39 = .ok (.iastore, 1) := by decide +kernel
theorem d_Brt_pose_40 : decode b_Brt_pose 40 = .ok (.iload_n 3, 1) := by decide +kernel
theorem d_Brt_pose_41 : decode b_Brt_pose 41 = .ok (.bipush 10, 2) := by decide +kernel
theorem d_Brt_pose_43 : decode b_Brt_pose 43 = .ok (.imul, 1) := by decide +kernel
theorem d_Brt_pose_44 : decode b_Brt_pose 44 = .ok (.iload 5, 2) := by decide +kernel
theorem d_Brt_pose_46 : decode b_Brt_pose 46 = .ok (.iadd, 1) := by decide +kernel
theorem d_Brt_pose_47 : decode b_Brt_pose 47 = .ok (.istore_n 3, 1) := by decide +kernel
theorem d_Brt_pose_48 : decode b_Brt_pose 48 = .ok (.iinc 4 1, 3) := by decide +kernel
theorem d_Brt_pose_51 : decode b_Brt_pose 51 = .ok (.goto (-46), 3) := by decide +kernel
theorem d_Brt_pose_54 : decode b_Brt_pose 54 = .ok (.iload_n 3, 1) := by decide +kernel
theorem d_Brt_pose_55 : decode b_Brt_pose 55 = .ok (.ireturn, 1) := by decide +kernel
theorem d_Brt_firstWays_0 : decode b_Brt_firstWays 0 = .ok (.aload_n 0, 1) := by decide +kernel
theorem d_Brt_firstWays_1 : decode b_Brt_firstWays 1 = .ok (.getfield 10, 3) := by decide +kernel
theorem d_Brt_firstWays_4 : decode b_Brt_firstWays 4 = .ok (.getfield 127, 3) := by decide +kernel
theorem d_Brt_firstWays_7 : decode b_Brt_firstWays 7 = .ok (.getfield 250, 3) := by decide +kernel
theorem d_Brt_firstWays_10 : decode b_Brt_firstWays 10 = .ok (.istore_n 1, 1) := by decide +kernel
theorem d_Brt_firstWays_11 : decode b_Brt_firstWays 11 = .ok (.iload_n 1, 1) := by decide +kernel
theorem d_Brt_firstWays_12 : decode b_Brt_firstWays 12 = .ok (.iconst 4, 1) := by decide +kernel
theorem d_Brt_firstWays_13 : decode b_Brt_firstWays 13 = .ok (.if_icmp .le 6, 3) := by decide +kernel
theorem d_Brt_firstWays_16 : decode b_Brt_firstWays 16 = .ok (.bipush (-3), 2) := by decide +kernel
theorem d_Brt_firstWays_18 : decode b_Brt_firstWays 18 = .ok (.ireturn, 1) := by decide +kernel
theorem d_Brt_firstWays_19 : decode b_Brt_firstWays 19 = .ok (.aload_n 0, 1) := by decide +kernel
theorem d_Brt_firstWays_20 : decode b_Brt_firstWays 20 = .ok (.getfield 19, 3) := by decide +kernel
theorem d_Brt_firstWays_23 : decode b_Brt_firstWays 23 = .ok (.aload_n 0, 1) := by decide +kernel
theorem d_Brt_firstWays_24 : decode b_Brt_firstWays 24 = .ok (.getfield 10, 3) := by decide +kernel
theorem d_Brt_firstWays_27 : decode b_Brt_firstWays 27 = .ok (.invokevirtual 72, 3) := by decide +kernel
theorem d_Brt_firstWays_30 : decode b_Brt_firstWays 30 = .ok (.iconst (-1), 1) := by decide +kernel
theorem d_Brt_firstWays_31 : decode b_Brt_firstWays 31 = .ok (.istore_n 2, 1) := by decide +kernel
theorem d_Brt_firstWays_32 : decode b_Brt_firstWays 32 = .ok (.iconst 0, 1) := by decide +kernel
theorem d_Brt_firstWays_33 : decode b_Brt_firstWays 33 = .ok (.istore_n 3, 1) := by decide +kernel
theorem d_Brt_firstWays_34 : decode b_Brt_firstWays 34 = .ok (.iconst 1, 1) := by decide +kernel
theorem d_Brt_firstWays_35 : decode b_Brt_firstWays 35 = .ok (.iconst 2, 1) := by decide +kernel
theorem d_Brt_firstWays_36 : decode b_Brt_firstWays 36 = .ok (.iload_n 1, 1) := by decide +kernel
theorem d_Brt_firstWays_37 : decode b_Brt_firstWays 37 = .ok (.imul, 1) := by decide +kernel
theorem d_Brt_firstWays_38 : decode b_Brt_firstWays 38 = .ok (.ishl, 1) := by decide +kernel
theorem d_Brt_firstWays_39 : decode b_Brt_firstWays 39 = .ok (.istore 4, 2) := by decide +kernel
theorem d_Brt_firstWays_41 : decode b_Brt_firstWays 41 = .ok (.iconst 0, 1) := by decide +kernel
theorem d_Brt_firstWays_42 : decode b_Brt_firstWays 42 = .ok (.istore 5, 2) := by decide +kernel
theorem d_Brt_firstWays_44 : decode b_Brt_firstWays 44 = .ok (.iload 5, 2) := by decide +kernel
theorem d_Brt_firstWays_46 : decode b_Brt_firstWays 46 = .ok (.iload 4, 2) := by decide +kernel
theorem d_Brt_firstWays_48 : decode b_Brt_firstWays 48 = .ok (.if_icmp .ge 55, 3) := by decide +kernel
theorem d_Brt_firstWays_51 : decode b_Brt_firstWays 51 = .ok (.aload_n 0, 1) := by decide +kernel
theorem d_Brt_firstWays_52 : decode b_Brt_firstWays 52 = .ok (.iload 5, 2) := by decide +kernel
theorem d_Brt_firstWays_54 : decode b_Brt_firstWays 54 = .ok (.iload_n 1, 1) := by decide +kernel
theorem d_Brt_firstWays_55 : decode b_Brt_firstWays 55 = .ok (.invokevirtual 315, 3) := by decide +kernel
theorem d_Brt_firstWays_58 : decode b_Brt_firstWays 58 = .ok (.istore 6, 2) := by decide +kernel
theorem d_Brt_firstWays_60 : decode b_Brt_firstWays 60 = .ok (.aload_n 0, 1) := by decide +kernel
theorem d_Brt_firstWays_61 : decode b_Brt_firstWays 61 = .ok (.aload_n 0, 1) := by decide +kernel
theorem d_Brt_firstWays_62 : decode b_Brt_firstWays 62 = .ok (.getfield 19, 3) := by decide +kernel
theorem d_Brt_firstWays_65 : decode b_Brt_firstWays 65 = .ok (.invokevirtual 237, 3) := by decide +kernel
theorem d_Brt_firstWays_68 : decode b_Brt_firstWays 68 = .ok (.pop, 1) := by decide +kernel
theorem d_Brt_firstWays_69 : decode b_Brt_firstWays 69 = .ok (.aload_n 0, 1) := by decide +kernel
theorem d_Brt_firstWays_70 : decode b_Brt_firstWays 70 = .ok (.getfield 25, 3) := by decide +kernel
theorem d_Brt_firstWays_73 : decode b_Brt_firstWays 73 = .ok (.getfield 241, 3) := by decide +kernel
theorem d_Brt_firstWays_76 : decode b_Brt_firstWays 76 = .ok (.getfield 318, 3) := by decide +kernel
theorem d_Brt_firstWays_79 : decode b_Brt_firstWays 79 = .ok (.iload_n 2, 1) := by decide +kernel
theorem d_Brt_firstWays_80 : decode b_Brt_firstWays 80 = .ok (.if_icmp .le 17, 3) := by decide +kernel
theorem d_Brt_firstWays_83 : decode b_Brt_firstWays 83 = .ok (.aload_n 0, 1) := by decide +kernel
theorem d_Brt_firstWays_84 : decode b_Brt_firstWays 84 = .ok (.getfield 25, 3) := by decide +kernel
theorem d_Brt_firstWays_87 : decode b_Brt_firstWays 87 = .ok (.getfield 241, 3) := by decide +kernel
theorem d_Brt_firstWays_90 : decode b_Brt_firstWays 90 = .ok (.getfield 318, 3) := by decide +kernel
theorem d_Brt_firstWays_93 : decode b_Brt_firstWays 93 = .ok (.istore_n 2, 1) := by decide +kernel
theorem d_Brt_firstWays_94 : decode b_Brt_firstWays 94 = .ok (.iload 6, 2) := by decide +kernel
theorem d_Brt_firstWays_96 : decode b_Brt_firstWays 96 = .ok (.istore_n 3, 1) := by decide +kernel
theorem d_Brt_firstWays_97 : decode b_Brt_firstWays 97 = .ok (.iinc 5 1, 3) := by decide +kernel
theorem d_Brt_firstWays_100 : decode b_Brt_firstWays 100 = .ok (.goto (-56), 3) := by decide +kernel
theorem d_Brt_firstWays_103 : decode b_Brt_firstWays 103 = .ok (.iload_n 3, 1) := by decide +kernel
theorem d_Brt_firstWays_104 : decode b_Brt_firstWays 104 = .ok (.ireturn, 1) := by decide +kernel
theorem d_Brt_firstUnlike_0 : decode b_Brt_firstUnlike 0 = .ok (.iconst 0, 1) := by decide +kernel
theorem d_Brt_firstUnlike_1 : decode b_Brt_firstUnlike 1 = .ok (.istore_n 3, 1) := by decide +kernel
theorem d_Brt_firstUnlike_2 : decode b_Brt_firstUnlike 2 = .ok (.iload_n 3, 1) := by decide +kernel
theorem d_Brt_firstUnlike_3 : decode b_Brt_firstUnlike 3 = .ok (.aload_n 2, 1) := by decide +kernel
theorem d_Brt_firstUnlike_4 : decode b_Brt_firstUnlike 4 = .ok (.getfield 76, 3) := by decide +kernel
theorem d_Brt_firstUnlike_7 : decode b_Brt_firstUnlike 7 = .ok (.if_icmp .ge 51, 3) := by decide +kernel
theorem d_Brt_firstUnlike_10 : decode b_Brt_firstUnlike 10 = .ok (.iload_n 3, 1) := by decide +kernel
theorem d_Brt_firstUnlike_11 : decode b_Brt_firstUnlike 11 = .ok (.aload_n 0, 1) := by decide +kernel
theorem d_Brt_firstUnlike_12 : decode b_Brt_firstUnlike 12 = .ok (.getfield 19, 3) := by decide +kernel
theorem d_Brt_firstUnlike_15 : decode b_Brt_firstUnlike 15 = .ok (.getfield 92, 3) := by decide +kernel
theorem d_Brt_firstUnlike_18 : decode b_Brt_firstUnlike 18 = .ok (.getfield 166, 3) := by decide +kernel
theorem d_Brt_firstUnlike_21 : decode b_Brt_firstUnlike 21 = .ok (.if_icmp .ge 37, 3) := by decide +kernel
theorem d_Brt_firstUnlike_24 : decode b_Brt_firstUnlike 24 = .ok (.aload_n 2, 1) := by decide +kernel
theorem d_Brt_firstUnlike_25 : decode b_Brt_firstUnlike 25 = .ok (.iload_n 3, 1) := by decide +kernel
theorem d_Brt_firstUnlike_26 : decode b_Brt_firstUnlike 26 = .ok (.invokevirtual 331, 3) := by decide +kernel
theorem d_Brt_firstUnlike_29 : decode b_Brt_firstUnlike 29 = .ok (.ifCond .ne 23, 3) := by decide +kernel
theorem d_Brt_firstUnlike_32 : decode b_Brt_firstUnlike 32 = .ok (.aload_n 2, 1) := by decide +kernel
theorem d_Brt_firstUnlike_33 : decode b_Brt_firstUnlike 33 = .ok (.getfield 83, 3) := by decide +kernel
theorem d_Brt_firstUnlike_36 : decode b_Brt_firstUnlike 36 = .ok (.iload_n 3, 1) := by decide +kernel
theorem d_Brt_firstUnlike_37 : decode b_Brt_firstUnlike 37 = .ok (.iaload, 1) := by decide +kernel
theorem d_Brt_firstUnlike_38 : decode b_Brt_firstUnlike 38 = .ok (.aload_n 0, 1) := by decide +kernel
theorem d_Brt_firstUnlike_39 : decode b_Brt_firstUnlike 39 = .ok (.getfield 19, 3) := by decide +kernel
theorem d_Brt_firstUnlike_42 : decode b_Brt_firstUnlike 42 = .ok (.iload_n 1, 1) := by decide +kernel
theorem d_Brt_firstUnlike_43 : decode b_Brt_firstUnlike 43 = .ok (.iload_n 3, 1) := by decide +kernel
theorem d_Brt_firstUnlike_44 : decode b_Brt_firstUnlike 44 = .ok (.invokevirtual 202, 3) := by decide +kernel
theorem d_Brt_firstUnlike_47 : decode b_Brt_firstUnlike 47 = .ok (.if_icmp .eq 5, 3) := by decide +kernel
theorem d_Brt_firstUnlike_50 : decode b_Brt_firstUnlike 50 = .ok (.iload_n 3, 1) := by decide +kernel
theorem d_Brt_firstUnlike_51 : decode b_Brt_firstUnlike 51 = .ok (.ireturn, 1) := by decide +kernel
theorem d_Brt_firstUnlike_52 : decode b_Brt_firstUnlike 52 = .ok (.iinc 3 1, 3) := by decide +kernel
theorem d_Brt_firstUnlike_55 : decode b_Brt_firstUnlike 55 = .ok (.goto (-53), 3) := by decide +kernel
theorem d_Brt_firstUnlike_58 : decode b_Brt_firstUnlike 58 = .ok (.aload_n 2, 1) := by decide +kernel
theorem d_Brt_firstUnlike_59 : decode b_Brt_firstUnlike 59 = .ok (.getfield 76, 3) := by decide +kernel
theorem d_Brt_firstUnlike_62 : decode b_Brt_firstUnlike 62 = .ok (.ireturn, 1) := by decide +kernel
theorem d_Brt_refusalOfRock_0 : decode b_Brt_refusalOfRock 0 = .ok (.aload_n 0, 1) := by decide +kernel
theorem d_Brt_refusalOfRock_1 : decode b_Brt_refusalOfRock 1 = .ok (.getfield 10, 3) := by decide +kernel
theorem d_Brt_refusalOfRock_4 : decode b_Brt_refusalOfRock 4 = .ok (.getfield 127, 3) := by decide +kernel
theorem d_Brt_refusalOfRock_7 : decode b_Brt_refusalOfRock 7 = .ok (.iload_n 1, 1) := by decide +kernel
theorem d_Brt_refusalOfRock_8 : decode b_Brt_refusalOfRock 8 = .ok (.invokevirtual 131, 3) := by decide +kernel
theorem d_Brt_refusalOfRock_11 : decode b_Brt_refusalOfRock 11 = .ok (.ifCond .ne 5, 3) := by decide +kernel
theorem d_Brt_refusalOfRock_14 : decode b_Brt_refusalOfRock 14 = .ok (.iconst (-1), 1) := by decide +kernel
theorem d_Brt_refusalOfRock_15 : decode b_Brt_refusalOfRock 15 = .ok (.ireturn, 1) := by decide +kernel
theorem d_Brt_refusalOfRock_16 : decode b_Brt_refusalOfRock 16 = .ok (.aload_n 0, 1) := by decide +kernel
theorem d_Brt_refusalOfRock_17 : decode b_Brt_refusalOfRock 17 = .ok (.iload_n 2, 1) := by decide +kernel
theorem d_Brt_refusalOfRock_18 : decode b_Brt_refusalOfRock 18 = .ok (.invokevirtual 58, 3) := by decide +kernel
theorem d_Brt_refusalOfRock_21 : decode b_Brt_refusalOfRock 21 = .ok (.istore_n 3, 1) := by decide +kernel
theorem d_Brt_refusalOfRock_22 : decode b_Brt_refusalOfRock 22 = .ok (.iload_n 3, 1) := by decide +kernel
theorem d_Brt_refusalOfRock_23 : decode b_Brt_refusalOfRock 23 = .ok (.ifCond .eq 5, 3) := by decide +kernel
theorem d_Brt_refusalOfRock_26 : decode b_Brt_refusalOfRock 26 = .ok (.iload_n 3, 1) := by decide +kernel
theorem d_Brt_refusalOfRock_27 : decode b_Brt_refusalOfRock 27 = .ok (.ireturn, 1) := by decide +kernel
theorem d_Brt_refusalOfRock_28 : decode b_Brt_refusalOfRock 28 = .ok (.aload_n 0, 1) := by decide +kernel
theorem d_Brt_refusalOfRock_29 : decode b_Brt_refusalOfRock 29 = .ok (.getfield 49, 3) := by decide +kernel
theorem d_Brt_refusalOfRock_32 : decode b_Brt_refusalOfRock 32 = .ok (.iload_n 2, 1) := by decide +kernel
theorem d_Brt_refusalOfRock_33 : decode b_Brt_refusalOfRock 33 = .ok (.aaload, 1) := by decide +kernel
theorem d_Brt_refusalOfRock_34 : decode b_Brt_refusalOfRock 34 = .ok (.getfield 76, 3) := by decide +kernel
theorem d_Brt_refusalOfRock_37 : decode b_Brt_refusalOfRock 37 = .ok (.aload_n 0, 1) := by decide +kernel
theorem d_Brt_refusalOfRock_38 : decode b_Brt_refusalOfRock 38 = .ok (.getfield 10, 3) := by decide +kernel
theorem d_Brt_refusalOfRock_41 : decode b_Brt_refusalOfRock 41 = .ok (.getfield 92, 3) := by decide +kernel
theorem d_Brt_refusalOfRock_44 : decode b_Brt_refusalOfRock 44 = .ok (.getfield 166, 3) := by decide +kernel
theorem d_Brt_refusalOfRock_47 : decode b_Brt_refusalOfRock 47 = .ok (.if_icmp .le 8, 3) := by decide +kernel
theorem d_Brt_refusalOfRock_50 : decode b_Brt_refusalOfRock 50 = .ok (.bipush (-13), 2) := by decide +kernel
theorem d_Brt_refusalOfRock_52 : decode b_Brt_refusalOfRock 52 = .ok (.goto 4, 3) := by decide +kernel
theorem d_Brt_refusalOfRock_55 : decode b_Brt_refusalOfRock 55 = .ok (.iconst 0, 1) := by decide +kernel
theorem d_Brt_refusalOfRock_56 : decode b_Brt_refusalOfRock 56 = .ok (.ireturn, 1) := by decide +kernel
theorem d_Brt_rock_0 : decode b_Brt_rock 0 = .ok (.iload_n 3, 1) := by decide +kernel
theorem d_Brt_rock_1 : decode b_Brt_rock 1 = .ok (.iconst 0, 1) := by decide +kernel
theorem d_Brt_rock_2 : decode b_Brt_rock 2 = .ok (.iconst 1, 1) := by decide +kernel
theorem d_Brt_rock_3 : decode b_Brt_rock 3 = .ok (.invokestatic 185, 3) := by decide +kernel
theorem d_Brt_rock_6 : decode b_Brt_rock 6 = .ok (.ifCond .ne 5, 3) := by decide +kernel
theorem d_Brt_rock_9 : decode b_Brt_rock 9 = .ok (.iconst (-1), 1) := by decide +kernel
theorem d_Brt_rock_10 : decode b_Brt_rock 10 = .ok (.ireturn, 1) := by decide +kernel
theorem d_Brt_rock_11 : decode b_Brt_rock 11 = .ok (.aload_n 0, 1) := by decide +kernel
theorem d_Brt_rock_12 : decode b_Brt_rock 12 = .ok (.iload_n 1, 1) := by decide +kernel
theorem d_Brt_rock_13 : decode b_Brt_rock 13 = .ok (.iload_n 2, 1) := by decide +kernel
theorem d_Brt_rock_14 : decode b_Brt_rock 14 = .ok (.invokevirtual 321, 3) := by decide +kernel
theorem d_Brt_rock_17 : decode b_Brt_rock 17 = .ok (.istore 4, 2) := by decide +kernel
theorem d_Brt_rock_19 : decode b_Brt_rock 19 = .ok (.iload 4, 2) := by decide +kernel
theorem d_Brt_rock_21 : decode b_Brt_rock 21 = .ok (.ifCond .eq 6, 3) := by decide +kernel
theorem d_Brt_rock_24 : decode b_Brt_rock 24 = .ok (.iload 4, 2) := by decide +kernel
theorem d_Brt_rock_26 : decode b_Brt_rock 26 = .ok (.ireturn, 1) := by decide +kernel
theorem d_Brt_rock_27 : decode b_Brt_rock 27 = .ok (.aload_n 0, 1) := by decide +kernel
theorem d_Brt_rock_28 : decode b_Brt_rock 28 = .ok (.getfield 19, 3) := by decide +kernel
theorem d_Brt_rock_31 : decode b_Brt_rock 31 = .ok (.aload_n 0, 1) := by decide +kernel
theorem d_Brt_rock_32 : decode b_Brt_rock 32 = .ok (.getfield 10, 3) := by decide +kernel
theorem d_Brt_rock_35 : decode b_Brt_rock 35 = .ok (.invokevirtual 72, 3) := by decide +kernel
theorem d_Brt_rock_38 : decode b_Brt_rock 38 = .ok (.iconst 0, 1) := by decide +kernel
theorem d_Brt_rock_39 : decode b_Brt_rock 39 = .ok (.istore 5, 2) := by decide +kernel
theorem d_Brt_rock_41 : decode b_Brt_rock 41 = .ok (.bipush (-4), 2) := by decide +kernel
theorem d_Brt_rock_43 : decode b_Brt_rock 43 = .ok (.istore 6, 2) := by decide +kernel
theorem d_Brt_rock_45 : decode b_Brt_rock 45 = .ok (.bipush 50, 2) := by decide +kernel
theorem d_Brt_rock_47 : decode b_Brt_rock 47 = .ok (.istore 7, 2) := by decide +kernel
theorem d_Brt_rock_49 : decode b_Brt_rock 49 = .ok (.iload 7, 2) := by decide +kernel
theorem d_Brt_rock_51 : decode b_Brt_rock 51 = .ok (.bipush 10, 2) := by decide +kernel
theorem d_Brt_rock_53 : decode b_Brt_rock 53 = .ok (.if_icmp .lt 53, 3) := by decide +kernel
theorem d_Brt_rock_56 : decode b_Brt_rock 56 = .ok (.aload_n 0, 1) := by decide +kernel
theorem d_Brt_rock_57 : decode b_Brt_rock 57 = .ok (.getfield 19, 3) := by decide +kernel
theorem d_Brt_rock_60 : decode b_Brt_rock 60 = .ok (.getfield 127, 3) := by decide +kernel
theorem d_Brt_rock_63 : decode b_Brt_rock 63 = .ok (.getfield 134, 3) := by decide +kernel
theorem d_Brt_rock_66 : decode b_Brt_rock 66 = .ok (.iload_n 1, 1) := by decide +kernel
theorem d_Brt_rock_67 : decode b_Brt_rock 67 = .ok (.iload 7, 2) := by decide +kernel
theorem d_Brt_rock_69 : decode b_Brt_rock 69 = .ok (.iastore, 1) := by decide +kernel
theorem d_Brt_rock_70 : decode b_Brt_rock 70 = .ok (.aload_n 0, 1) := by decide +kernel
theorem d_Brt_rock_71 : decode b_Brt_rock 71 = .ok (.iload_n 1, 1) := by decide +kernel
theorem d_Brt_rock_72 : decode b_Brt_rock 72 = .ok (.aload_n 0, 1) := by decide +kernel
theorem d_Brt_rock_73 : decode b_Brt_rock 73 = .ok (.getfield 49, 3) := by decide +kernel
theorem d_Brt_rock_76 : decode b_Brt_rock 76 = .ok (.iload_n 2, 1) := by decide +kernel
theorem d_Brt_rock_77 : decode b_Brt_rock 77 = .ok (.aaload, 1) := by decide +kernel
theorem d_Brt_rock_78 : decode b_Brt_rock 78 = .ok (.invokevirtual 324, 3) := by decide +kernel
theorem d_Brt_rock_81 : decode b_Brt_rock 81 = .ok (.aload_n 0, 1) := by decide +kernel
theorem d_Brt_rock_82 : decode b_Brt_rock 82 = .ok (.getfield 49, 3) := by decide +kernel
theorem d_Brt_rock_85 : decode b_Brt_rock 85 = .ok (.iload_n 2, 1) := by decide +kernel
theorem d_Brt_rock_86 : decode b_Brt_rock 86 = .ok (.aaload, 1) := by decide +kernel
theorem d_Brt_rock_87 : decode b_Brt_rock 87 = .ok (.getfield 76, 3) := by decide +kernel
theorem d_Brt_rock_90 : decode b_Brt_rock 90 = .ok (.if_icmp .ne 10, 3) := by decide +kernel
theorem d_Brt_rock_93 : decode b_Brt_rock 93 = .ok (.iinc 5 1, 3) := by decide +kernel
theorem d_Brt_rock_96 : decode b_Brt_rock 96 = .ok (.iload 7, 2) := by decide +kernel
theorem d_Brt_rock_98 : decode b_Brt_rock 98 = .ok (.istore 6, 2) := by decide +kernel
theorem d_Brt_rock_100 : decode b_Brt_rock 100 = .ok (.iinc 7 (-1), 3) := by decide +kernel
theorem d_Brt_rock_103 : decode b_Brt_rock 103 = .ok (.goto (-54), 3) := by decide +kernel
theorem d_Brt_rock_106 : decode b_Brt_rock 106 = .ok (.iload_n 3, 1) := by decide +kernel
theorem d_Brt_rock_107 : decode b_Brt_rock 107 = .ok (.ifCond .ne 8, 3) := by decide +kernel
theorem d_Brt_rock_110 : decode b_Brt_rock 110 = .ok (.iload 5, 2) := by decide +kernel
theorem d_Brt_rock_112 : decode b_Brt_rock 112 = .ok (.goto 5, 3) := by decide +kernel
theorem d_Brt_rock_115 : decode b_Brt_rock 115 = .ok (.iload 6, 2) := by decide +kernel
theorem d_Brt_rock_117 : decode b_Brt_rock 117 = .ok (.ireturn, 1) := by decide +kernel
theorem d_Brt_forged_0 : decode b_Brt_forged 0 = .ok (.aload_n 0, 1) := by decide +kernel
theorem d_Brt_forged_1 : decode b_Brt_forged 1 = .ok (.iload_n 1, 1) := by decide +kernel
theorem d_Brt_forged_2 : decode b_Brt_forged 2 = .ok (.iload_n 2, 1) := by decide +kernel
theorem d_Brt_forged_3 : decode b_Brt_forged 3 = .ok (.invokevirtual 321, 3) := by decide +kernel
theorem d_Brt_forged_6 : decode b_Brt_forged 6 = .ok (.istore_n 3, 1) := by decide +kernel
theorem d_Brt_forged_7 : decode b_Brt_forged 7 = .ok (.iload_n 3, 1) := by decide +kernel
theorem d_Brt_forged_8 : decode b_Brt_forged 8 = .ok (.ifCond .eq 5, 3) := by decide +kernel
theorem d_Brt_forged_11 : decode b_Brt_forged 11 = .ok (.iload_n 3, 1) := by decide +kernel
theorem d_Brt_forged_12 : decode b_Brt_forged 12 = .ok (.ireturn, 1) := by decide +kernel
theorem d_Brt_forged_13 : decode b_Brt_forged 13 = .ok (.aload_n 0, 1) := by decide +kernel
theorem d_Brt_forged_14 : decode b_Brt_forged 14 = .ok (.getfield 19, 3) := by decide +kernel
theorem d_Brt_forged_17 : decode b_Brt_forged 17 = .ok (.aload_n 0, 1) := by decide +kernel
theorem d_Brt_forged_18 : decode b_Brt_forged 18 = .ok (.getfield 10, 3) := by decide +kernel
theorem d_Brt_forged_21 : decode b_Brt_forged 21 = .ok (.invokevirtual 72, 3) := by decide +kernel
theorem d_Brt_forged_24 : decode b_Brt_forged 24 = .ok (.iconst 0, 1) := by decide +kernel
theorem d_Brt_forged_25 : decode b_Brt_forged 25 = .ok (.istore 4, 2) := by decide +kernel
theorem d_Brt_forged_27 : decode b_Brt_forged 27 = .ok (.bipush 10, 2) := by decide +kernel
theorem d_Brt_forged_29 : decode b_Brt_forged 29 = .ok (.istore 5, 2) := by decide +kernel
theorem d_Brt_forged_31 : decode b_Brt_forged 31 = .ok (.iload 5, 2) := by decide +kernel
theorem d_Brt_forged_33 : decode b_Brt_forged 33 = .ok (.bipush 50, 2) := by decide +kernel
theorem d_Brt_forged_35 : decode b_Brt_forged 35 = .ok (.if_icmp .gt 41, 3) := by decide +kernel
theorem d_Brt_forged_38 : decode b_Brt_forged 38 = .ok (.aload_n 0, 1) := by decide +kernel
theorem d_Brt_forged_39 : decode b_Brt_forged 39 = .ok (.getfield 19, 3) := by decide +kernel
theorem d_Brt_forged_42 : decode b_Brt_forged 42 = .ok (.getfield 127, 3) := by decide +kernel
theorem d_Brt_forged_45 : decode b_Brt_forged 45 = .ok (.getfield 134, 3) := by decide +kernel
theorem d_Brt_forged_48 : decode b_Brt_forged 48 = .ok (.iload_n 1, 1) := by decide +kernel
theorem d_Brt_forged_49 : decode b_Brt_forged 49 = .ok (.iload 5, 2) := by decide +kernel
theorem d_Brt_forged_51 : decode b_Brt_forged 51 = .ok (.iastore, 1) := by decide +kernel
theorem d_Brt_forged_52 : decode b_Brt_forged 52 = .ok (.iload 4, 2) := by decide +kernel
theorem d_Brt_forged_54 : decode b_Brt_forged 54 = .ok (.aload_n 0, 1) := by decide +kernel
theorem d_Brt_forged_55 : decode b_Brt_forged 55 = .ok (.iload_n 1, 1) := by decide +kernel
theorem d_Brt_forged_56 : decode b_Brt_forged 56 = .ok (.aload_n 0, 1) := by decide +kernel
theorem d_Brt_forged_57 : decode b_Brt_forged 57 = .ok (.getfield 49, 3) := by decide +kernel
theorem d_Brt_forged_60 : decode b_Brt_forged 60 = .ok (.iload_n 2, 1) := by decide +kernel
theorem d_Brt_forged_61 : decode b_Brt_forged 61 = .ok (.aaload, 1) := by decide +kernel
theorem d_Brt_forged_62 : decode b_Brt_forged 62 = .ok (.invokevirtual 324, 3) := by decide +kernel
theorem d_Brt_forged_65 : decode b_Brt_forged 65 = .ok (.invokestatic 225, 3) := by decide +kernel
theorem d_Brt_forged_68 : decode b_Brt_forged 68 = .ok (.istore 4, 2) := by decide +kernel
theorem d_Brt_forged_70 : decode b_Brt_forged 70 = .ok (.iinc 5 1, 3) := by decide +kernel
theorem d_Brt_forged_73 : decode b_Brt_forged 73 = .ok (.goto (-42), 3) := by decide +kernel
theorem d_Brt_forged_76 : decode b_Brt_forged 76 = .ok (.iload 4, 2) := by decide +kernel
theorem d_Brt_forged_78 : decode b_Brt_forged 78 = .ok (.aload_n 0, 1) := by decide +kernel
theorem d_Brt_forged_79 : decode b_Brt_forged 79 = .ok (.getfield 49, 3) := by decide +kernel
theorem d_Brt_forged_82 : decode b_Brt_forged 82 = .ok (.iload_n 2, 1) := by decide +kernel
theorem d_Brt_forged_83 : decode b_Brt_forged 83 = .ok (.aaload, 1) := by decide +kernel
theorem d_Brt_forged_84 : decode b_Brt_forged 84 = .ok (.getfield 76, 3) := by decide +kernel
theorem d_Brt_forged_87 : decode b_Brt_forged 87 = .ok (.if_icmp .ne 8, 3) := by decide +kernel
theorem d_Brt_forged_90 : decode b_Brt_forged 90 = .ok (.bipush (-4), 2) := by decide +kernel
theorem d_Brt_forged_92 : decode b_Brt_forged 92 = .ok (.goto 5, 3) := by decide +kernel
theorem d_Brt_forged_95 : decode b_Brt_forged 95 = .ok (.iload 4, 2) := by decide +kernel
theorem d_Brt_forged_97 : decode b_Brt_forged 97 = .ok (.ireturn, 1) := by decide +kernel
set_option maxRecDepth 100000 in
theorem cw_Brt_areBackInLight : CwV y_Brt_areBackInLight b_Brt_areBackInLight 3 (some FieldType.boolean) 1 := ⟨tbl_at 738 (by decide +kernel) rfl, tbl_at 11 (by decide +kernel) rfl, tbl_at 48 (by decide +kernel) rfl, tbl_at 739 rfl rfl, by decide +kernel, by decide +kernel, by decide +kernel⟩
set_option maxRecDepth 100000 in
theorem cw_Brt_commonDivisor : CwS y_Brt_commonDivisor b_Brt_commonDivisor 11 (some FieldType.long) 2 := ⟨tbl_at 762 (by decide +kernel) rfl, tbl_at 48 (by decide +kernel) rfl, tbl_at 763 rfl rfl, by decide +kernel, by decide +kernel, by decide +kernel⟩
set_option maxRecDepth 100000 in
theorem cw_Brt_firstUnlike : CwV y_Brt_firstUnlike b_Brt_firstUnlike 4 (some FieldType.int) 2 := ⟨tbl_at 782 (by decide +kernel) rfl, tbl_at 15 (by decide +kernel) rfl, tbl_at 48 (by decide +kernel) rfl, tbl_at 783 rfl rfl, by decide +kernel, by decide +kernel, by decide +kernel⟩
set_option maxRecDepth 100000 in
theorem cw_Brt_panicOf : CwV y_Brt_panicOf b_Brt_panicOf 7 (some FieldType.long) 1 := ⟨tbl_at 759 (by decide +kernel) rfl, tbl_at 12 (by decide +kernel) rfl, tbl_at 48 (by decide +kernel) rfl, tbl_at 760 rfl rfl, by decide +kernel, by decide +kernel, by decide +kernel⟩
set_option maxRecDepth 100000 in
theorem cw_Brt_pose : CwV y_Brt_pose b_Brt_pose 6 (some FieldType.int) 2 := ⟨tbl_at 770 (by decide +kernel) rfl, tbl_at 13 (by decide +kernel) rfl, tbl_at 48 (by decide +kernel) rfl, tbl_at 771 rfl rfl, by decide +kernel, by decide +kernel, by decide +kernel⟩
set_option maxRecDepth 100000 in
theorem cw_Brt_refusalOfRock : CwV y_Brt_refusalOfRock b_Brt_refusalOfRock 4 (some FieldType.int) 2 := ⟨tbl_at 778 (by decide +kernel) rfl, tbl_at 14 (by decide +kernel) rfl, tbl_at 48 (by decide +kernel) rfl, tbl_at 779 rfl rfl, by decide +kernel, by decide +kernel, by decide +kernel⟩
set_option maxRecDepth 100000 in
theorem cw_Res_find : CwV y_Res_find b_Res_find 6 (none) 4 := ⟨tbl_at 707 (by decide +kernel) rfl, tbl_at 708 (by decide +kernel) rfl, tbl_at 55 (by decide +kernel) rfl, tbl_at 709 rfl rfl, by decide +kernel, by decide +kernel, by decide +kernel⟩
set_option maxRecDepth 100000 in
theorem cw_She_isSkipped : CwV y_She_isSkipped b_She_isSkipped 2 (some FieldType.boolean) 1 := ⟨tbl_at 785 (by decide +kernel) rfl, tbl_at 786 (by decide +kernel) rfl, tbl_at 56 (by decide +kernel) rfl, tbl_at 787 rfl rfl, by decide +kernel, by decide +kernel, by decide +kernel⟩
theorem fl_Brt_273 : Cond.fieldLink R_Brt 273 "BreatheOut$Rescuers" "found" "Z" ∈ tbl := tbl_at 300 (by decide +kernel) rfl
theorem fl_Brt_276 : Cond.fieldLink R_Brt 276 "BreatheOut$Rescuers" "bestCount" "I" ∈ tbl := tbl_at 296 (by decide +kernel) rfl
theorem fl_Brt_279 : Cond.fieldLink R_Brt 279 "BreatheOut$Rescuers" "bestMinutes" "I" ∈ tbl := tbl_at 298 (by decide +kernel) rfl
theorem fl_Brt_282 : Cond.fieldLink R_Brt 282 "BreatheOut$Rescuers" "bestDeeds" "[I" ∈ tbl := tbl_at 294 (by decide +kernel) rfl
theorem fl_Brt_285 : Cond.fieldLink R_Brt 285 "BreatheOut$Cave" "light" "I" ∈ tbl := tbl_at 186 (by decide +kernel) rfl
theorem fl_Brt_294 : Cond.fieldLink R_Brt 294 "BreatheOut$Cave" "rise" "I" ∈ tbl := tbl_at 181 (by decide +kernel) rfl
theorem fl_Brt_318 : Cond.fieldLink R_Brt 318 "BreatheOut$Leg" "arrivals" "I" ∈ tbl := tbl_at 221 (by decide +kernel) rfl
theorem fl_Brt_39 : Cond.fieldLink R_Brt 39 "BreatheOut" "rescuers" "LBreatheOut$Rescuers;" ∈ tbl := tbl_at 367 (by decide +kernel) rfl
theorem lc_Brt_303 : Cond.constantLong R_Brt 303 (-1000000001) ∈ tbl := tbl_at 755 (by decide +kernel) rfl
theorem lc_Brt_305 : Cond.constantLong R_Brt 305 (10) ∈ tbl := tbl_at 756 (by decide +kernel) rfl
theorem ml_Brt_270 : Cond.methodLink R_Brt 270 y_Res_find ∈ tbl := tbl_at 706 (by decide +kernel) rfl
theorem ml_Brt_288 : Cond.methodLink R_Brt 288 Lib.Math.min.name ∈ tbl := tbl_at 735 (by decide +kernel) rfl
theorem ml_Brt_291 : Cond.methodLink R_Brt 291 y_Brt_areBackInLight ∈ tbl := tbl_at 736 (by decide +kernel) rfl
theorem ml_Brt_297 : Cond.methodLink R_Brt 297 y_Arr_fill ∈ tbl := tbl_at 748 (by decide +kernel) rfl
theorem ml_Brt_307 : Cond.methodLink R_Brt 307 y_Brt_panicOf ∈ tbl := tbl_at 757 (by decide +kernel) rfl
theorem ml_Brt_311 : Cond.methodLink R_Brt 311 y_Brt_commonDivisor ∈ tbl := tbl_at 761 (by decide +kernel) rfl
theorem ml_Brt_315 : Cond.methodLink R_Brt 315 y_Brt_pose ∈ tbl := tbl_at 768 (by decide +kernel) rfl
theorem ml_Brt_321 : Cond.methodLink R_Brt 321 y_Brt_refusalOfRock ∈ tbl := tbl_at 776 (by decide +kernel) rfl
theorem ml_Brt_324 : Cond.methodLink R_Brt 324 y_Brt_firstUnlike ∈ tbl := tbl_at 780 (by decide +kernel) rfl
theorem ml_Brt_331 : Cond.methodLink R_Brt 331 y_She_isSkipped ∈ tbl := tbl_at 784 (by decide +kernel) rfl
def vc_Brt_rescue (x1 : Int32) (x2 : Int32) (x3 : Int32) (x4 : Int32) (s : St) (Q : Int32 → St → Prop) : Prop :=
    vc_Cav_hasBoth 1 x1 x2 s (fun b10 => (((bi b10) = 0 → Q (-1) s) ∧ (¬ (bi b10) = 0 → vc_Brt_within x3 0 6 (fun b13 => (((bi b13) = 0 → Q (-1) s) ∧ (¬ (bi b13) = 0 → (((-1) ≤ x4 → vc_Cav_fitOf 1 x1 x2 s (fun x17 => ((x17 = 2 → vc_Res_find 61 1 x1 x2 x3 s (fun s20 => (((s20 61 3) = 0 → Q (-4) s20) ∧ (¬ (s20 61 3) = 0 → ((x4 < (s20 61 1) → ((¬ x4 = (-1) → (vp_in x4 6 ∧ Q (s20 62 (Int32.toNatClampNeg x4)) s20)) ∧ (x4 = (-1) → Q (s20 61 2) s20))) ∧ (¬ x4 < (s20 61 1) → Q (-4) s20)))))) ∧ (¬ x17 = 2 → Q (-3) s)))) ∧ (¬ (-1) ≤ x4 → Q (-1) s))))))))
def rm_Brt_rescue : Room := { frames := 11, cells := 0, slots := 0, locals := 267 }
set_option maxHeartbeats 4000000 in
set_option maxRecDepth 20000 in
theorem m_Brt_rescue (g : Gx) (hg : gOk g) (x1 : Int32) (x2 : Int32) (x3 : Int32) (x4 : Int32)  (s : St) (Q : Int32 → St → Prop) (hw : vc_Brt_rescue x1 x2 x3 x4 s Q) : Mc g y_Brt_rescue b_Brt_rescue 5 (some FieldType.int) rm_Brt_rescue [.ref (ga g 0), .int x1, .int x2, .int x3, .int x4] s (fun v s' => ∃ r : Int32, v = some (.int r) ∧ Q r s') := by
  refine mc_ofV (j := 0) (L := [some (.ref (ga g 0)), some (.int x1), some (.int x2), some (.int x3), some (.int x4)]) hg (by decide) (Nat.le_of_ble_eq_true rfl) rfl ?_
  intro X hX C
  subst hX
  unfold vc_Brt_rescue at hw
  refine x_aload_n C d_Brt_rescue_0 rfl ?_
  refine g_Brt_0 (p := 0) C rfl fl_Brt_10 d_Brt_rescue_1 ?_
  refine x_iload_n C d_Brt_rescue_4 rfl ?_
  refine x_iload_n C d_Brt_rescue_5 rfl ?_
  refine x_callV (As := [.int x1, .int x2]) (rest := []) (p := 1) C (m_Cav_hasBoth (xg X) C.2.2.2.2.2.2.1 1 x1 x2 rfl s _ hw) cw_Cav_hasBoth ml_Brt_191 rfl (by decide) (by decide) rfl rfl rfl ⟨rfl, rfl, Nat.le_of_ble_eq_true rfl, Nat.le_of_ble_eq_true rfl⟩ ⟨Nat.zero_le _, Nat.zero_le _⟩ rfl (Nat.le_of_ble_eq_true rfl) d_Brt_rescue_6 ?_
  rintro _ _ ⟨b10, rfl, rfl, hw⟩
  show V X _ _ _ _ 9 [some (.ref (xa X 0)), some (.int x1), some (.int x2), some (.int x3), some (.int x4)] [.int (bi b10)]
  refine x_if_eq (tgt := 28) C d_Brt_rescue_9 (by decide) (fun c12 => ?_) (fun c12 => ?_)
  · have hw := hw.1 c12
    refine x_iconst (v := (-1)) C d_Brt_rescue_28 rfl ?_
    exact x_ireturn C d_Brt_rescue_29 ⟨_, rfl, hw⟩
  · have hw := hw.2 c12
    refine x_iload_n C d_Brt_rescue_12 rfl ?_
    refine x_iconst (v := 0) C d_Brt_rescue_13 rfl ?_
    refine x_bipush (v := 6) C d_Brt_rescue_14 rfl ?_
    refine x_callS (As := [.int x3, .int 0, .int 6]) (rest := []) C (m_Brt_within (xg X) C.2.2.2.2.2.2.1 x3 0 6 s _ hw) cw_Brt_within ml_Brt_185 rfl ⟨rfl, rfl, Nat.le_of_ble_eq_true rfl, Nat.le_of_ble_eq_true rfl⟩ ⟨Nat.zero_le _, Nat.zero_le _⟩ rfl (Nat.le_of_ble_eq_true rfl) d_Brt_rescue_16 ?_
    rintro _ _ ⟨b13, rfl, rfl, hw⟩
    show V X _ _ _ _ 19 [some (.ref (xa X 0)), some (.int x1), some (.int x2), some (.int x3), some (.int x4)] [.int (bi b13)]
    refine x_if_eq (tgt := 28) C d_Brt_rescue_19 (by decide) (fun c15 => ?_) (fun c15 => ?_)
    · have hw := hw.1 c15
      refine x_iconst (v := (-1)) C d_Brt_rescue_28 rfl ?_
      exact x_ireturn C d_Brt_rescue_29 ⟨_, rfl, hw⟩
    · have hw := hw.2 c15
      refine x_iload C d_Brt_rescue_22 rfl ?_
      refine x_iconst (v := (-1)) C d_Brt_rescue_24 rfl ?_
      refine x_icmp_ge (tgt := 30) C d_Brt_rescue_25 (by decide) (fun c16 => ?_) (fun c16 => ?_)
      · have hw := hw.1 c16
        refine x_aload_n C d_Brt_rescue_30 rfl ?_
        refine g_Brt_0 (p := 0) C rfl fl_Brt_10 d_Brt_rescue_31 ?_
        refine x_iload_n C d_Brt_rescue_34 rfl ?_
        refine x_iload_n C d_Brt_rescue_35 rfl ?_
        refine x_callV (As := [.int x1, .int x2]) (rest := []) (p := 1) C (m_Cav_fitOf (xg X) C.2.2.2.2.2.2.1 1 x1 x2 rfl s _ hw) cw_Cav_fitOf ml_Brt_202 rfl (by decide) (by decide) rfl rfl rfl ⟨rfl, rfl, Nat.le_of_ble_eq_true rfl, Nat.le_of_ble_eq_true rfl⟩ ⟨Nat.zero_le _, Nat.zero_le _⟩ rfl (Nat.le_of_ble_eq_true rfl) d_Brt_rescue_36 ?_
        rintro _ _ ⟨x17, rfl, rfl, hw⟩
        show V X _ _ _ _ 39 [some (.ref (xa X 0)), some (.int x1), some (.int x2), some (.int x3), some (.int x4)] [.int x17]
        refine x_iconst (v := 2) C d_Brt_rescue_39 rfl ?_
        refine x_icmp_eq (tgt := 46) C d_Brt_rescue_40 (by decide) (fun c19 => ?_) (fun c19 => ?_)
        · have hw := hw.1 c19
          refine x_aload_n C d_Brt_rescue_46 rfl ?_
          refine g_Brt_5 (p := 0) C rfl fl_Brt_39 d_Brt_rescue_47 ?_
          refine x_aload_n C d_Brt_rescue_50 rfl ?_
          refine g_Brt_0 (p := 0) C rfl fl_Brt_10 d_Brt_rescue_51 ?_
          refine x_iload_n C d_Brt_rescue_54 rfl ?_
          refine x_iload_n C d_Brt_rescue_55 rfl ?_
          refine x_iload_n C d_Brt_rescue_56 rfl ?_
          refine x_callV (As := [.ref (xa X 1), .int x1, .int x2, .int x3]) (rest := []) (p := 61) C (m_Res_find (xg X) C.2.2.2.2.2.2.1 61 1 x1 x2 x3 rfl rfl s _ hw) cw_Res_find ml_Brt_270 rfl (by decide) (by decide) rfl rfl rfl ⟨rfl, rfl, Nat.le_of_ble_eq_true rfl, Nat.le_of_ble_eq_true rfl⟩ ⟨Nat.zero_le _, Nat.zero_le _⟩ rfl (Nat.le_of_ble_eq_true rfl) d_Brt_rescue_57 ?_
          rintro _ s20 ⟨rfl, hw⟩
          show V X _ _ _ _ 60 [some (.ref (xa X 0)), some (.int x1), some (.int x2), some (.int x3), some (.int x4)] []
          refine x_aload_n C d_Brt_rescue_60 rfl ?_
          refine g_Brt_5 (p := 0) C rfl fl_Brt_39 d_Brt_rescue_61 ?_
          refine g_Res_3 (p := 61) C rfl fl_Brt_273 d_Brt_rescue_64 ?_
          refine x_if_eq (tgt := 82) C d_Brt_rescue_67 (by decide) (fun c21 => ?_) (fun c21 => ?_)
          · have hw := hw.1 c21
            refine x_bipush (v := (-4)) C d_Brt_rescue_82 rfl ?_
            exact x_ireturn C d_Brt_rescue_84 ⟨_, rfl, hw⟩
          · have hw := hw.2 c21
            refine x_iload C d_Brt_rescue_70 rfl ?_
            refine x_aload_n C d_Brt_rescue_72 rfl ?_
            refine g_Brt_5 (p := 0) C rfl fl_Brt_39 d_Brt_rescue_73 ?_
            refine g_Res_1 (p := 61) C rfl fl_Brt_276 d_Brt_rescue_76 ?_
            refine x_icmp_lt (tgt := 85) C d_Brt_rescue_79 (by decide) (fun c22 => ?_) (fun c22 => ?_)
            · have hw := hw.1 c22
              refine x_iload C d_Brt_rescue_85 rfl ?_
              refine x_iconst (v := (-1)) C d_Brt_rescue_87 rfl ?_
              refine x_icmp_ne (tgt := 101) C d_Brt_rescue_88 (by decide) (fun c23 => ?_) (fun c23 => ?_)
              · have hw := hw.1 c23
                refine x_aload_n C d_Brt_rescue_101 rfl ?_
                refine g_Brt_5 (p := 0) C rfl fl_Brt_39 d_Brt_rescue_102 ?_
                refine g_Res_0 (p := 61) C rfl fl_Brt_282 d_Brt_rescue_105 ?_
                refine x_iload C d_Brt_rescue_108 rfl ?_
                obtain ⟨h24, hw⟩ := hw
                refine x_iald (p := 62) (n := 6) C rfl h24 d_Brt_rescue_110 ?_
                exact x_ireturn C d_Brt_rescue_111 ⟨_, rfl, hw⟩
              · have hw := hw.2 c23
                refine x_aload_n C d_Brt_rescue_91 rfl ?_
                refine g_Brt_5 (p := 0) C rfl fl_Brt_39 d_Brt_rescue_92 ?_
                refine g_Res_2 (p := 61) C rfl fl_Brt_279 d_Brt_rescue_95 ?_
                refine x_goto (tgt := 111) C d_Brt_rescue_98 (by decide) ?_
                exact x_ireturn C d_Brt_rescue_111 ⟨_, rfl, hw⟩
            · have hw := hw.2 c22
              refine x_bipush (v := (-4)) C d_Brt_rescue_82 rfl ?_
              exact x_ireturn C d_Brt_rescue_84 ⟨_, rfl, hw⟩
        · have hw := hw.2 c19
          refine x_bipush (v := (-3)) C d_Brt_rescue_43 rfl ?_
          exact x_ireturn C d_Brt_rescue_45 ⟨_, rfl, hw⟩
      · have hw := hw.2 c16
        refine x_iconst (v := (-1)) C d_Brt_rescue_28 rfl ?_
        exact x_ireturn C d_Brt_rescue_29 ⟨_, rfl, hw⟩
def vc_Brt_areBackInLight (x1 : Int32) (s : St) (Q : Bool → St → Prop) : Prop :=
    vc_Tri_thereAndBack 52 1 17 6 (s 11 0) ((s 1 5) + x1) s (fun b10 s11 => (((bi b10) = 0 → Q false s11) ∧ (¬ (bi b10) = 0 → (((s11 1 4) < (s11 55 4) → Q false s11) ∧ (¬ (s11 1 4) < (s11 55 4) → Q true s11)))))
def rm_Brt_areBackInLight : Room := { frames := 5, cells := 0, slots := 0, locals := 130 }
set_option maxHeartbeats 4000000 in
set_option maxRecDepth 20000 in
theorem m_Brt_areBackInLight (g : Gx) (hg : gOk g) (x1 : Int32)  (s : St) (Q : Bool → St → Prop) (hw : vc_Brt_areBackInLight x1 s Q) : Mc g y_Brt_areBackInLight b_Brt_areBackInLight 3 (some FieldType.boolean) rm_Brt_areBackInLight [.ref (ga g 0), .int x1] s (fun v s' => ∃ r : Bool, v = some (.int (bi r)) ∧ Q r s') := by
  refine mc_ofV (j := 1) (L := [some (.ref (ga g 0)), some (.int x1), none]) hg (by decide) (Nat.le_of_ble_eq_true rfl) rfl ?_
  intro X hX C
  subst hX
  unfold vc_Brt_areBackInLight at hw
  refine x_aload_n C d_Brt_areBackInLight_0 rfl ?_
  refine g_Brt_3 (p := 0) C rfl fl_Brt_25 d_Brt_areBackInLight_1 ?_
  refine x_aload_n C d_Brt_areBackInLight_4 rfl ?_
  refine g_Brt_0 (p := 0) C rfl fl_Brt_10 d_Brt_areBackInLight_5 ?_
  refine x_aload_n C d_Brt_areBackInLight_8 rfl ?_
  refine g_Brt_0 (p := 0) C rfl fl_Brt_10 d_Brt_areBackInLight_9 ?_
  refine g_Cav_1 (p := 1) C rfl fl_Brt_127 d_Brt_areBackInLight_12 ?_
  refine g_Bod_6 (p := 11) C rfl fl_Brt_249 d_Brt_areBackInLight_15 ?_
  refine x_aload_n C d_Brt_areBackInLight_18 rfl ?_
  refine g_Brt_0 (p := 0) C rfl fl_Brt_10 d_Brt_areBackInLight_19 ?_
  refine g_Cav_1 (p := 1) C rfl fl_Brt_127 d_Brt_areBackInLight_22 ?_
  refine g_Bod_0 (p := 11) C rfl fl_Brt_250 d_Brt_areBackInLight_25 ?_
  refine x_aload_n C d_Brt_areBackInLight_28 rfl ?_
  refine g_Brt_0 (p := 0) C rfl fl_Brt_10 d_Brt_areBackInLight_29 ?_
  refine g_Cav_5 (p := 1) C rfl fl_Brt_111 d_Brt_areBackInLight_32 ?_
  refine x_iload_n C d_Brt_areBackInLight_35 rfl ?_
  refine x_iadd C d_Brt_areBackInLight_36 ?_
  refine x_callV (As := [.ref (xa X 1), .ref (xa X 17), .int (s 11 0), .int ((s 1 5) + x1)]) (rest := []) (p := 52) C (m_Tri_thereAndBack (xg X) C.2.2.2.2.2.2.1 52 1 17 6 (s 11 0) ((s 1 5) + x1) rfl rfl rfl s _ hw) cw_Tri_thereAndBack ml_Brt_402 rfl (by decide) (by decide) rfl rfl rfl ⟨rfl, rfl, Nat.le_of_ble_eq_true rfl, Nat.le_of_ble_eq_true rfl⟩ ⟨Nat.zero_le _, Nat.zero_le _⟩ rfl (Nat.le_of_ble_eq_true rfl) d_Brt_areBackInLight_37 ?_
  rintro _ s11 ⟨b10, rfl, hw⟩
  show V X _ _ _ _ 40 [some (.ref (xa X 0)), some (.int x1), none] [.int (bi b10)]
  refine x_istore_n (L' := [some (.ref (xa X 0)), some (.int x1), some (.int (bi b10))]) C d_Brt_areBackInLight_40 (Nat.le_of_ble_eq_true rfl) rfl ?_
  refine x_iload_n C d_Brt_areBackInLight_41 rfl ?_
  refine x_if_eq (tgt := 69) C d_Brt_areBackInLight_42 (by decide) (fun c12 => ?_) (fun c12 => ?_)
  · have hw := hw.1 c12
    refine x_iconst (v := 0) C d_Brt_areBackInLight_69 rfl ?_
    exact x_zreturn (b := false) C d_Brt_areBackInLight_70 ⟨_, rfl, hw⟩
  · have hw := hw.2 c12
    refine x_aload_n C d_Brt_areBackInLight_45 rfl ?_
    refine g_Brt_3 (p := 0) C rfl fl_Brt_25 d_Brt_areBackInLight_46 ?_
    refine g_Tri_1 (p := 52) C rfl fl_Brt_241 d_Brt_areBackInLight_49 ?_
    refine g_Leg_4 (p := 55) C rfl fl_Brt_214 d_Brt_areBackInLight_52 ?_
    refine x_aload_n C d_Brt_areBackInLight_55 rfl ?_
    refine g_Brt_0 (p := 0) C rfl fl_Brt_10 d_Brt_areBackInLight_56 ?_
    refine g_Cav_4 (p := 1) C rfl fl_Brt_285 d_Brt_areBackInLight_59 ?_
    refine x_icmp_gt (tgt := 69) C d_Brt_areBackInLight_62 (by decide) (fun c13 => ?_) (fun c13 => ?_)
    · have hw := hw.1 c13
      refine x_iconst (v := 0) C d_Brt_areBackInLight_69 rfl ?_
      exact x_zreturn (b := false) C d_Brt_areBackInLight_70 ⟨_, rfl, hw⟩
    · have hw := hw.2 c13
      refine x_iconst (v := 1) C d_Brt_areBackInLight_65 rfl ?_
      refine x_goto (tgt := 70) C d_Brt_areBackInLight_66 (by decide) ?_
      exact x_zreturn (b := true) C d_Brt_areBackInLight_70 ⟨_, rfl, hw⟩
def vc_Brt_turns  (s : St) (Q : Int32 → St → Prop) : Prop :=
    (∀ x10 : Int32, x10 = imin 600 ((s 1 4) - (s 1 5)) → (∃ I16 : Nat → Int32 → Int32 → Int32 → Int32 → St → Prop, (∃ n17, I16 n17 (-4) 0 x10 0 s) ∧ ∀ (nI16 : Nat) (x11 : Int32) (x12 : Int32) (x13 : Int32) (x14 : Int32) (s15 : St), I16 nI16 x11 x12 x13 x14 s15 → ((32 ≤ x14 → Q x11 s15) ∧ (¬ 32 ≤ x14 → ((x13 < x12 → Q x11 s15) ∧ (¬ x13 < x12 → (∀ x20 : Int32, x20 = (x12 + x13) / 2 → vc_Brt_areBackInLight x20 s15 (fun b21 s22 => (∃ J26 : Int32 → Int32 → Int32 → Prop, (∀ (x23 : Int32) (x24 : Int32) (x25 : Int32), J26 x23 x24 x25 → (∀ x27 : Int32, x27 = x14 + 1 → ∃ m28, m28 < nI16 ∧ I16 m28 x23 x24 x25 x27 s22)) ∧ (((bi b21) = 0 → (∀ x30 : Int32, x30 = x20 - 1 → J26 x11 x12 x30)) ∧ (¬ (bi b21) = 0 → (∀ x31 : Int32, x31 = x20 + 1 → J26 x20 x31 x13))))))))))))
def rm_Brt_turns : Room := { frames := 6, cells := 0, slots := 0, locals := 152 }
set_option maxHeartbeats 4000000 in
set_option maxRecDepth 20000 in
theorem m_Brt_turns (g : Gx) (hg : gOk g)   (s : St) (Q : Int32 → St → Prop) (hw : vc_Brt_turns  s Q) : Mc g y_Brt_turns b_Brt_turns 6 (some FieldType.int) rm_Brt_turns [.ref (ga g 0)] s (fun v s' => ∃ r : Int32, v = some (.int r) ∧ Q r s') := by
  refine mc_ofV (j := 5) (L := [some (.ref (ga g 0)), none, none, none, none, none]) hg (by decide) (Nat.le_of_ble_eq_true rfl) rfl ?_
  intro X hX C
  subst hX
  unfold vc_Brt_turns at hw
  refine x_bipush (v := (-4)) C d_Brt_turns_0 rfl ?_
  refine x_istore_n (L' := [some (.ref (xa X 0)), some (.int (-4)), none, none, none, none]) C d_Brt_turns_2 (Nat.le_of_ble_eq_true rfl) rfl ?_
  refine x_iconst (v := 0) C d_Brt_turns_3 rfl ?_
  refine x_istore_n (L' := [some (.ref (xa X 0)), some (.int (-4)), some (.int 0), none, none, none]) C d_Brt_turns_4 (Nat.le_of_ble_eq_true rfl) rfl ?_
  refine x_sipush (v := 600) C d_Brt_turns_5 rfl ?_
  refine x_aload_n C d_Brt_turns_8 rfl ?_
  refine g_Brt_0 (p := 0) C rfl fl_Brt_10 d_Brt_turns_9 ?_
  refine g_Cav_4 (p := 1) C rfl fl_Brt_285 d_Brt_turns_12 ?_
  refine x_aload_n C d_Brt_turns_15 rfl ?_
  refine g_Brt_0 (p := 0) C rfl fl_Brt_10 d_Brt_turns_16 ?_
  refine g_Cav_5 (p := 1) C rfl fl_Brt_111 d_Brt_turns_19 ?_
  refine x_isub C d_Brt_turns_22 ?_
  refine x_mmin C ml_Brt_288 (Nat.le_of_ble_eq_true rfl) (Nat.le_of_ble_eq_true rfl) ⟨Nat.zero_le _, Nat.zero_le _⟩ d_Brt_turns_23 ?_
  refine x_nm (fun x10 hx10 => ?_)
  have hw := hw x10 hx10
  refine x_istore_n (L' := [some (.ref (xa X 0)), some (.int (-4)), some (.int 0), some (.int x10), none, none]) C d_Brt_turns_26 (Nat.le_of_ble_eq_true rfl) rfl ?_
  refine x_iconst (v := 0) C d_Brt_turns_27 rfl ?_
  refine x_istore (L' := [some (.ref (xa X 0)), some (.int (-4)), some (.int 0), some (.int x10), some (.int 0), none]) C d_Brt_turns_28 (Nat.le_of_ble_eq_true rfl) rfl ?_
  obtain ⟨I16, ⟨n17, hn17⟩, hI16⟩ := hw
  have lI16 : ∀ (nI16 : Nat) (x11 : Int32) (x12 : Int32) (x13 : Int32) (x14 : Int32) (s15 : St), I16 nI16 x11 x12 x13 x14 s15 → V X (xQ X (fun v s' => ∃ r : Int32, v = some (.int r) ∧ Q r s')) 0 0 s15 30 [some (.ref (xa X 0)), some (.int x11), some (.int x12), some (.int x13), some (.int x14), none] [] := by
    intro nI16
    induction nI16 using Nat.strongRecOn with
    | ind nI16 ihI16 =>
      intro x11 x12 x13 x14 s15 hv
      have hw := hI16 nI16 x11 x12 x13 x14 s15 hv
      refine x_iload C d_Brt_turns_30 rfl ?_
      refine x_bipush (v := 32) C d_Brt_turns_32 rfl ?_
      refine x_icmp_ge (tgt := 80) C d_Brt_turns_34 (by decide) (fun c18 => ?_) (fun c18 => ?_)
      · have hw := hw.1 c18
        refine x_iload_n C d_Brt_turns_80 rfl ?_
        exact x_ireturn C d_Brt_turns_81 ⟨_, rfl, hw⟩
      · have hw := hw.2 c18
        refine x_iload_n C d_Brt_turns_37 rfl ?_
        refine x_iload_n C d_Brt_turns_38 rfl ?_
        refine x_icmp_gt (tgt := 80) C d_Brt_turns_39 (by decide) (fun c19 => ?_) (fun c19 => ?_)
        · have hw := hw.1 c19
          refine x_iload_n C d_Brt_turns_80 rfl ?_
          exact x_ireturn C d_Brt_turns_81 ⟨_, rfl, hw⟩
        · have hw := hw.2 c19
          refine x_iload_n C d_Brt_turns_42 rfl ?_
          refine x_iload_n C d_Brt_turns_43 rfl ?_
          refine x_iadd C d_Brt_turns_44 ?_
          refine x_iconst (v := 2) C d_Brt_turns_45 rfl ?_
          refine x_idiv C d_Brt_turns_46 (by decide) ?_
          refine x_nm (fun x20 hx20 => ?_)
          have hw := hw x20 hx20
          refine x_istore (L' := [some (.ref (xa X 0)), some (.int x11), some (.int x12), some (.int x13), some (.int x14), some (.int x20)]) C d_Brt_turns_47 (Nat.le_of_ble_eq_true rfl) rfl ?_
          refine x_aload_n C d_Brt_turns_49 rfl ?_
          refine x_iload C d_Brt_turns_50 rfl ?_
          refine x_callV (As := [.int x20]) (rest := []) (p := 0) C (m_Brt_areBackInLight (xg X) C.2.2.2.2.2.2.1 x20 s15 _ hw) cw_Brt_areBackInLight ml_Brt_291 rfl (by decide) (by decide) rfl rfl rfl ⟨rfl, rfl, Nat.le_of_ble_eq_true rfl, Nat.le_of_ble_eq_true rfl⟩ ⟨Nat.zero_le _, Nat.zero_le _⟩ rfl (Nat.le_of_ble_eq_true rfl) d_Brt_turns_52 ?_
          rintro _ s22 ⟨b21, rfl, hw⟩
          show V X _ _ _ _ 55 [some (.ref (xa X 0)), some (.int x11), some (.int x12), some (.int x13), some (.int x14), some (.int x20)] [.int (bi b21)]
          obtain ⟨J26, hJ26, hw⟩ := hw
          have kJ26 : ∀ (x23 : Int32) (x24 : Int32) (x25 : Int32), J26 x23 x24 x25 → V X (xQ X (fun v s' => ∃ r : Int32, v = some (.int r) ∧ Q r s')) 0 0 s22 74 [some (.ref (xa X 0)), some (.int x23), some (.int x24), some (.int x25), some (.int x14), some (.int x20)] [] := by
            intro x23 x24 x25 hv
            have hw := hJ26 x23 x24 x25 hv
            obtain ⟨x27, hx27⟩ : ∃ z : Int32, z = x14 + 1 := ⟨_, rfl⟩
            refine x_iinc (v := x27) (L' := [some (.ref (xa X 0)), some (.int x23), some (.int x24), some (.int x25), some (.int x27), some (.int x20)]) C d_Brt_turns_74 (Nat.le_of_ble_eq_true rfl) rfl (by rw [hx27]; rfl) rfl ?_
            have hw := hw x27 hx27
            refine x_goto (tgt := 30) C d_Brt_turns_77 (by decide) ?_
            obtain ⟨m28, hm28, hw⟩ := hw
            exact x_wk (ihI16 m28 hm28 x23 x24 x25 x27 s22 hw) (And.intro rfl (And.intro rfl (And.intro rfl (And.intro rfl (And.intro rfl (trivial))))))
          refine x_if_eq (tgt := 69) C d_Brt_turns_55 (by decide) (fun c29 => ?_) (fun c29 => ?_)
          · have hw := hw.1 c29
            refine x_iload C d_Brt_turns_69 rfl ?_
            refine x_iconst (v := 1) C d_Brt_turns_71 rfl ?_
            refine x_isub C d_Brt_turns_72 ?_
            refine x_nm (fun x30 hx30 => ?_)
            have hw := hw x30 hx30
            refine x_istore_n (L' := [some (.ref (xa X 0)), some (.int x11), some (.int x12), some (.int x30), some (.int x14), some (.int x20)]) C d_Brt_turns_73 (Nat.le_of_ble_eq_true rfl) rfl ?_
            exact x_wk (kJ26 x11 x12 x30 hw) (And.intro rfl (And.intro rfl (And.intro rfl (And.intro rfl (And.intro rfl (And.intro rfl (trivial)))))))
          · have hw := hw.2 c29
            refine x_iload C d_Brt_turns_58 rfl ?_
            refine x_istore_n (L' := [some (.ref (xa X 0)), some (.int x20), some (.int x12), some (.int x13), some (.int x14), some (.int x20)]) C d_Brt_turns_60 (Nat.le_of_ble_eq_true rfl) rfl ?_
            refine x_iload C d_Brt_turns_61 rfl ?_
            refine x_iconst (v := 1) C d_Brt_turns_63 rfl ?_
            refine x_iadd C d_Brt_turns_64 ?_
            refine x_nm (fun x31 hx31 => ?_)
            have hw := hw x31 hx31
            refine x_istore_n (L' := [some (.ref (xa X 0)), some (.int x20), some (.int x31), some (.int x13), some (.int x14), some (.int x20)]) C d_Brt_turns_65 (Nat.le_of_ble_eq_true rfl) rfl ?_
            refine x_goto (tgt := 74) C d_Brt_turns_66 (by decide) ?_
            exact x_wk (kJ26 x20 x31 x13 hw) (And.intro rfl (And.intro rfl (And.intro rfl (And.intro rfl (And.intro rfl (And.intro rfl (trivial)))))))
  exact x_wk (lI16 n17 (-4) 0 x10 0 s hn17) (And.intro rfl (And.intro rfl (And.intro rfl (And.intro rfl (And.intro rfl (trivial))))))
def vc_Brt_floods (x1 : Int32) (x2 : Int32) (s : St) (Q : Int32 → Prop) : Prop :=
    vc_Cav_hasBoth 1 x1 x2 s (fun b10 => ((¬ (bi b10) = 0 → (vp_in x1 6 ∧ (∀ x14 : Int32, x14 = s 16 (Int32.toNatClampNeg x1) → vc_Bod_bulkOf 11 x1 x14 1 s (fun x15 => vc_Yar_moreBy 2 x14 s (fun p17 => kd p17 = 112 → (vp_in x2 12 ∧ (∀ x20 : Int32, x20 = x15 + (s p17 (Int32.toNatClampNeg x2)) → (∃ I22 : Nat → Int32 → Prop, (∃ n23, I22 n23 0) ∧ ∀ (nI22 : Nat) (x21 : Int32), I22 nI22 x21 → ((99 < x21 → Q (-4)) ∧ (¬ 99 < x21 → vc_Yar_roomAt 2 x2 (x21 * (s 1 2)) s (fun x25 => ((x20 ≤ x25 → (∀ x28 : Int32, x28 = x21 + 1 → ∃ m29, m29 < nI22 ∧ I22 m29 x28)) ∧ (¬ x20 ≤ x25 → Q x21))))))))))))) ∧ ((bi b10) = 0 → Q (-1))))
def rm_Brt_floods : Room := { frames := 3, cells := 0, slots := 0, locals := 65 }
set_option maxHeartbeats 4000000 in
set_option maxRecDepth 20000 in
theorem m_Brt_floods (g : Gx) (hg : gOk g) (x1 : Int32) (x2 : Int32)  (s : St) (Q : Int32 → Prop) (hw : vc_Brt_floods x1 x2 s Q) : Mc g y_Brt_floods b_Brt_floods 6 (some FieldType.int) rm_Brt_floods [.ref (ga g 0), .int x1, .int x2] s (fun v s' => ∃ r : Int32, v = some (.int r) ∧ s = s' ∧ Q r) := by
  refine mc_ofV (j := 3) (L := [some (.ref (ga g 0)), some (.int x1), some (.int x2), none, none, none]) hg (by decide) (Nat.le_of_ble_eq_true rfl) rfl ?_
  intro X hX C
  subst hX
  unfold vc_Brt_floods at hw
  refine x_aload_n C d_Brt_floods_0 rfl ?_
  refine g_Brt_0 (p := 0) C rfl fl_Brt_10 d_Brt_floods_1 ?_
  refine x_iload_n C d_Brt_floods_4 rfl ?_
  refine x_iload_n C d_Brt_floods_5 rfl ?_
  refine x_callV (As := [.int x1, .int x2]) (rest := []) (p := 1) C (m_Cav_hasBoth (xg X) C.2.2.2.2.2.2.1 1 x1 x2 rfl s _ hw) cw_Cav_hasBoth ml_Brt_191 rfl (by decide) (by decide) rfl rfl rfl ⟨rfl, rfl, Nat.le_of_ble_eq_true rfl, Nat.le_of_ble_eq_true rfl⟩ ⟨Nat.zero_le _, Nat.zero_le _⟩ rfl (Nat.le_of_ble_eq_true rfl) d_Brt_floods_6 ?_
  rintro _ _ ⟨b10, rfl, rfl, hw⟩
  show V X _ _ _ _ 9 [some (.ref (xa X 0)), some (.int x1), some (.int x2), none, none, none] [.int (bi b10)]
  refine x_if_ne (tgt := 14) C d_Brt_floods_9 (by decide) (fun c12 => ?_) (fun c12 => ?_)
  · have hw := hw.1 c12
    refine x_aload_n C d_Brt_floods_14 rfl ?_
    refine g_Brt_0 (p := 0) C rfl fl_Brt_10 d_Brt_floods_15 ?_
    refine g_Cav_1 (p := 1) C rfl fl_Brt_127 d_Brt_floods_18 ?_
    refine g_Bod_5 (p := 11) C rfl fl_Brt_146 d_Brt_floods_21 ?_
    refine x_iload_n C d_Brt_floods_24 rfl ?_
    obtain ⟨h13, hw⟩ := hw
    refine x_iald (p := 16) (n := 6) C rfl h13 d_Brt_floods_25 ?_
    refine x_nm (fun x14 hx14 => ?_)
    have hw := hw x14 hx14
    refine x_istore_n (L' := [some (.ref (xa X 0)), some (.int x1), some (.int x2), some (.int x14), none, none]) C d_Brt_floods_26 (Nat.le_of_ble_eq_true rfl) rfl ?_
    refine x_aload_n C d_Brt_floods_27 rfl ?_
    refine g_Brt_0 (p := 0) C rfl fl_Brt_10 d_Brt_floods_28 ?_
    refine g_Cav_1 (p := 1) C rfl fl_Brt_127 d_Brt_floods_31 ?_
    refine x_iload_n C d_Brt_floods_34 rfl ?_
    refine x_iload_n C d_Brt_floods_35 rfl ?_
    refine x_iconst (v := 1) C d_Brt_floods_36 rfl ?_
    refine x_callV (As := [.int x1, .int x14, .int 1]) (rest := []) (p := 11) C (m_Bod_bulkOf (xg X) C.2.2.2.2.2.2.1 11 x1 x14 1 rfl s _ hw) cw_Bod_bulkOf ml_Brt_194 rfl (by decide) (by decide) rfl rfl rfl ⟨rfl, rfl, Nat.le_of_ble_eq_true rfl, Nat.le_of_ble_eq_true rfl⟩ ⟨Nat.zero_le _, Nat.zero_le _⟩ rfl (Nat.le_of_ble_eq_true rfl) d_Brt_floods_37 ?_
    rintro _ _ ⟨x15, rfl, rfl, hw⟩
    show V X _ _ _ _ 40 [some (.ref (xa X 0)), some (.int x1), some (.int x2), some (.int x14), none, none] [.int x15]
    refine x_aload_n C d_Brt_floods_40 rfl ?_
    refine g_Brt_0 (p := 0) C rfl fl_Brt_10 d_Brt_floods_41 ?_
    refine g_Cav_0 (p := 1) C rfl fl_Brt_92 d_Brt_floods_44 ?_
    refine x_iload_n C d_Brt_floods_47 rfl ?_
    refine x_callV (As := [.int x14]) (rest := [.int x15]) (p := 2) C (m_Yar_moreBy (xg X) C.2.2.2.2.2.2.1 2 x14 rfl s _ hw) cw_Yar_moreBy ml_Brt_198 rfl (by decide) (by decide) rfl rfl rfl ⟨rfl, rfl, Nat.le_of_ble_eq_true rfl, Nat.le_of_ble_eq_true rfl⟩ ⟨Nat.zero_le _, Nat.zero_le _⟩ rfl (Nat.le_of_ble_eq_true rfl) d_Brt_floods_48 ?_
    rintro _ _ ⟨p17, rfl, hkp17, rfl, hw⟩
    have hw := hw hkp17
    show V X _ _ _ _ 51 [some (.ref (xa X 0)), some (.int x1), some (.int x2), some (.int x14), none, none] [.ref (xa X p17), .int x15]
    refine x_iload_n C d_Brt_floods_51 rfl ?_
    obtain ⟨h19, hw⟩ := hw
    refine x_iald (p := p17) (n := 12) C hkp17 h19 d_Brt_floods_52 ?_
    refine x_iadd C d_Brt_floods_53 ?_
    refine x_nm (fun x20 hx20 => ?_)
    have hw := hw x20 hx20
    refine x_istore (L' := [some (.ref (xa X 0)), some (.int x1), some (.int x2), some (.int x14), some (.int x20), none]) C d_Brt_floods_54 (Nat.le_of_ble_eq_true rfl) rfl ?_
    refine x_iconst (v := 0) C d_Brt_floods_56 rfl ?_
    refine x_istore (L' := [some (.ref (xa X 0)), some (.int x1), some (.int x2), some (.int x14), some (.int x20), some (.int 0)]) C d_Brt_floods_57 (Nat.le_of_ble_eq_true rfl) rfl ?_
    obtain ⟨I22, ⟨n23, hn23⟩, hI22⟩ := hw
    have lI22 : ∀ (nI22 : Nat) (x21 : Int32), I22 nI22 x21 → V X (xQ X (fun v s' => ∃ r : Int32, v = some (.int r) ∧ s = s' ∧ Q r)) 0 0 s 59 [some (.ref (xa X 0)), some (.int x1), some (.int x2), some (.int x14), some (.int x20), some (.int x21)] [] := by
      intro nI22
      induction nI22 using Nat.strongRecOn with
      | ind nI22 ihI22 =>
        intro x21 hv
        have hw := hI22 nI22 x21 hv
        refine x_iload C d_Brt_floods_59 rfl ?_
        refine x_bipush (v := 99) C d_Brt_floods_61 rfl ?_
        refine x_icmp_gt (tgt := 101) C d_Brt_floods_63 (by decide) (fun c24 => ?_) (fun c24 => ?_)
        · have hw := hw.1 c24
          refine x_bipush (v := (-4)) C d_Brt_floods_101 rfl ?_
          exact x_ireturn C d_Brt_floods_103 ⟨_, rfl, rfl, hw⟩
        · have hw := hw.2 c24
          refine x_iload C d_Brt_floods_66 rfl ?_
          refine x_aload_n C d_Brt_floods_68 rfl ?_
          refine g_Brt_0 (p := 0) C rfl fl_Brt_10 d_Brt_floods_69 ?_
          refine g_Cav_0 (p := 1) C rfl fl_Brt_92 d_Brt_floods_72 ?_
          refine x_iload_n C d_Brt_floods_75 rfl ?_
          refine x_iload C d_Brt_floods_76 rfl ?_
          refine x_aload_n C d_Brt_floods_78 rfl ?_
          refine g_Brt_0 (p := 0) C rfl fl_Brt_10 d_Brt_floods_79 ?_
          refine g_Cav_2 (p := 1) C rfl fl_Brt_294 d_Brt_floods_82 ?_
          refine x_imul C d_Brt_floods_85 ?_
          refine x_callV (As := [.int x2, .int (x21 * (s 1 2))]) (rest := [.int x20]) (p := 2) C (m_Yar_roomAt (xg X) C.2.2.2.2.2.2.1 2 x2 (x21 * (s 1 2)) rfl s _ hw) cw_Yar_roomAt ml_Brt_117 rfl (by decide) (by decide) rfl rfl rfl ⟨rfl, rfl, Nat.le_of_ble_eq_true rfl, Nat.le_of_ble_eq_true rfl⟩ ⟨Nat.zero_le _, Nat.zero_le _⟩ rfl (Nat.le_of_ble_eq_true rfl) d_Brt_floods_86 ?_
          rintro _ _ ⟨x25, rfl, rfl, hw⟩
          show V X _ _ _ _ 89 [some (.ref (xa X 0)), some (.int x1), some (.int x2), some (.int x14), some (.int x20), some (.int x21)] [.int x25, .int x20]
          refine x_icmp_le (tgt := 95) C d_Brt_floods_89 (by decide) (fun c27 => ?_) (fun c27 => ?_)
          · have hw := hw.1 c27
            obtain ⟨x28, hx28⟩ : ∃ z : Int32, z = x21 + 1 := ⟨_, rfl⟩
            refine x_iinc (v := x28) (L' := [some (.ref (xa X 0)), some (.int x1), some (.int x2), some (.int x14), some (.int x20), some (.int x28)]) C d_Brt_floods_95 (Nat.le_of_ble_eq_true rfl) rfl (by rw [hx28]; rfl) rfl ?_
            have hw := hw x28 hx28
            refine x_goto (tgt := 59) C d_Brt_floods_98 (by decide) ?_
            obtain ⟨m29, hm29, hw⟩ := hw
            exact x_wk (ihI22 m29 hm29 x28 hw) (And.intro rfl (And.intro rfl (And.intro rfl (And.intro rfl (And.intro rfl (And.intro rfl (trivial)))))))
          · have hw := hw.2 c27
            refine x_iload C d_Brt_floods_92 rfl ?_
            exact x_ireturn C d_Brt_floods_94 ⟨_, rfl, rfl, hw⟩
    exact x_wk (lI22 n23 0 hn23) (And.intro rfl (And.intro rfl (And.intro rfl (And.intro rfl (And.intro rfl (And.intro rfl (trivial)))))))
  · have hw := hw.2 c12
    refine x_iconst (v := (-1)) C d_Brt_floods_12 rfl ?_
    exact x_ireturn C d_Brt_floods_13 ⟨_, rfl, rfl, hw⟩
def vc_Brt_haste  (s : St) (Q : Int32 → St → Prop) : Prop :=
    vc_Brt_allReturn 1 s (fun b10 s11 => (∀ x12 : Int32, x12 = s11 55 4 → vc_Cav_become 35 1 s11 (fun s13 => vc_Arr_fill 48 6 0 s13 (fun s14 => vc_Brt_allReturn 35 s14 (fun b15 s16 => Q (imax 0 (x12 - (s16 55 4))) s16)))))
def rm_Brt_haste : Room := { frames := 6, cells := 0, slots := 0, locals := 151 }
set_option maxHeartbeats 4000000 in
set_option maxRecDepth 20000 in
theorem m_Brt_haste (g : Gx) (hg : gOk g)   (s : St) (Q : Int32 → St → Prop) (hw : vc_Brt_haste  s Q) : Mc g y_Brt_haste b_Brt_haste 2 (some FieldType.int) rm_Brt_haste [.ref (ga g 0)] s (fun v s' => ∃ r : Int32, v = some (.int r) ∧ Q r s') := by
  refine mc_ofV (j := 1) (L := [some (.ref (ga g 0)), none]) hg (by decide) (Nat.le_of_ble_eq_true rfl) rfl ?_
  intro X hX C
  subst hX
  unfold vc_Brt_haste at hw
  refine x_aload_n C d_Brt_haste_0 rfl ?_
  refine x_aload_n C d_Brt_haste_1 rfl ?_
  refine g_Brt_0 (p := 0) C rfl fl_Brt_10 d_Brt_haste_2 ?_
  refine x_callV (As := [.ref (xa X 1)]) (rest := []) (p := 0) C (m_Brt_allReturn (xg X) C.2.2.2.2.2.2.1 1 rfl s _ hw) cw_Brt_allReturn ml_Brt_237 rfl (by decide) (by decide) rfl rfl rfl ⟨rfl, rfl, Nat.le_of_ble_eq_true rfl, Nat.le_of_ble_eq_true rfl⟩ ⟨Nat.zero_le _, Nat.zero_le _⟩ rfl (Nat.le_of_ble_eq_true rfl) d_Brt_haste_5 ?_
  rintro _ s11 ⟨b10, rfl, hw⟩
  show V X _ _ _ _ 8 [some (.ref (xa X 0)), none] [.int (bi b10)]
  refine x_pop C d_Brt_haste_8 rfl ?_
  refine x_aload_n C d_Brt_haste_9 rfl ?_
  refine g_Brt_3 (p := 0) C rfl fl_Brt_25 d_Brt_haste_10 ?_
  refine g_Tri_1 (p := 52) C rfl fl_Brt_241 d_Brt_haste_13 ?_
  refine g_Leg_4 (p := 55) C rfl fl_Brt_214 d_Brt_haste_16 ?_
  refine x_nm (fun x12 hx12 => ?_)
  have hw := hw x12 hx12
  refine x_istore_n (L' := [some (.ref (xa X 0)), some (.int x12)]) C d_Brt_haste_19 (Nat.le_of_ble_eq_true rfl) rfl ?_
  refine x_aload_n C d_Brt_haste_20 rfl ?_
  refine g_Brt_2 (p := 0) C rfl fl_Brt_19 d_Brt_haste_21 ?_
  refine x_aload_n C d_Brt_haste_24 rfl ?_
  refine g_Brt_0 (p := 0) C rfl fl_Brt_10 d_Brt_haste_25 ?_
  refine x_callV (As := [.ref (xa X 1)]) (rest := []) (p := 35) C (m_Cav_become (xg X) C.2.2.2.2.2.2.1 35 1 rfl rfl s11 _ hw) cw_Cav_become ml_Brt_72 rfl (by decide) (by decide) rfl rfl rfl ⟨rfl, rfl, Nat.le_of_ble_eq_true rfl, Nat.le_of_ble_eq_true rfl⟩ ⟨Nat.zero_le _, Nat.zero_le _⟩ rfl (Nat.le_of_ble_eq_true rfl) d_Brt_haste_28 ?_
  rintro _ s13 ⟨rfl, hw⟩
  show V X _ _ _ _ 31 [some (.ref (xa X 0)), some (.int x12)] []
  refine x_aload_n C d_Brt_haste_31 rfl ?_
  refine g_Brt_2 (p := 0) C rfl fl_Brt_19 d_Brt_haste_32 ?_
  refine g_Cav_1 (p := 35) C rfl fl_Brt_127 d_Brt_haste_35 ?_
  refine g_Bod_3 (p := 45) C rfl fl_Brt_140 d_Brt_haste_38 ?_
  refine x_iconst (v := 0) C d_Brt_haste_41 rfl ?_
  refine x_callS (As := [.ref (xa X 48), .int 0]) (rest := []) C (m_Arr_fill (xg X) C.2.2.2.2.2.2.1 48 6 0 rfl s13 _ hw) cw_Arr_fill ml_Brt_297 rfl ⟨rfl, rfl, Nat.le_of_ble_eq_true rfl, Nat.le_of_ble_eq_true rfl⟩ ⟨Nat.zero_le _, Nat.zero_le _⟩ rfl (Nat.le_of_ble_eq_true rfl) d_Brt_haste_42 ?_
  rintro _ s14 ⟨rfl, hw⟩
  show V X _ _ _ _ 45 [some (.ref (xa X 0)), some (.int x12)] []
  refine x_aload_n C d_Brt_haste_45 rfl ?_
  refine x_aload_n C d_Brt_haste_46 rfl ?_
  refine g_Brt_2 (p := 0) C rfl fl_Brt_19 d_Brt_haste_47 ?_
  refine x_callV (As := [.ref (xa X 35)]) (rest := []) (p := 0) C (m_Brt_allReturn (xg X) C.2.2.2.2.2.2.1 35 rfl s14 _ hw) cw_Brt_allReturn ml_Brt_237 rfl (by decide) (by decide) rfl rfl rfl ⟨rfl, rfl, Nat.le_of_ble_eq_true rfl, Nat.le_of_ble_eq_true rfl⟩ ⟨Nat.zero_le _, Nat.zero_le _⟩ rfl (Nat.le_of_ble_eq_true rfl) d_Brt_haste_50 ?_
  rintro _ s16 ⟨b15, rfl, hw⟩
  show V X _ _ _ _ 53 [some (.ref (xa X 0)), some (.int x12)] [.int (bi b15)]
  refine x_pop C d_Brt_haste_53 rfl ?_
  refine x_iconst (v := 0) C d_Brt_haste_54 rfl ?_
  refine x_iload_n C d_Brt_haste_55 rfl ?_
  refine x_aload_n C d_Brt_haste_56 rfl ?_
  refine g_Brt_3 (p := 0) C rfl fl_Brt_25 d_Brt_haste_57 ?_
  refine g_Tri_1 (p := 52) C rfl fl_Brt_241 d_Brt_haste_60 ?_
  refine g_Leg_4 (p := 55) C rfl fl_Brt_214 d_Brt_haste_63 ?_
  refine x_isub C d_Brt_haste_66 ?_
  refine x_mmax C ml_Brt_225 (Nat.le_of_ble_eq_true rfl) (Nat.le_of_ble_eq_true rfl) ⟨Nat.zero_le _, Nat.zero_le _⟩ d_Brt_haste_67 ?_
  exact x_ireturn C d_Brt_haste_70 ⟨_, rfl, hw⟩
def vc_Brt_commonDivisor (x0 : Int64) (x2 : Int64) (Q : Int64 → Prop) : Prop :=
    (∃ I13 : Nat → Int64 → Int64 → Int32 → Prop, (∃ n14, I13 n14 x0 x2 0) ∧ ∀ (nI13 : Nat) (x10 : Int64) (x11 : Int64) (x12 : Int32), I13 nI13 x10 x11 x12 → ((200 ≤ x12 → Q x10) ∧ (¬ 200 ≤ x12 → (((lg_cmp x11 0) = 0 → Q x10) ∧ (¬ (lg_cmp x11 0) = 0 → (¬ x11 = 0 ∧ (∀ x18 : Int64, x18 = x10 - x10 / x11 * x11 → (∀ x19 : Int32, x19 = x12 + 1 → ∃ m20, m20 < nI13 ∧ I13 m20 x11 x18 x19))))))))
def rm_Brt_commonDivisor : Room := { frames := 0, cells := 0, slots := 0, locals := 0 }
set_option maxHeartbeats 4000000 in
set_option maxRecDepth 20000 in
theorem m_Brt_commonDivisor (g : Gx) (hg : gOk g) (x0 : Int64) (x2 : Int64)  (s : St) (Q : Int64 → Prop) (hw : vc_Brt_commonDivisor x0 x2 Q) : Mc g y_Brt_commonDivisor b_Brt_commonDivisor 11 (some FieldType.long) rm_Brt_commonDivisor [.long x0, .long x2] s (fun v s' => ∃ r : Int64, v = some (.long r) ∧ s = s' ∧ Q r) := by
  refine mc_ofV (j := 7) (L := [some (.long x0), none, some (.long x2), none, none, none, none, none, none, none, none]) hg (by decide) (Nat.le_of_ble_eq_true rfl) rfl ?_
  intro X hX C
  subst hX
  unfold vc_Brt_commonDivisor at hw
  refine x_lload_n C d_Brt_commonDivisor_0 rfl ?_
  refine x_lstore (L' := [some (.long x0), none, some (.long x2), none, some (.long x0), none, none, none, none, none, none]) C d_Brt_commonDivisor_1 (Nat.le_of_ble_eq_true rfl) rfl ?_
  refine x_lload_n C d_Brt_commonDivisor_3 rfl ?_
  refine x_lstore (L' := [some (.long x0), none, some (.long x2), none, some (.long x0), none, some (.long x2), none, none, none, none]) C d_Brt_commonDivisor_4 (Nat.le_of_ble_eq_true rfl) rfl ?_
  refine x_iconst (v := 0) C d_Brt_commonDivisor_6 rfl ?_
  refine x_istore (L' := [some (.long x0), none, some (.long x2), none, some (.long x0), none, some (.long x2), none, some (.int 0), none, none]) C d_Brt_commonDivisor_7 (Nat.le_of_ble_eq_true rfl) rfl ?_
  obtain ⟨I13, ⟨n14, hn14⟩, hI13⟩ := hw
  have lI13 : ∀ (nI13 : Nat) (x10 : Int64) (x11 : Int64) (x12 : Int32), I13 nI13 x10 x11 x12 → V X (xQ X (fun v s' => ∃ r : Int64, v = some (.long r) ∧ s = s' ∧ Q r)) 0 0 s 9 [some (.long x0), none, some (.long x2), none, some (.long x10), none, some (.long x11), none, some (.int x12), none, none] [] := by
    intro nI13
    induction nI13 using Nat.strongRecOn with
    | ind nI13 ihI13 =>
      intro x10 x11 x12 hv
      have hw := hI13 nI13 x10 x11 x12 hv
      refine x_iload C d_Brt_commonDivisor_9 rfl ?_
      refine x_sipush (v := 200) C d_Brt_commonDivisor_11 rfl ?_
      refine x_icmp_ge (tgt := 45) C d_Brt_commonDivisor_14 (by decide) (fun c15 => ?_) (fun c15 => ?_)
      · have hw := hw.1 c15
        refine x_lload C d_Brt_commonDivisor_45 rfl ?_
        exact x_lreturn C d_Brt_commonDivisor_47 ⟨_, rfl, rfl, hw⟩
      · have hw := hw.2 c15
        refine x_lload C d_Brt_commonDivisor_17 rfl ?_
        refine x_lconst (v := 0) C d_Brt_commonDivisor_19 rfl ?_
        refine x_lcmp C d_Brt_commonDivisor_20 ?_
        refine x_if_eq (tgt := 45) C d_Brt_commonDivisor_21 (by decide) (fun c16 => ?_) (fun c16 => ?_)
        · have hw := hw.1 c16
          refine x_lload C d_Brt_commonDivisor_45 rfl ?_
          exact x_lreturn C d_Brt_commonDivisor_47 ⟨_, rfl, rfl, hw⟩
        · have hw := hw.2 c16
          refine x_lload C d_Brt_commonDivisor_24 rfl ?_
          refine x_lload C d_Brt_commonDivisor_26 rfl ?_
          obtain ⟨h17, hw⟩ := hw
          refine x_lrem C d_Brt_commonDivisor_28 h17 ?_
          refine x_nml (fun x18 hx18 => ?_)
          have hw := hw x18 hx18
          refine x_lstore (L' := [some (.long x0), none, some (.long x2), none, some (.long x10), none, some (.long x11), none, some (.int x12), some (.long x18), none]) C d_Brt_commonDivisor_29 (Nat.le_of_ble_eq_true rfl) rfl ?_
          refine x_lload C d_Brt_commonDivisor_31 rfl ?_
          refine x_lstore (L' := [some (.long x0), none, some (.long x2), none, some (.long x11), none, some (.long x11), none, some (.int x12), some (.long x18), none]) C d_Brt_commonDivisor_33 (Nat.le_of_ble_eq_true rfl) rfl ?_
          refine x_lload C d_Brt_commonDivisor_35 rfl ?_
          refine x_lstore (L' := [some (.long x0), none, some (.long x2), none, some (.long x11), none, some (.long x18), none, some (.int x12), some (.long x18), none]) C d_Brt_commonDivisor_37 (Nat.le_of_ble_eq_true rfl) rfl ?_
          obtain ⟨x19, hx19⟩ : ∃ z : Int32, z = x12 + 1 := ⟨_, rfl⟩
          refine x_iinc (v := x19) (L' := [some (.long x0), none, some (.long x2), none, some (.long x11), none, some (.long x18), none, some (.int x19), some (.long x18), none]) C d_Brt_commonDivisor_39 (Nat.le_of_ble_eq_true rfl) rfl (by rw [hx19]; rfl) rfl ?_
          have hw := hw x19 hx19
          refine x_goto (tgt := 9) C d_Brt_commonDivisor_42 (by decide) ?_
          obtain ⟨m20, hm20, hw⟩ := hw
          exact x_wk (ihI13 m20 hm20 x11 x18 x19 hw) (And.intro rfl (And.intro rfl (And.intro rfl (And.intro rfl (And.intro rfl (trivial))))))
  exact x_wk (lI13 n14 x0 x2 0 hn14) (And.intro rfl (And.intro rfl (And.intro rfl (And.intro rfl (And.intro rfl (trivial))))))
def vc_Brt_panicOf (x1 : Int32) (s : St) (Q : Int64 → St → Prop) : Prop :=
    (∃ I13 : Nat → Int64 → Int32 → St → Prop, (∃ n14, I13 n14 1 0 s) ∧ ∀ (nI13 : Nat) (x10 : Int64) (x11 : Int32) (s12 : St), I13 nI13 x10 x11 s12 → (((s12 11 0) ≤ x11 → Q x10 s12) ∧ (¬ (s12 11 0) ≤ x11 → (vp_in x11 6 ∧ (∀ x17 : Int32, x17 = s12 14 (Int32.toNatClampNeg x11) → (∃ J19 : Int32 → Prop, (∀ (x18 : Int32), J19 x18 → (∃ J21 : Int64 → Prop, (∀ (x20 : Int64), J21 x20 → (∀ x22 : Int64, x22 = x10 * x20 → (∃ J24 : Int32 → Prop, (∀ (x23 : Int32), J24 x23 → (vp_in x11 6 ∧ (∀ s26 : St, s26 = wr s12 48 (Int32.toNatClampNeg x11) x23 → (∀ x27 : Int32, x27 = x11 + 1 → ∃ m28, m28 < nI13 ∧ I13 m28 x22 x27 s26)))) ∧ ((x18 = 0 → J24 x17) ∧ (¬ x18 = 0 → J24 9))))) ∧ ((x18 = 0 → J21 (Int32.toInt64 (10 - x17))) ∧ (¬ x18 = 0 → J21 (Int32.toInt64 x17))))) ∧ ((¬ ((x1 >>> (x11 &&& 31)) &&& 1) = 1 → J19 0) ∧ (((x1 >>> (x11 &&& 31)) &&& 1) = 1 → J19 1))))))))
def rm_Brt_panicOf : Room := { frames := 0, cells := 0, slots := 0, locals := 0 }
set_option maxHeartbeats 4000000 in
set_option maxRecDepth 20000 in
theorem m_Brt_panicOf (g : Gx) (hg : gOk g) (x1 : Int32)  (s : St) (Q : Int64 → St → Prop) (hw : vc_Brt_panicOf x1 s Q) : Mc g y_Brt_panicOf b_Brt_panicOf 7 (some FieldType.long) rm_Brt_panicOf [.ref (ga g 0), .int x1] s (fun v s' => ∃ r : Int64, v = some (.long r) ∧ Q r s') := by
  refine mc_ofV (j := 5) (L := [some (.ref (ga g 0)), some (.int x1), none, none, none, none, none]) hg (by decide) (Nat.le_of_ble_eq_true rfl) rfl ?_
  intro X hX C
  subst hX
  unfold vc_Brt_panicOf at hw
  refine x_lconst (v := 1) C d_Brt_panicOf_0 rfl ?_
  refine x_lstore_n (L' := [some (.ref (xa X 0)), some (.int x1), some (.long 1), none, none, none, none]) C d_Brt_panicOf_1 (Nat.le_of_ble_eq_true rfl) rfl ?_
  refine x_iconst (v := 0) C d_Brt_panicOf_2 rfl ?_
  refine x_istore (L' := [some (.ref (xa X 0)), some (.int x1), some (.long 1), none, some (.int 0), none, none]) C d_Brt_panicOf_3 (Nat.le_of_ble_eq_true rfl) rfl ?_
  obtain ⟨I13, ⟨n14, hn14⟩, hI13⟩ := hw
  have lI13 : ∀ (nI13 : Nat) (x10 : Int64) (x11 : Int32) (s12 : St), I13 nI13 x10 x11 s12 → V X (xQ X (fun v s' => ∃ r : Int64, v = some (.long r) ∧ Q r s')) 0 0 s12 5 [some (.ref (xa X 0)), some (.int x1), some (.long x10), none, some (.int x11), none, none] [] := by
    intro nI13
    induction nI13 using Nat.strongRecOn with
    | ind nI13 ihI13 =>
      intro x10 x11 s12 hv
      have hw := hI13 nI13 x10 x11 s12 hv
      refine x_iload C d_Brt_panicOf_5 rfl ?_
      refine x_aload_n C d_Brt_panicOf_7 rfl ?_
      refine g_Brt_0 (p := 0) C rfl fl_Brt_10 d_Brt_panicOf_8 ?_
      refine g_Cav_1 (p := 1) C rfl fl_Brt_127 d_Brt_panicOf_11 ?_
      refine g_Bod_0 (p := 11) C rfl fl_Brt_250 d_Brt_panicOf_14 ?_
      refine x_icmp_ge (tgt := 103) C d_Brt_panicOf_17 (by decide) (fun c15 => ?_) (fun c15 => ?_)
      · have hw := hw.1 c15
        refine x_lload_n C d_Brt_panicOf_103 rfl ?_
        exact x_lreturn C d_Brt_panicOf_104 ⟨_, rfl, hw⟩
      · have hw := hw.2 c15
        refine x_aload_n C d_Brt_panicOf_20 rfl ?_
        refine g_Brt_0 (p := 0) C rfl fl_Brt_10 d_Brt_panicOf_21 ?_
        refine g_Cav_1 (p := 1) C rfl fl_Brt_127 d_Brt_panicOf_24 ?_
        refine g_Bod_3 (p := 11) C rfl fl_Brt_140 d_Brt_panicOf_27 ?_
        refine x_iload C d_Brt_panicOf_30 rfl ?_
        obtain ⟨h16, hw⟩ := hw
        refine x_iald (p := 14) (n := 6) C rfl h16 d_Brt_panicOf_32 ?_
        refine x_nm (fun x17 hx17 => ?_)
        have hw := hw x17 hx17
        refine x_istore (L' := [some (.ref (xa X 0)), some (.int x1), some (.long x10), none, some (.int x11), some (.int x17), none]) C d_Brt_panicOf_33 (Nat.le_of_ble_eq_true rfl) rfl ?_
        refine x_iload_n C d_Brt_panicOf_35 rfl ?_
        refine x_iload C d_Brt_panicOf_36 rfl ?_
        refine x_ishr C d_Brt_panicOf_38 ?_
        refine x_iconst (v := 1) C d_Brt_panicOf_39 rfl ?_
        refine x_iand C d_Brt_panicOf_40 ?_
        refine x_iconst (v := 1) C d_Brt_panicOf_41 rfl ?_
        obtain ⟨J19, hJ19, hw⟩ := hw
        have kJ19 : ∀ (x18 : Int32), J19 x18 → V X (xQ X (fun v s' => ∃ r : Int64, v = some (.long r) ∧ Q r s')) 0 0 s12 50 [some (.ref (xa X 0)), some (.int x1), some (.long x10), none, some (.int x11), some (.int x17), none] [.int x18] := by
          intro x18 hv
          have hw := hJ19 x18 hv
          refine x_istore (L' := [some (.ref (xa X 0)), some (.int x1), some (.long x10), none, some (.int x11), some (.int x17), some (.int x18)]) C d_Brt_panicOf_50 (Nat.le_of_ble_eq_true rfl) rfl ?_
          refine x_lload_n C d_Brt_panicOf_52 rfl ?_
          refine x_iload C d_Brt_panicOf_53 rfl ?_
          obtain ⟨J21, hJ21, hw⟩ := hw
          have kJ21 : ∀ (x20 : Int64), J21 x20 → V X (xQ X (fun v s' => ∃ r : Int64, v = some (.long r) ∧ Q r s')) 0 0 s12 70 [some (.ref (xa X 0)), some (.int x1), some (.long x10), none, some (.int x11), some (.int x17), some (.int x18)] [.long x20, .long x10] := by
            intro x20 hv
            have hw := hJ21 x20 hv
            refine x_lmul C d_Brt_panicOf_70 ?_
            refine x_nml (fun x22 hx22 => ?_)
            have hw := hw x22 hx22
            refine x_lstore_n (L' := [some (.ref (xa X 0)), some (.int x1), some (.long x22), none, some (.int x11), some (.int x17), some (.int x18)]) C d_Brt_panicOf_71 (Nat.le_of_ble_eq_true rfl) rfl ?_
            refine x_aload_n C d_Brt_panicOf_72 rfl ?_
            refine g_Brt_2 (p := 0) C rfl fl_Brt_19 d_Brt_panicOf_73 ?_
            refine g_Cav_1 (p := 35) C rfl fl_Brt_127 d_Brt_panicOf_76 ?_
            refine g_Bod_3 (p := 45) C rfl fl_Brt_140 d_Brt_panicOf_79 ?_
            refine x_iload C d_Brt_panicOf_82 rfl ?_
            refine x_iload C d_Brt_panicOf_84 rfl ?_
            obtain ⟨J24, hJ24, hw⟩ := hw
            have kJ24 : ∀ (x23 : Int32), J24 x23 → V X (xQ X (fun v s' => ∃ r : Int64, v = some (.long r) ∧ Q r s')) 0 0 s12 96 [some (.ref (xa X 0)), some (.int x1), some (.long x22), none, some (.int x11), some (.int x17), some (.int x18)] [.int x23, .int x11, .ref (xa X 48)] := by
              intro x23 hv
              have hw := hJ24 x23 hv
              obtain ⟨h25, hw⟩ := hw
              refine x_iast (p := 48) (n := 6) C rfl h25 d_Brt_panicOf_96 ?_
              refine x_st (fun s26 hs26 => ?_)
              have hw := hw s26 hs26
              obtain ⟨x27, hx27⟩ : ∃ z : Int32, z = x11 + 1 := ⟨_, rfl⟩
              refine x_iinc (v := x27) (L' := [some (.ref (xa X 0)), some (.int x1), some (.long x22), none, some (.int x27), some (.int x17), some (.int x18)]) C d_Brt_panicOf_97 (Nat.le_of_ble_eq_true rfl) rfl (by rw [hx27]; rfl) rfl ?_
              have hw := hw x27 hx27
              refine x_goto (tgt := 5) C d_Brt_panicOf_100 (by decide) ?_
              obtain ⟨m28, hm28, hw⟩ := hw
              exact x_wk (ihI13 m28 hm28 x22 x27 s26 hw) (And.intro rfl (And.intro rfl (And.intro rfl (And.intro rfl (trivial)))))
            refine x_if_eq (tgt := 94) C d_Brt_panicOf_86 (by decide) (fun c29 => ?_) (fun c29 => ?_)
            · have hw := hw.1 c29
              refine x_iload C d_Brt_panicOf_94 rfl ?_
              exact x_wk (kJ24 x17 hw) (And.intro rfl (And.intro rfl (And.intro rfl (And.intro rfl (And.intro rfl (And.intro rfl (trivial)))))))
            · have hw := hw.2 c29
              refine x_bipush (v := 9) C d_Brt_panicOf_89 rfl ?_
              refine x_goto (tgt := 96) C d_Brt_panicOf_91 (by decide) ?_
              exact x_wk (kJ24 9 hw) (And.intro rfl (And.intro rfl (And.intro rfl (And.intro rfl (And.intro rfl (And.intro rfl (trivial)))))))
          refine x_if_eq (tgt := 64) C d_Brt_panicOf_55 (by decide) (fun c30 => ?_) (fun c30 => ?_)
          · have hw := hw.1 c30
            refine x_bipush (v := 10) C d_Brt_panicOf_64 rfl ?_
            refine x_iload C d_Brt_panicOf_66 rfl ?_
            refine x_isub C d_Brt_panicOf_68 ?_
            refine x_i2l C d_Brt_panicOf_69 ?_
            exact x_wk (kJ21 (Int32.toInt64 (10 - x17)) hw) (And.intro rfl (And.intro rfl (And.intro rfl (And.intro rfl (And.intro rfl (And.intro rfl (trivial)))))))
          · have hw := hw.2 c30
            refine x_iload C d_Brt_panicOf_58 rfl ?_
            refine x_i2l C d_Brt_panicOf_60 ?_
            refine x_goto (tgt := 70) C d_Brt_panicOf_61 (by decide) ?_
            exact x_wk (kJ21 (Int32.toInt64 x17) hw) (And.intro rfl (And.intro rfl (And.intro rfl (And.intro rfl (And.intro rfl (And.intro rfl (trivial)))))))
        refine x_icmp_ne (tgt := 49) C d_Brt_panicOf_42 (by decide) (fun c31 => ?_) (fun c31 => ?_)
        · have hw := hw.1 c31
          refine x_iconst (v := 0) C d_Brt_panicOf_49 rfl ?_
          exact x_wk (kJ19 0 hw) (And.intro rfl (And.intro rfl (And.intro rfl (And.intro rfl (And.intro rfl (trivial))))))
        · have hw := hw.2 c31
          refine x_iconst (v := 1) C d_Brt_panicOf_45 rfl ?_
          refine x_goto (tgt := 50) C d_Brt_panicOf_46 (by decide) ?_
          exact x_wk (kJ19 1 hw) (And.intro rfl (And.intro rfl (And.intro rfl (And.intro rfl (And.intro rfl (trivial))))))
  exact x_wk (lI13 n14 1 0 s hn14) (And.intro rfl (And.intro rfl (And.intro rfl (And.intro rfl (trivial)))))
def vc_Brt_panic (x1 : Int32) (s : St) (Q : Int64 → St → Prop) : Prop :=
    vc_Brt_within x1 0 1 (fun b10 => ((¬ (bi b10) = 0 → vc_Cav_become 35 1 s (fun s13 => (∀ x14 : Int32, x14 = s13 11 0 → (∃ I17 : Nat → Int64 → Int32 → Prop, (∃ n18, I17 n18 1 0) ∧ ∀ (nI17 : Nat) (x15 : Int64) (x16 : Int32), I17 nI17 x15 x16 → ((x14 ≤ x16 → (∀ x20 : Int32, x20 = 1 <<< (x14 &&& 31) → (∃ I24 : Nat → Int64 → Int32 → St → Prop, (∃ n25, I24 n25 0 0 s13) ∧ ∀ (nI24 : Nat) (x21 : Int64) (x22 : Int32) (s23 : St), I24 nI24 x21 x22 s23 → ((x20 ≤ x22 → vc_Brt_commonDivisor x15 x21 (fun x27 => ((0 < (lg_cmp x27 0) → ((¬ x1 = 0 → (¬ x27 = 0 ∧ Q (x15 / x27) s23)) ∧ (x1 = 0 → (¬ x27 = 0 ∧ Q (x21 / x27) s23)))) ∧ (¬ 0 < (lg_cmp x27 0) → Q (-1000000001) s23)))) ∧ (¬ x20 ≤ x22 → vc_Brt_panicOf x22 s23 (fun x33 s34 => (∃ J37 : Int64 → St → Prop, (∀ (x35 : Int64) (s36 : St), J37 x35 s36 → (∀ x38 : Int32, x38 = x22 + 1 → ∃ m39, m39 < nI24 ∧ I24 m39 x35 x38 s36)) ∧ (((lg_cmp x33 0) ≤ 0 → J37 x21 s34) ∧ (¬ (lg_cmp x33 0) ≤ 0 → vc_Brt_allReturn 35 s34 (fun b41 s42 => (((bi b41) = 0 → J37 x21 s42) ∧ (¬ (bi b41) = 0 → (∀ x44 : Int64, x44 = x21 + x33 → J37 x44 s42))))))))))))) ∧ (¬ x14 ≤ x16 → (∀ x45 : Int64, x45 = x15 * 10 → (∀ x46 : Int32, x46 = x16 + 1 → ∃ m47, m47 < nI17 ∧ I17 m47 x45 x46)))))))) ∧ ((bi b10) = 0 → Q (-1000000001) s)))
def rm_Brt_panic : Room := { frames := 6, cells := 0, slots := 0, locals := 151 }
set_option maxHeartbeats 4000000 in
set_option maxRecDepth 20000 in
theorem m_Brt_panic (g : Gx) (hg : gOk g) (x1 : Int32)  (s : St) (Q : Int64 → St → Prop) (hw : vc_Brt_panic x1 s Q) : Mc g y_Brt_panic b_Brt_panic 11 (some FieldType.long) rm_Brt_panic [.ref (ga g 0), .int x1] s (fun v s' => ∃ r : Int64, v = some (.long r) ∧ Q r s') := by
  refine mc_ofV (j := 9) (L := [some (.ref (ga g 0)), some (.int x1), none, none, none, none, none, none, none, none, none]) hg (by decide) (Nat.le_of_ble_eq_true rfl) rfl ?_
  intro X hX C
  subst hX
  unfold vc_Brt_panic at hw
  refine x_iload_n C d_Brt_panic_0 rfl ?_
  refine x_iconst (v := 0) C d_Brt_panic_1 rfl ?_
  refine x_iconst (v := 1) C d_Brt_panic_2 rfl ?_
  refine x_callS (As := [.int x1, .int 0, .int 1]) (rest := []) C (m_Brt_within (xg X) C.2.2.2.2.2.2.1 x1 0 1 s _ hw) cw_Brt_within ml_Brt_185 rfl ⟨rfl, rfl, Nat.le_of_ble_eq_true rfl, Nat.le_of_ble_eq_true rfl⟩ ⟨Nat.zero_le _, Nat.zero_le _⟩ rfl (Nat.le_of_ble_eq_true rfl) d_Brt_panic_3 ?_
  rintro _ _ ⟨b10, rfl, rfl, hw⟩
  show V X _ _ _ _ 6 [some (.ref (xa X 0)), some (.int x1), none, none, none, none, none, none, none, none, none] [.int (bi b10)]
  refine x_if_ne (tgt := 13) C d_Brt_panic_6 (by decide) (fun c12 => ?_) (fun c12 => ?_)
  · have hw := hw.1 c12
    refine x_aload_n C d_Brt_panic_13 rfl ?_
    refine g_Brt_2 (p := 0) C rfl fl_Brt_19 d_Brt_panic_14 ?_
    refine x_aload_n C d_Brt_panic_17 rfl ?_
    refine g_Brt_0 (p := 0) C rfl fl_Brt_10 d_Brt_panic_18 ?_
    refine x_callV (As := [.ref (xa X 1)]) (rest := []) (p := 35) C (m_Cav_become (xg X) C.2.2.2.2.2.2.1 35 1 rfl rfl s _ hw) cw_Cav_become ml_Brt_72 rfl (by decide) (by decide) rfl rfl rfl ⟨rfl, rfl, Nat.le_of_ble_eq_true rfl, Nat.le_of_ble_eq_true rfl⟩ ⟨Nat.zero_le _, Nat.zero_le _⟩ rfl (Nat.le_of_ble_eq_true rfl) d_Brt_panic_21 ?_
    rintro _ s13 ⟨rfl, hw⟩
    show V X _ _ _ _ 24 [some (.ref (xa X 0)), some (.int x1), none, none, none, none, none, none, none, none, none] []
    refine x_aload_n C d_Brt_panic_24 rfl ?_
    refine g_Brt_0 (p := 0) C rfl fl_Brt_10 d_Brt_panic_25 ?_
    refine g_Cav_1 (p := 1) C rfl fl_Brt_127 d_Brt_panic_28 ?_
    refine g_Bod_0 (p := 11) C rfl fl_Brt_250 d_Brt_panic_31 ?_
    refine x_nm (fun x14 hx14 => ?_)
    have hw := hw x14 hx14
    refine x_istore_n (L' := [some (.ref (xa X 0)), some (.int x1), some (.int x14), none, none, none, none, none, none, none, none]) C d_Brt_panic_34 (Nat.le_of_ble_eq_true rfl) rfl ?_
    refine x_lconst (v := 1) C d_Brt_panic_35 rfl ?_
    refine x_lstore_n (L' := [some (.ref (xa X 0)), some (.int x1), some (.int x14), some (.long 1), none, none, none, none, none, none, none]) C d_Brt_panic_36 (Nat.le_of_ble_eq_true rfl) rfl ?_
    refine x_iconst (v := 0) C d_Brt_panic_37 rfl ?_
    refine x_istore (L' := [some (.ref (xa X 0)), some (.int x1), some (.int x14), some (.long 1), none, some (.int 0), none, none, none, none, none]) C d_Brt_panic_38 (Nat.le_of_ble_eq_true rfl) rfl ?_
    obtain ⟨I17, ⟨n18, hn18⟩, hI17⟩ := hw
    have lI17 : ∀ (nI17 : Nat) (x15 : Int64) (x16 : Int32), I17 nI17 x15 x16 → V X (xQ X (fun v s' => ∃ r : Int64, v = some (.long r) ∧ Q r s')) 0 0 s13 40 [some (.ref (xa X 0)), some (.int x1), some (.int x14), some (.long x15), none, some (.int x16), none, none, none, none, none] [] := by
      intro nI17
      induction nI17 using Nat.strongRecOn with
      | ind nI17 ihI17 =>
        intro x15 x16 hv
        have hw := hI17 nI17 x15 x16 hv
        refine x_iload C d_Brt_panic_40 rfl ?_
        refine x_iload_n C d_Brt_panic_42 rfl ?_
        refine x_icmp_ge (tgt := 58) C d_Brt_panic_43 (by decide) (fun c19 => ?_) (fun c19 => ?_)
        · have hw := hw.1 c19
          refine x_lconst (v := 0) C d_Brt_panic_58 rfl ?_
          refine x_lstore (L' := [some (.ref (xa X 0)), some (.int x1), some (.int x14), some (.long x15), none, some (.long 0), none, none, none, none, none]) C d_Brt_panic_59 (Nat.le_of_ble_eq_true rfl) rfl ?_
          refine x_iconst (v := 1) C d_Brt_panic_61 rfl ?_
          refine x_iload_n C d_Brt_panic_62 rfl ?_
          refine x_ishl C d_Brt_panic_63 ?_
          refine x_nm (fun x20 hx20 => ?_)
          have hw := hw x20 hx20
          refine x_istore (L' := [some (.ref (xa X 0)), some (.int x1), some (.int x14), some (.long x15), none, some (.long 0), none, some (.int x20), none, none, none]) C d_Brt_panic_64 (Nat.le_of_ble_eq_true rfl) rfl ?_
          refine x_iconst (v := 0) C d_Brt_panic_66 rfl ?_
          refine x_istore (L' := [some (.ref (xa X 0)), some (.int x1), some (.int x14), some (.long x15), none, some (.long 0), none, some (.int x20), some (.int 0), none, none]) C d_Brt_panic_67 (Nat.le_of_ble_eq_true rfl) rfl ?_
          obtain ⟨I24, ⟨n25, hn25⟩, hI24⟩ := hw
          have lI24 : ∀ (nI24 : Nat) (x21 : Int64) (x22 : Int32) (s23 : St), I24 nI24 x21 x22 s23 → V X (xQ X (fun v s' => ∃ r : Int64, v = some (.long r) ∧ Q r s')) 0 0 s23 69 [some (.ref (xa X 0)), some (.int x1), some (.int x14), some (.long x15), none, some (.long x21), none, some (.int x20), some (.int x22), none, none] [] := by
            intro nI24
            induction nI24 using Nat.strongRecOn with
            | ind nI24 ihI24 =>
              intro x21 x22 s23 hv
              have hw := hI24 nI24 x21 x22 s23 hv
              refine x_iload C d_Brt_panic_69 rfl ?_
              refine x_iload C d_Brt_panic_71 rfl ?_
              refine x_icmp_ge (tgt := 115) C d_Brt_panic_73 (by decide) (fun c26 => ?_) (fun c26 => ?_)
              · have hw := hw.1 c26
                refine x_lload_n C d_Brt_panic_115 rfl ?_
                refine x_lload C d_Brt_panic_116 rfl ?_
                refine x_callS (As := [.long x15, .long x21]) (rest := []) C (m_Brt_commonDivisor (xg X) C.2.2.2.2.2.2.1 x15 x21 s23 _ hw) cw_Brt_commonDivisor ml_Brt_311 rfl ⟨rfl, rfl, Nat.le_of_ble_eq_true rfl, Nat.le_of_ble_eq_true rfl⟩ ⟨Nat.zero_le _, Nat.zero_le _⟩ rfl (Nat.le_of_ble_eq_true rfl) d_Brt_panic_118 ?_
                rintro _ _ ⟨x27, rfl, rfl, hw⟩
                show V X _ _ _ _ 121 [some (.ref (xa X 0)), some (.int x1), some (.int x14), some (.long x15), none, some (.long x21), none, some (.int x20), some (.int x22), none, none] [.long x27]
                refine x_lstore (L' := [some (.ref (xa X 0)), some (.int x1), some (.int x14), some (.long x15), none, some (.long x21), none, some (.int x20), some (.long x27), none, none]) C d_Brt_panic_121 (Nat.le_of_ble_eq_true rfl) rfl ?_
                refine x_lload C d_Brt_panic_123 rfl ?_
                refine x_lconst (v := 0) C d_Brt_panic_125 rfl ?_
                refine x_lcmp C d_Brt_panic_126 ?_
                refine x_if_gt (tgt := 134) C d_Brt_panic_127 (by decide) (fun c29 => ?_) (fun c29 => ?_)
                · have hw := hw.1 c29
                  refine x_iload_n C d_Brt_panic_134 rfl ?_
                  refine x_if_ne (tgt := 146) C d_Brt_panic_135 (by decide) (fun c30 => ?_) (fun c30 => ?_)
                  · have hw := hw.1 c30
                    refine x_lload_n C d_Brt_panic_146 rfl ?_
                    refine x_lload C d_Brt_panic_147 rfl ?_
                    obtain ⟨h31, hw⟩ := hw
                    refine x_ldiv C d_Brt_panic_149 h31 ?_
                    exact x_lreturn C d_Brt_panic_150 ⟨_, rfl, hw⟩
                  · have hw := hw.2 c30
                    refine x_lload C d_Brt_panic_138 rfl ?_
                    refine x_lload C d_Brt_panic_140 rfl ?_
                    obtain ⟨h32, hw⟩ := hw
                    refine x_ldiv C d_Brt_panic_142 h32 ?_
                    refine x_goto (tgt := 150) C d_Brt_panic_143 (by decide) ?_
                    exact x_lreturn C d_Brt_panic_150 ⟨_, rfl, hw⟩
                · have hw := hw.2 c29
                  refine x_ldc2 (v := (-1000000001)) C d_Brt_panic_130 lc_Brt_303 ?_
                  exact x_lreturn C d_Brt_panic_133 ⟨_, rfl, hw⟩
              · have hw := hw.2 c26
                refine x_aload_n C d_Brt_panic_76 rfl ?_
                refine x_iload C d_Brt_panic_77 rfl ?_
                refine x_callV (As := [.int x22]) (rest := []) (p := 0) C (m_Brt_panicOf (xg X) C.2.2.2.2.2.2.1 x22 s23 _ hw) cw_Brt_panicOf ml_Brt_307 rfl (by decide) (by decide) rfl rfl rfl ⟨rfl, rfl, Nat.le_of_ble_eq_true rfl, Nat.le_of_ble_eq_true rfl⟩ ⟨Nat.zero_le _, Nat.zero_le _⟩ rfl (Nat.le_of_ble_eq_true rfl) d_Brt_panic_79 ?_
                rintro _ s34 ⟨x33, rfl, hw⟩
                show V X _ _ _ _ 82 [some (.ref (xa X 0)), some (.int x1), some (.int x14), some (.long x15), none, some (.long x21), none, some (.int x20), some (.int x22), none, none] [.long x33]
                refine x_lstore (L' := [some (.ref (xa X 0)), some (.int x1), some (.int x14), some (.long x15), none, some (.long x21), none, some (.int x20), some (.int x22), some (.long x33), none]) C d_Brt_panic_82 (Nat.le_of_ble_eq_true rfl) rfl ?_
                refine x_lload C d_Brt_panic_84 rfl ?_
                refine x_lconst (v := 0) C d_Brt_panic_86 rfl ?_
                refine x_lcmp C d_Brt_panic_87 ?_
                obtain ⟨J37, hJ37, hw⟩ := hw
                have kJ37 : ∀ (x35 : Int64) (s36 : St), J37 x35 s36 → V X (xQ X (fun v s' => ∃ r : Int64, v = some (.long r) ∧ Q r s')) 0 0 s36 109 [some (.ref (xa X 0)), some (.int x1), some (.int x14), some (.long x15), none, some (.long x35), none, some (.int x20), some (.int x22), some (.long x33), none] [] := by
                  intro x35 s36 hv
                  have hw := hJ37 x35 s36 hv
                  obtain ⟨x38, hx38⟩ : ∃ z : Int32, z = x22 + 1 := ⟨_, rfl⟩
                  refine x_iinc (v := x38) (L' := [some (.ref (xa X 0)), some (.int x1), some (.int x14), some (.long x15), none, some (.long x35), none, some (.int x20), some (.int x38), some (.long x33), none]) C d_Brt_panic_109 (Nat.le_of_ble_eq_true rfl) rfl (by rw [hx38]; rfl) rfl ?_
                  have hw := hw x38 hx38
                  refine x_goto (tgt := 69) C d_Brt_panic_112 (by decide) ?_
                  obtain ⟨m39, hm39, hw⟩ := hw
                  exact x_wk (ihI24 m39 hm39 x35 x38 s36 hw) (And.intro rfl (And.intro rfl (And.intro rfl (And.intro rfl (And.intro rfl (And.intro rfl (And.intro rfl (trivial))))))))
                refine x_if_le (tgt := 109) C d_Brt_panic_88 (by decide) (fun c40 => ?_) (fun c40 => ?_)
                · have hw := hw.1 c40
                  exact x_wk (kJ37 x21 s34 hw) (And.intro rfl (And.intro rfl (And.intro rfl (And.intro rfl (And.intro rfl (And.intro rfl (And.intro rfl (And.intro rfl (trivial)))))))))
                · have hw := hw.2 c40
                  refine x_aload_n C d_Brt_panic_91 rfl ?_
                  refine x_aload_n C d_Brt_panic_92 rfl ?_
                  refine g_Brt_2 (p := 0) C rfl fl_Brt_19 d_Brt_panic_93 ?_
                  refine x_callV (As := [.ref (xa X 35)]) (rest := []) (p := 0) C (m_Brt_allReturn (xg X) C.2.2.2.2.2.2.1 35 rfl s34 _ hw) cw_Brt_allReturn ml_Brt_237 rfl (by decide) (by decide) rfl rfl rfl ⟨rfl, rfl, Nat.le_of_ble_eq_true rfl, Nat.le_of_ble_eq_true rfl⟩ ⟨Nat.zero_le _, Nat.zero_le _⟩ rfl (Nat.le_of_ble_eq_true rfl) d_Brt_panic_96 ?_
                  rintro _ s42 ⟨b41, rfl, hw⟩
                  show V X _ _ _ _ 99 [some (.ref (xa X 0)), some (.int x1), some (.int x14), some (.long x15), none, some (.long x21), none, some (.int x20), some (.int x22), some (.long x33), none] [.int (bi b41)]
                  refine x_if_eq (tgt := 109) C d_Brt_panic_99 (by decide) (fun c43 => ?_) (fun c43 => ?_)
                  · have hw := hw.1 c43
                    exact x_wk (kJ37 x21 s42 hw) (And.intro rfl (And.intro rfl (And.intro rfl (And.intro rfl (And.intro rfl (And.intro rfl (And.intro rfl (And.intro rfl (trivial)))))))))
                  · have hw := hw.2 c43
                    refine x_lload C d_Brt_panic_102 rfl ?_
                    refine x_lload C d_Brt_panic_104 rfl ?_
                    refine x_ladd C d_Brt_panic_106 ?_
                    refine x_nml (fun x44 hx44 => ?_)
                    have hw := hw x44 hx44
                    refine x_lstore (L' := [some (.ref (xa X 0)), some (.int x1), some (.int x14), some (.long x15), none, some (.long x44), none, some (.int x20), some (.int x22), some (.long x33), none]) C d_Brt_panic_107 (Nat.le_of_ble_eq_true rfl) rfl ?_
                    exact x_wk (kJ37 x44 s42 hw) (And.intro rfl (And.intro rfl (And.intro rfl (And.intro rfl (And.intro rfl (And.intro rfl (And.intro rfl (And.intro rfl (trivial)))))))))
          exact x_wk (lI24 n25 0 0 s13 hn25) (And.intro rfl (And.intro rfl (And.intro rfl (And.intro rfl (And.intro rfl (And.intro rfl (And.intro rfl (trivial))))))))
        · have hw := hw.2 c19
          refine x_lload_n C d_Brt_panic_46 rfl ?_
          refine x_ldc2 (v := 10) C d_Brt_panic_47 lc_Brt_305 ?_
          refine x_lmul C d_Brt_panic_50 ?_
          refine x_nml (fun x45 hx45 => ?_)
          have hw := hw x45 hx45
          refine x_lstore_n (L' := [some (.ref (xa X 0)), some (.int x1), some (.int x14), some (.long x45), none, some (.int x16), none, none, none, none, none]) C d_Brt_panic_51 (Nat.le_of_ble_eq_true rfl) rfl ?_
          obtain ⟨x46, hx46⟩ : ∃ z : Int32, z = x16 + 1 := ⟨_, rfl⟩
          refine x_iinc (v := x46) (L' := [some (.ref (xa X 0)), some (.int x1), some (.int x14), some (.long x45), none, some (.int x46), none, none, none, none, none]) C d_Brt_panic_52 (Nat.le_of_ble_eq_true rfl) rfl (by rw [hx46]; rfl) rfl ?_
          have hw := hw x46 hx46
          refine x_goto (tgt := 40) C d_Brt_panic_55 (by decide) ?_
          obtain ⟨m47, hm47, hw⟩ := hw
          exact x_wk (ihI17 m47 hm47 x45 x46 hw) (And.intro rfl (And.intro rfl (And.intro rfl (And.intro rfl (And.intro rfl (trivial))))))
    exact x_wk (lI17 n18 1 0 hn18) (And.intro rfl (And.intro rfl (And.intro rfl (And.intro rfl (And.intro rfl (trivial))))))
  · have hw := hw.2 c12
    refine x_ldc2 (v := (-1000000001)) C d_Brt_panic_9 lc_Brt_303 ?_
    exact x_lreturn C d_Brt_panic_12 ⟨_, rfl, hw⟩
def vc_Brt_pose (x1 : Int32) (x2 : Int32) (s : St) (Q : Int32 → St → Prop) : Prop :=
    (∃ I13 : Nat → Int32 → Int32 → St → Prop, (∃ n14, I13 n14 0 0 s) ∧ ∀ (nI13 : Nat) (x10 : Int32) (x11 : Int32) (s12 : St), I13 nI13 x10 x11 s12 → ((x2 ≤ x11 → Q x10 s12) ∧ (¬ x2 ≤ x11 → (∀ x16 : Int32, x16 = (x1 >>> ((2 * ((x2 - 1) - x11)) &&& 31)) &&& 3 → (vp_in x11 6 ∧ (∀ s18 : St, s18 = wr s12 50 (Int32.toNatClampNeg x11) x16 → (∀ x19 : Int32, x19 = (x10 * 10) + x16 → (∀ x20 : Int32, x20 = x11 + 1 → ∃ m21, m21 < nI13 ∧ I13 m21 x19 x20 s18))))))))
def rm_Brt_pose : Room := { frames := 0, cells := 0, slots := 0, locals := 0 }
set_option maxHeartbeats 4000000 in
set_option maxRecDepth 20000 in
theorem m_Brt_pose (g : Gx) (hg : gOk g) (x1 : Int32) (x2 : Int32)  (s : St) (Q : Int32 → St → Prop) (hw : vc_Brt_pose x1 x2 s Q) : Mc g y_Brt_pose b_Brt_pose 6 (some FieldType.int) rm_Brt_pose [.ref (ga g 0), .int x1, .int x2] s (fun v s' => ∃ r : Int32, v = some (.int r) ∧ Q r s') := by
  refine mc_ofV (j := 3) (L := [some (.ref (ga g 0)), some (.int x1), some (.int x2), none, none, none]) hg (by decide) (Nat.le_of_ble_eq_true rfl) rfl ?_
  intro X hX C
  subst hX
  unfold vc_Brt_pose at hw
  refine x_iconst (v := 0) C d_Brt_pose_0 rfl ?_
  refine x_istore_n (L' := [some (.ref (xa X 0)), some (.int x1), some (.int x2), some (.int 0), none, none]) C d_Brt_pose_1 (Nat.le_of_ble_eq_true rfl) rfl ?_
  refine x_iconst (v := 0) C d_Brt_pose_2 rfl ?_
  refine x_istore (L' := [some (.ref (xa X 0)), some (.int x1), some (.int x2), some (.int 0), some (.int 0), none]) C d_Brt_pose_3 (Nat.le_of_ble_eq_true rfl) rfl ?_
  obtain ⟨I13, ⟨n14, hn14⟩, hI13⟩ := hw
  have lI13 : ∀ (nI13 : Nat) (x10 : Int32) (x11 : Int32) (s12 : St), I13 nI13 x10 x11 s12 → V X (xQ X (fun v s' => ∃ r : Int32, v = some (.int r) ∧ Q r s')) 0 0 s12 5 [some (.ref (xa X 0)), some (.int x1), some (.int x2), some (.int x10), some (.int x11), none] [] := by
    intro nI13
    induction nI13 using Nat.strongRecOn with
    | ind nI13 ihI13 =>
      intro x10 x11 s12 hv
      have hw := hI13 nI13 x10 x11 s12 hv
      refine x_iload C d_Brt_pose_5 rfl ?_
      refine x_iload_n C d_Brt_pose_7 rfl ?_
      refine x_icmp_ge (tgt := 54) C d_Brt_pose_8 (by decide) (fun c15 => ?_) (fun c15 => ?_)
      · have hw := hw.1 c15
        refine x_iload_n C d_Brt_pose_54 rfl ?_
        exact x_ireturn C d_Brt_pose_55 ⟨_, rfl, hw⟩
      · have hw := hw.2 c15
        refine x_iload_n C d_Brt_pose_11 rfl ?_
        refine x_iconst (v := 2) C d_Brt_pose_12 rfl ?_
        refine x_iload_n C d_Brt_pose_13 rfl ?_
        refine x_iconst (v := 1) C d_Brt_pose_14 rfl ?_
        refine x_isub C d_Brt_pose_15 ?_
        refine x_iload C d_Brt_pose_16 rfl ?_
        refine x_isub C d_Brt_pose_18 ?_
        refine x_imul C d_Brt_pose_19 ?_
        refine x_ishr C d_Brt_pose_20 ?_
        refine x_iconst (v := 3) C d_Brt_pose_21 rfl ?_
        refine x_iand C d_Brt_pose_22 ?_
        refine x_nm (fun x16 hx16 => ?_)
        have hw := hw x16 hx16
        refine x_istore (L' := [some (.ref (xa X 0)), some (.int x1), some (.int x2), some (.int x10), some (.int x11), some (.int x16)]) C d_Brt_pose_23 (Nat.le_of_ble_eq_true rfl) rfl ?_
        refine x_aload_n C d_Brt_pose_25 rfl ?_
        refine g_Brt_2 (p := 0) C rfl fl_Brt_19 d_Brt_pose_26 ?_
        refine g_Cav_1 (p := 35) C rfl fl_Brt_127 d_Brt_pose_29 ?_
        refine g_Bod_5 (p := 45) C rfl fl_Brt_146 d_Brt_pose_32 ?_
        refine x_iload C d_Brt_pose_35 rfl ?_
        refine x_iload C d_Brt_pose_37 rfl ?_
        obtain ⟨h17, hw⟩ := hw
        refine x_iast (p := 50) (n := 6) C rfl h17 d_Brt_pose_39 ?_
        refine x_st (fun s18 hs18 => ?_)
        have hw := hw s18 hs18
        refine x_iload_n C d_Brt_pose_40 rfl ?_
        refine x_bipush (v := 10) C d_Brt_pose_41 rfl ?_
        refine x_imul C d_Brt_pose_43 ?_
        refine x_iload C d_Brt_pose_44 rfl ?_
        refine x_iadd C d_Brt_pose_46 ?_
        refine x_nm (fun x19 hx19 => ?_)
        have hw := hw x19 hx19
        refine x_istore_n (L' := [some (.ref (xa X 0)), some (.int x1), some (.int x2), some (.int x19), some (.int x11), some (.int x16)]) C d_Brt_pose_47 (Nat.le_of_ble_eq_true rfl) rfl ?_
        obtain ⟨x20, hx20⟩ : ∃ z : Int32, z = x11 + 1 := ⟨_, rfl⟩
        refine x_iinc (v := x20) (L' := [some (.ref (xa X 0)), some (.int x1), some (.int x2), some (.int x19), some (.int x20), some (.int x16)]) C d_Brt_pose_48 (Nat.le_of_ble_eq_true rfl) rfl (by rw [hx20]; rfl) rfl ?_
        have hw := hw x20 hx20
        refine x_goto (tgt := 5) C d_Brt_pose_51 (by decide) ?_
        obtain ⟨m21, hm21, hw⟩ := hw
        exact x_wk (ihI13 m21 hm21 x19 x20 s18 hw) (And.intro rfl (And.intro rfl (And.intro rfl (And.intro rfl (And.intro rfl (trivial))))))
  exact x_wk (lI13 n14 0 0 s hn14) (And.intro rfl (And.intro rfl (And.intro rfl (And.intro rfl (And.intro rfl (trivial))))))
def vc_Brt_firstWays  (s : St) (Q : Int32 → St → Prop) : Prop :=
    (∀ x10 : Int32, x10 = s 11 0 → ((x10 ≤ 4 → vc_Cav_become 35 1 s (fun s12 => (∀ x13 : Int32, x13 = 1 <<< ((2 * x10) &&& 31) → (∃ I18 : Nat → Int32 → Int32 → Int32 → St → Prop, (∃ n19, I18 n19 (-1) 0 0 s12) ∧ ∀ (nI18 : Nat) (x14 : Int32) (x15 : Int32) (x16 : Int32) (s17 : St), I18 nI18 x14 x15 x16 s17 → ((x13 ≤ x16 → Q x15 s17) ∧ (¬ x13 ≤ x16 → vc_Brt_pose x16 x10 s17 (fun x21 s22 => vc_Brt_allReturn 35 s22 (fun b23 s24 => (∃ J27 : Int32 → Int32 → Prop, (∀ (x25 : Int32) (x26 : Int32), J27 x25 x26 → (∀ x28 : Int32, x28 = x16 + 1 → ∃ m29, m29 < nI18 ∧ I18 m29 x25 x26 x28 s24)) ∧ (((s24 55 1) ≤ x14 → J27 x14 x15) ∧ (¬ (s24 55 1) ≤ x14 → (∀ x31 : Int32, x31 = s24 55 1 → J27 x31 x21)))))))))))) ∧ (¬ x10 ≤ 4 → Q (-3) s)))
def rm_Brt_firstWays : Room := { frames := 6, cells := 0, slots := 0, locals := 151 }
set_option maxHeartbeats 4000000 in
set_option maxRecDepth 20000 in
theorem m_Brt_firstWays (g : Gx) (hg : gOk g)   (s : St) (Q : Int32 → St → Prop) (hw : vc_Brt_firstWays  s Q) : Mc g y_Brt_firstWays b_Brt_firstWays 7 (some FieldType.int) rm_Brt_firstWays [.ref (ga g 0)] s (fun v s' => ∃ r : Int32, v = some (.int r) ∧ Q r s') := by
  refine mc_ofV (j := 6) (L := [some (.ref (ga g 0)), none, none, none, none, none, none]) hg (by decide) (Nat.le_of_ble_eq_true rfl) rfl ?_
  intro X hX C
  subst hX
  unfold vc_Brt_firstWays at hw
  refine x_aload_n C d_Brt_firstWays_0 rfl ?_
  refine g_Brt_0 (p := 0) C rfl fl_Brt_10 d_Brt_firstWays_1 ?_
  refine g_Cav_1 (p := 1) C rfl fl_Brt_127 d_Brt_firstWays_4 ?_
  refine g_Bod_0 (p := 11) C rfl fl_Brt_250 d_Brt_firstWays_7 ?_
  refine x_nm (fun x10 hx10 => ?_)
  have hw := hw x10 hx10
  refine x_istore_n (L' := [some (.ref (xa X 0)), some (.int x10), none, none, none, none, none]) C d_Brt_firstWays_10 (Nat.le_of_ble_eq_true rfl) rfl ?_
  refine x_iload_n C d_Brt_firstWays_11 rfl ?_
  refine x_iconst (v := 4) C d_Brt_firstWays_12 rfl ?_
  refine x_icmp_le (tgt := 19) C d_Brt_firstWays_13 (by decide) (fun c11 => ?_) (fun c11 => ?_)
  · have hw := hw.1 c11
    refine x_aload_n C d_Brt_firstWays_19 rfl ?_
    refine g_Brt_2 (p := 0) C rfl fl_Brt_19 d_Brt_firstWays_20 ?_
    refine x_aload_n C d_Brt_firstWays_23 rfl ?_
    refine g_Brt_0 (p := 0) C rfl fl_Brt_10 d_Brt_firstWays_24 ?_
    refine x_callV (As := [.ref (xa X 1)]) (rest := []) (p := 35) C (m_Cav_become (xg X) C.2.2.2.2.2.2.1 35 1 rfl rfl s _ hw) cw_Cav_become ml_Brt_72 rfl (by decide) (by decide) rfl rfl rfl ⟨rfl, rfl, Nat.le_of_ble_eq_true rfl, Nat.le_of_ble_eq_true rfl⟩ ⟨Nat.zero_le _, Nat.zero_le _⟩ rfl (Nat.le_of_ble_eq_true rfl) d_Brt_firstWays_27 ?_
    rintro _ s12 ⟨rfl, hw⟩
    show V X _ _ _ _ 30 [some (.ref (xa X 0)), some (.int x10), none, none, none, none, none] []
    refine x_iconst (v := (-1)) C d_Brt_firstWays_30 rfl ?_
    refine x_istore_n (L' := [some (.ref (xa X 0)), some (.int x10), some (.int (-1)), none, none, none, none]) C d_Brt_firstWays_31 (Nat.le_of_ble_eq_true rfl) rfl ?_
    refine x_iconst (v := 0) C d_Brt_firstWays_32 rfl ?_
    refine x_istore_n (L' := [some (.ref (xa X 0)), some (.int x10), some (.int (-1)), some (.int 0), none, none, none]) C d_Brt_firstWays_33 (Nat.le_of_ble_eq_true rfl) rfl ?_
    refine x_iconst (v := 1) C d_Brt_firstWays_34 rfl ?_
    refine x_iconst (v := 2) C d_Brt_firstWays_35 rfl ?_
    refine x_iload_n C d_Brt_firstWays_36 rfl ?_
    refine x_imul C d_Brt_firstWays_37 ?_
    refine x_ishl C d_Brt_firstWays_38 ?_
    refine x_nm (fun x13 hx13 => ?_)
    have hw := hw x13 hx13
    refine x_istore (L' := [some (.ref (xa X 0)), some (.int x10), some (.int (-1)), some (.int 0), some (.int x13), none, none]) C d_Brt_firstWays_39 (Nat.le_of_ble_eq_true rfl) rfl ?_
    refine x_iconst (v := 0) C d_Brt_firstWays_41 rfl ?_
    refine x_istore (L' := [some (.ref (xa X 0)), some (.int x10), some (.int (-1)), some (.int 0), some (.int x13), some (.int 0), none]) C d_Brt_firstWays_42 (Nat.le_of_ble_eq_true rfl) rfl ?_
    obtain ⟨I18, ⟨n19, hn19⟩, hI18⟩ := hw
    have lI18 : ∀ (nI18 : Nat) (x14 : Int32) (x15 : Int32) (x16 : Int32) (s17 : St), I18 nI18 x14 x15 x16 s17 → V X (xQ X (fun v s' => ∃ r : Int32, v = some (.int r) ∧ Q r s')) 0 0 s17 44 [some (.ref (xa X 0)), some (.int x10), some (.int x14), some (.int x15), some (.int x13), some (.int x16), none] [] := by
      intro nI18
      induction nI18 using Nat.strongRecOn with
      | ind nI18 ihI18 =>
        intro x14 x15 x16 s17 hv
        have hw := hI18 nI18 x14 x15 x16 s17 hv
        refine x_iload C d_Brt_firstWays_44 rfl ?_
        refine x_iload C d_Brt_firstWays_46 rfl ?_
        refine x_icmp_ge (tgt := 103) C d_Brt_firstWays_48 (by decide) (fun c20 => ?_) (fun c20 => ?_)
        · have hw := hw.1 c20
          refine x_iload_n C d_Brt_firstWays_103 rfl ?_
          exact x_ireturn C d_Brt_firstWays_104 ⟨_, rfl, hw⟩
        · have hw := hw.2 c20
          refine x_aload_n C d_Brt_firstWays_51 rfl ?_
          refine x_iload C d_Brt_firstWays_52 rfl ?_
          refine x_iload_n C d_Brt_firstWays_54 rfl ?_
          refine x_callV (As := [.int x16, .int x10]) (rest := []) (p := 0) C (m_Brt_pose (xg X) C.2.2.2.2.2.2.1 x16 x10 s17 _ hw) cw_Brt_pose ml_Brt_315 rfl (by decide) (by decide) rfl rfl rfl ⟨rfl, rfl, Nat.le_of_ble_eq_true rfl, Nat.le_of_ble_eq_true rfl⟩ ⟨Nat.zero_le _, Nat.zero_le _⟩ rfl (Nat.le_of_ble_eq_true rfl) d_Brt_firstWays_55 ?_
          rintro _ s22 ⟨x21, rfl, hw⟩
          show V X _ _ _ _ 58 [some (.ref (xa X 0)), some (.int x10), some (.int x14), some (.int x15), some (.int x13), some (.int x16), none] [.int x21]
          refine x_istore (L' := [some (.ref (xa X 0)), some (.int x10), some (.int x14), some (.int x15), some (.int x13), some (.int x16), some (.int x21)]) C d_Brt_firstWays_58 (Nat.le_of_ble_eq_true rfl) rfl ?_
          refine x_aload_n C d_Brt_firstWays_60 rfl ?_
          refine x_aload_n C d_Brt_firstWays_61 rfl ?_
          refine g_Brt_2 (p := 0) C rfl fl_Brt_19 d_Brt_firstWays_62 ?_
          refine x_callV (As := [.ref (xa X 35)]) (rest := []) (p := 0) C (m_Brt_allReturn (xg X) C.2.2.2.2.2.2.1 35 rfl s22 _ hw) cw_Brt_allReturn ml_Brt_237 rfl (by decide) (by decide) rfl rfl rfl ⟨rfl, rfl, Nat.le_of_ble_eq_true rfl, Nat.le_of_ble_eq_true rfl⟩ ⟨Nat.zero_le _, Nat.zero_le _⟩ rfl (Nat.le_of_ble_eq_true rfl) d_Brt_firstWays_65 ?_
          rintro _ s24 ⟨b23, rfl, hw⟩
          show V X _ _ _ _ 68 [some (.ref (xa X 0)), some (.int x10), some (.int x14), some (.int x15), some (.int x13), some (.int x16), some (.int x21)] [.int (bi b23)]
          refine x_pop C d_Brt_firstWays_68 rfl ?_
          refine x_aload_n C d_Brt_firstWays_69 rfl ?_
          refine g_Brt_3 (p := 0) C rfl fl_Brt_25 d_Brt_firstWays_70 ?_
          refine g_Tri_1 (p := 52) C rfl fl_Brt_241 d_Brt_firstWays_73 ?_
          refine g_Leg_1 (p := 55) C rfl fl_Brt_318 d_Brt_firstWays_76 ?_
          refine x_iload_n C d_Brt_firstWays_79 rfl ?_
          obtain ⟨J27, hJ27, hw⟩ := hw
          have kJ27 : ∀ (x25 : Int32) (x26 : Int32), J27 x25 x26 → V X (xQ X (fun v s' => ∃ r : Int32, v = some (.int r) ∧ Q r s')) 0 0 s24 97 [some (.ref (xa X 0)), some (.int x10), some (.int x25), some (.int x26), some (.int x13), some (.int x16), some (.int x21)] [] := by
            intro x25 x26 hv
            have hw := hJ27 x25 x26 hv
            obtain ⟨x28, hx28⟩ : ∃ z : Int32, z = x16 + 1 := ⟨_, rfl⟩
            refine x_iinc (v := x28) (L' := [some (.ref (xa X 0)), some (.int x10), some (.int x25), some (.int x26), some (.int x13), some (.int x28), some (.int x21)]) C d_Brt_firstWays_97 (Nat.le_of_ble_eq_true rfl) rfl (by rw [hx28]; rfl) rfl ?_
            have hw := hw x28 hx28
            refine x_goto (tgt := 44) C d_Brt_firstWays_100 (by decide) ?_
            obtain ⟨m29, hm29, hw⟩ := hw
            exact x_wk (ihI18 m29 hm29 x25 x26 x28 s24 hw) (And.intro rfl (And.intro rfl (And.intro rfl (And.intro rfl (And.intro rfl (And.intro rfl (trivial)))))))
          refine x_icmp_le (tgt := 97) C d_Brt_firstWays_80 (by decide) (fun c30 => ?_) (fun c30 => ?_)
          · have hw := hw.1 c30
            exact x_wk (kJ27 x14 x15 hw) (And.intro rfl (And.intro rfl (And.intro rfl (And.intro rfl (And.intro rfl (And.intro rfl (And.intro rfl (trivial))))))))
          · have hw := hw.2 c30
            refine x_aload_n C d_Brt_firstWays_83 rfl ?_
            refine g_Brt_3 (p := 0) C rfl fl_Brt_25 d_Brt_firstWays_84 ?_
            refine g_Tri_1 (p := 52) C rfl fl_Brt_241 d_Brt_firstWays_87 ?_
            refine g_Leg_1 (p := 55) C rfl fl_Brt_318 d_Brt_firstWays_90 ?_
            refine x_nm (fun x31 hx31 => ?_)
            have hw := hw x31 hx31
            refine x_istore_n (L' := [some (.ref (xa X 0)), some (.int x10), some (.int x31), some (.int x15), some (.int x13), some (.int x16), some (.int x21)]) C d_Brt_firstWays_93 (Nat.le_of_ble_eq_true rfl) rfl ?_
            refine x_iload C d_Brt_firstWays_94 rfl ?_
            refine x_istore_n (L' := [some (.ref (xa X 0)), some (.int x10), some (.int x31), some (.int x21), some (.int x13), some (.int x16), some (.int x21)]) C d_Brt_firstWays_96 (Nat.le_of_ble_eq_true rfl) rfl ?_
            exact x_wk (kJ27 x31 x21 hw) (And.intro rfl (And.intro rfl (And.intro rfl (And.intro rfl (And.intro rfl (And.intro rfl (And.intro rfl (trivial))))))))
    exact x_wk (lI18 n19 (-1) 0 0 s12 hn19) (And.intro rfl (And.intro rfl (And.intro rfl (And.intro rfl (And.intro rfl (And.intro rfl (trivial)))))))
  · have hw := hw.2 c11
    refine x_bipush (v := (-3)) C d_Brt_firstWays_16 rfl ?_
    exact x_ireturn C d_Brt_firstWays_18 ⟨_, rfl, hw⟩
def vc_Brt_firstUnlike (x1 : Int32) (p2 : Nat) (s : St) (Q : Int32 → Prop) : Prop :=
    (∃ I11 : Nat → Int32 → Prop, (∃ n12, I11 n12 0) ∧ ∀ (nI11 : Nat) (x10 : Int32), I11 nI11 x10 → (∃ J13 : Prop, (J13 → Q (s p2 4)) ∧ (((s p2 4) ≤ x10 → J13) ∧ (¬ (s p2 4) ≤ x10 → (((s 36 0) ≤ x10 → J13) ∧ (¬ (s 36 0) ≤ x10 → vc_She_isSkipped p2 x10 s (fun b16 => (∃ J18 : Prop, (J18 → (∀ x19 : Int32, x19 = x10 + 1 → ∃ m20, m20 < nI11 ∧ I11 m20 x19)) ∧ ((¬ (bi b16) = 0 → J18) ∧ ((bi b16) = 0 → (vp_in x10 100 ∧ vc_Cav_fitOf 35 x1 x10 s (fun x23 => (((s (p2 + 1) (Int32.toNatClampNeg x10)) = x23 → J18) ∧ (¬ (s (p2 + 1) (Int32.toNatClampNeg x10)) = x23 → Q x10))))))))))))))
def rm_Brt_firstUnlike : Room := { frames := 4, cells := 0, slots := 0, locals := 90 }
set_option maxHeartbeats 4000000 in
set_option maxRecDepth 20000 in
theorem m_Brt_firstUnlike (g : Gx) (hg : gOk g) (x1 : Int32) (p2 : Nat) (hk2 : kd p2 = 9) (s : St) (Q : Int32 → Prop) (hw : vc_Brt_firstUnlike x1 p2 s Q) : Mc g y_Brt_firstUnlike b_Brt_firstUnlike 4 (some FieldType.int) rm_Brt_firstUnlike [.ref (ga g 0), .int x1, .ref (ga g p2)] s (fun v s' => ∃ r : Int32, v = some (.int r) ∧ s = s' ∧ Q r) := by
  refine mc_ofV (j := 1) (L := [some (.ref (ga g 0)), some (.int x1), some (.ref (ga g p2)), none]) hg (by decide) (Nat.le_of_ble_eq_true rfl) rfl ?_
  intro X hX C
  subst hX
  unfold vc_Brt_firstUnlike at hw
  refine x_iconst (v := 0) C d_Brt_firstUnlike_0 rfl ?_
  refine x_istore_n (L' := [some (.ref (xa X 0)), some (.int x1), some (.ref (xa X p2)), some (.int 0)]) C d_Brt_firstUnlike_1 (Nat.le_of_ble_eq_true rfl) rfl ?_
  obtain ⟨I11, ⟨n12, hn12⟩, hI11⟩ := hw
  have lI11 : ∀ (nI11 : Nat) (x10 : Int32), I11 nI11 x10 → V X (xQ X (fun v s' => ∃ r : Int32, v = some (.int r) ∧ s = s' ∧ Q r)) 0 0 s 2 [some (.ref (xa X 0)), some (.int x1), some (.ref (xa X p2)), some (.int x10)] [] := by
    intro nI11
    induction nI11 using Nat.strongRecOn with
    | ind nI11 ihI11 =>
      intro x10 hv
      have hw := hI11 nI11 x10 hv
      refine x_iload_n C d_Brt_firstUnlike_2 rfl ?_
      refine x_aload_n C d_Brt_firstUnlike_3 rfl ?_
      refine g_She_4 (p := p2) C hk2 fl_Brt_76 d_Brt_firstUnlike_4 ?_
      obtain ⟨J13, hJ13, hw⟩ := hw
      have kJ13 : J13 → V X (xQ X (fun v s' => ∃ r : Int32, v = some (.int r) ∧ s = s' ∧ Q r)) 0 0 s 58 [some (.ref (xa X 0)), some (.int x1), some (.ref (xa X p2)), some (.int x10)] [] := by
        intro  hv
        have hw := hJ13  hv
        refine x_aload_n C d_Brt_firstUnlike_58 rfl ?_
        refine g_She_4 (p := p2) C hk2 fl_Brt_76 d_Brt_firstUnlike_59 ?_
        exact x_ireturn C d_Brt_firstUnlike_62 ⟨_, rfl, rfl, hw⟩
      refine x_icmp_ge (tgt := 58) C d_Brt_firstUnlike_7 (by decide) (fun c14 => ?_) (fun c14 => ?_)
      · have hw := hw.1 c14
        exact x_wk (kJ13  hw) (And.intro rfl (And.intro rfl (And.intro rfl (And.intro rfl (trivial)))))
      · have hw := hw.2 c14
        refine x_iload_n C d_Brt_firstUnlike_10 rfl ?_
        refine x_aload_n C d_Brt_firstUnlike_11 rfl ?_
        refine g_Brt_2 (p := 0) C rfl fl_Brt_19 d_Brt_firstUnlike_12 ?_
        refine g_Cav_0 (p := 35) C rfl fl_Brt_92 d_Brt_firstUnlike_15 ?_
        refine g_Yar_0 (p := 36) C rfl fl_Brt_166 d_Brt_firstUnlike_18 ?_
        refine x_icmp_ge (tgt := 58) C d_Brt_firstUnlike_21 (by decide) (fun c15 => ?_) (fun c15 => ?_)
        · have hw := hw.1 c15
          exact x_wk (kJ13  hw) (And.intro rfl (And.intro rfl (And.intro rfl (And.intro rfl (trivial)))))
        · have hw := hw.2 c15
          refine x_aload_n C d_Brt_firstUnlike_24 rfl ?_
          refine x_iload_n C d_Brt_firstUnlike_25 rfl ?_
          refine x_callV (As := [.int x10]) (rest := []) (p := p2) C (m_She_isSkipped (xg X) C.2.2.2.2.2.2.1 p2 x10 hk2 s _ hw) cw_She_isSkipped ml_Brt_331 hk2 (by decide) (by decide) rfl rfl rfl ⟨rfl, rfl, Nat.le_of_ble_eq_true rfl, Nat.le_of_ble_eq_true rfl⟩ ⟨Nat.zero_le _, Nat.zero_le _⟩ rfl (Nat.le_of_ble_eq_true rfl) d_Brt_firstUnlike_26 ?_
          rintro _ _ ⟨b16, rfl, rfl, hw⟩
          show V X _ _ _ _ 29 [some (.ref (xa X 0)), some (.int x1), some (.ref (xa X p2)), some (.int x10)] [.int (bi b16)]
          obtain ⟨J18, hJ18, hw⟩ := hw
          have kJ18 : J18 → V X (xQ X (fun v s' => ∃ r : Int32, v = some (.int r) ∧ s = s' ∧ Q r)) 0 0 s 52 [some (.ref (xa X 0)), some (.int x1), some (.ref (xa X p2)), some (.int x10)] [] := by
            intro  hv
            have hw := hJ18  hv
            obtain ⟨x19, hx19⟩ : ∃ z : Int32, z = x10 + 1 := ⟨_, rfl⟩
            refine x_iinc (v := x19) (L' := [some (.ref (xa X 0)), some (.int x1), some (.ref (xa X p2)), some (.int x19)]) C d_Brt_firstUnlike_52 (Nat.le_of_ble_eq_true rfl) rfl (by rw [hx19]; rfl) rfl ?_
            have hw := hw x19 hx19
            refine x_goto (tgt := 2) C d_Brt_firstUnlike_55 (by decide) ?_
            obtain ⟨m20, hm20, hw⟩ := hw
            exact x_wk (ihI11 m20 hm20 x19 hw) (And.intro rfl (And.intro rfl (And.intro rfl (And.intro rfl (trivial)))))
          refine x_if_ne (tgt := 52) C d_Brt_firstUnlike_29 (by decide) (fun c21 => ?_) (fun c21 => ?_)
          · have hw := hw.1 c21
            exact x_wk (kJ18  hw) (And.intro rfl (And.intro rfl (And.intro rfl (And.intro rfl (trivial)))))
          · have hw := hw.2 c21
            refine x_aload_n C d_Brt_firstUnlike_32 rfl ?_
            refine g_She_5 (p := p2) C hk2 fl_Brt_83 d_Brt_firstUnlike_33 ?_
            refine x_iload_n C d_Brt_firstUnlike_36 rfl ?_
            obtain ⟨h22, hw⟩ := hw
            refine x_iald (p := (p2 + 1)) (n := 100) C (ks_9_1 hk2) h22 d_Brt_firstUnlike_37 ?_
            refine x_aload_n C d_Brt_firstUnlike_38 rfl ?_
            refine g_Brt_2 (p := 0) C rfl fl_Brt_19 d_Brt_firstUnlike_39 ?_
            refine x_iload_n C d_Brt_firstUnlike_42 rfl ?_
            refine x_iload_n C d_Brt_firstUnlike_43 rfl ?_
            refine x_callV (As := [.int x1, .int x10]) (rest := [.int (s (p2 + 1) (Int32.toNatClampNeg x10))]) (p := 35) C (m_Cav_fitOf (xg X) C.2.2.2.2.2.2.1 35 x1 x10 rfl s _ hw) cw_Cav_fitOf ml_Brt_202 rfl (by decide) (by decide) rfl rfl rfl ⟨rfl, rfl, Nat.le_of_ble_eq_true rfl, Nat.le_of_ble_eq_true rfl⟩ ⟨Nat.zero_le _, Nat.zero_le _⟩ rfl (Nat.le_of_ble_eq_true rfl) d_Brt_firstUnlike_44 ?_
            rintro _ _ ⟨x23, rfl, rfl, hw⟩
            show V X _ _ _ _ 47 [some (.ref (xa X 0)), some (.int x1), some (.ref (xa X p2)), some (.int x10)] [.int x23, .int (s (p2 + 1) (Int32.toNatClampNeg x10))]
            refine x_icmp_eq (tgt := 52) C d_Brt_firstUnlike_47 (by decide) (fun c25 => ?_) (fun c25 => ?_)
            · have hw := hw.1 c25
              exact x_wk (kJ18  hw) (And.intro rfl (And.intro rfl (And.intro rfl (And.intro rfl (trivial)))))
            · have hw := hw.2 c25
              refine x_iload_n C d_Brt_firstUnlike_50 rfl ?_
              exact x_ireturn C d_Brt_firstUnlike_51 ⟨_, rfl, rfl, hw⟩
  exact x_wk (lI11 n12 0 hn12) (And.intro rfl (And.intro rfl (And.intro rfl (And.intro rfl (trivial)))))
def vc_Brt_refusalOfRock (x1 : Int32) (x2 : Int32) (s : St) (Q : Int32 → Prop) : Prop :=
    vc_Bod_has 11 x1 s (fun b10 => ((¬ (bi b10) = 0 → vc_Brt_refusalOfRow x2 s (fun x13 => ((x13 = 0 → (vp_in x2 8 ∧ (((s (shp x2) 4) ≤ (s 2 0) → Q 0) ∧ (¬ (s (shp x2) 4) ≤ (s 2 0) → Q (-13))))) ∧ (¬ x13 = 0 → Q x13)))) ∧ ((bi b10) = 0 → Q (-1))))
def rm_Brt_refusalOfRock : Room := { frames := 4, cells := 0, slots := 0, locals := 85 }
set_option maxHeartbeats 4000000 in
set_option maxRecDepth 20000 in
theorem m_Brt_refusalOfRock (g : Gx) (hg : gOk g) (x1 : Int32) (x2 : Int32)  (s : St) (Q : Int32 → Prop) (hw : vc_Brt_refusalOfRock x1 x2 s Q) : Mc g y_Brt_refusalOfRock b_Brt_refusalOfRock 4 (some FieldType.int) rm_Brt_refusalOfRock [.ref (ga g 0), .int x1, .int x2] s (fun v s' => ∃ r : Int32, v = some (.int r) ∧ s = s' ∧ Q r) := by
  refine mc_ofV (j := 1) (L := [some (.ref (ga g 0)), some (.int x1), some (.int x2), none]) hg (by decide) (Nat.le_of_ble_eq_true rfl) rfl ?_
  intro X hX C
  subst hX
  unfold vc_Brt_refusalOfRock at hw
  refine x_aload_n C d_Brt_refusalOfRock_0 rfl ?_
  refine g_Brt_0 (p := 0) C rfl fl_Brt_10 d_Brt_refusalOfRock_1 ?_
  refine g_Cav_1 (p := 1) C rfl fl_Brt_127 d_Brt_refusalOfRock_4 ?_
  refine x_iload_n C d_Brt_refusalOfRock_7 rfl ?_
  refine x_callV (As := [.int x1]) (rest := []) (p := 11) C (m_Bod_has (xg X) C.2.2.2.2.2.2.1 11 x1 rfl s _ hw) cw_Bod_has ml_Brt_131 rfl (by decide) (by decide) rfl rfl rfl ⟨rfl, rfl, Nat.le_of_ble_eq_true rfl, Nat.le_of_ble_eq_true rfl⟩ ⟨Nat.zero_le _, Nat.zero_le _⟩ rfl (Nat.le_of_ble_eq_true rfl) d_Brt_refusalOfRock_8 ?_
  rintro _ _ ⟨b10, rfl, rfl, hw⟩
  show V X _ _ _ _ 11 [some (.ref (xa X 0)), some (.int x1), some (.int x2), none] [.int (bi b10)]
  refine x_if_ne (tgt := 16) C d_Brt_refusalOfRock_11 (by decide) (fun c12 => ?_) (fun c12 => ?_)
  · have hw := hw.1 c12
    refine x_aload_n C d_Brt_refusalOfRock_16 rfl ?_
    refine x_iload_n C d_Brt_refusalOfRock_17 rfl ?_
    refine x_callV (As := [.int x2]) (rest := []) (p := 0) C (m_Brt_refusalOfRow (xg X) C.2.2.2.2.2.2.1 x2 s _ hw) cw_Brt_refusalOfRow ml_Brt_58 rfl (by decide) (by decide) rfl rfl rfl ⟨rfl, rfl, Nat.le_of_ble_eq_true rfl, Nat.le_of_ble_eq_true rfl⟩ ⟨Nat.zero_le _, Nat.zero_le _⟩ rfl (Nat.le_of_ble_eq_true rfl) d_Brt_refusalOfRock_18 ?_
    rintro _ _ ⟨x13, rfl, rfl, hw⟩
    show V X _ _ _ _ 21 [some (.ref (xa X 0)), some (.int x1), some (.int x2), none] [.int x13]
    refine x_istore_n (L' := [some (.ref (xa X 0)), some (.int x1), some (.int x2), some (.int x13)]) C d_Brt_refusalOfRock_21 (Nat.le_of_ble_eq_true rfl) rfl ?_
    refine x_iload_n C d_Brt_refusalOfRock_22 rfl ?_
    refine x_if_eq (tgt := 28) C d_Brt_refusalOfRock_23 (by decide) (fun c15 => ?_) (fun c15 => ?_)
    · have hw := hw.1 c15
      refine x_aload_n C d_Brt_refusalOfRock_28 rfl ?_
      refine g_Brt_7 (p := 0) C rfl fl_Brt_49 d_Brt_refusalOfRock_29 ?_
      refine x_iload_n C d_Brt_refusalOfRock_32 rfl ?_
      obtain ⟨h16, hw⟩ := hw
      refine x_aald C h16 d_Brt_refusalOfRock_33 ?_
      refine g_She_4 (p := (shp x2)) C (shp_kd h16) fl_Brt_76 d_Brt_refusalOfRock_34 ?_
      refine x_aload_n C d_Brt_refusalOfRock_37 rfl ?_
      refine g_Brt_0 (p := 0) C rfl fl_Brt_10 d_Brt_refusalOfRock_38 ?_
      refine g_Cav_0 (p := 1) C rfl fl_Brt_92 d_Brt_refusalOfRock_41 ?_
      refine g_Yar_0 (p := 2) C rfl fl_Brt_166 d_Brt_refusalOfRock_44 ?_
      refine x_icmp_le (tgt := 55) C d_Brt_refusalOfRock_47 (by decide) (fun c17 => ?_) (fun c17 => ?_)
      · have hw := hw.1 c17
        refine x_iconst (v := 0) C d_Brt_refusalOfRock_55 rfl ?_
        exact x_ireturn C d_Brt_refusalOfRock_56 ⟨_, rfl, rfl, hw⟩
      · have hw := hw.2 c17
        refine x_bipush (v := (-13)) C d_Brt_refusalOfRock_50 rfl ?_
        refine x_goto (tgt := 56) C d_Brt_refusalOfRock_52 (by decide) ?_
        exact x_ireturn C d_Brt_refusalOfRock_56 ⟨_, rfl, rfl, hw⟩
    · have hw := hw.2 c15
      refine x_iload_n C d_Brt_refusalOfRock_26 rfl ?_
      exact x_ireturn C d_Brt_refusalOfRock_27 ⟨_, rfl, rfl, hw⟩
  · have hw := hw.2 c12
    refine x_iconst (v := (-1)) C d_Brt_refusalOfRock_14 rfl ?_
    exact x_ireturn C d_Brt_refusalOfRock_15 ⟨_, rfl, rfl, hw⟩
def vc_Brt_rock (x1 : Int32) (x2 : Int32) (x3 : Int32) (s : St) (Q : Int32 → St → Prop) : Prop :=
    vc_Brt_within x3 0 1 (fun b10 => ((¬ (bi b10) = 0 → vc_Brt_refusalOfRock x1 x2 s (fun x13 => ((x13 = 0 → vc_Cav_become 35 1 s (fun s16 => (∃ I21 : Nat → Int32 → Int32 → Int32 → St → Prop, (∃ n22, I21 n22 0 (-4) 50 s16) ∧ ∀ (nI21 : Nat) (x17 : Int32) (x18 : Int32) (x19 : Int32) (s20 : St), I21 nI21 x17 x18 x19 s20 → ((x19 < 10 → ((¬ x3 = 0 → Q x18 s20) ∧ (x3 = 0 → Q x17 s20))) ∧ (¬ x19 < 10 → (vp_in x1 6 ∧ (∀ s26 : St, s26 = wr s20 46 (Int32.toNatClampNeg x1) x19 → (vp_in x2 8 ∧ vc_Brt_firstUnlike x1 (shp x2) s26 (fun x28 => (vp_in x2 8 ∧ (∃ J33 : Int32 → Int32 → Prop, (∀ (x31 : Int32) (x32 : Int32), J33 x31 x32 → (∀ x34 : Int32, x34 = x19 + (-1) → ∃ m35, m35 < nI21 ∧ I21 m35 x31 x32 x34 s26)) ∧ ((¬ x28 = (s26 (shp x2) 4) → J33 x17 x18) ∧ (x28 = (s26 (shp x2) 4) → (∀ x37 : Int32, x37 = x17 + 1 → J33 x37 x19)))))))))))))) ∧ (¬ x13 = 0 → Q x13 s)))) ∧ ((bi b10) = 0 → Q (-1) s)))
def rm_Brt_rock : Room := { frames := 5, cells := 0, slots := 0, locals := 113 }
set_option maxHeartbeats 4000000 in
set_option maxRecDepth 20000 in
theorem m_Brt_rock (g : Gx) (hg : gOk g) (x1 : Int32) (x2 : Int32) (x3 : Int32)  (s : St) (Q : Int32 → St → Prop) (hw : vc_Brt_rock x1 x2 x3 s Q) : Mc g y_Brt_rock b_Brt_rock 8 (some FieldType.int) rm_Brt_rock [.ref (ga g 0), .int x1, .int x2, .int x3] s (fun v s' => ∃ r : Int32, v = some (.int r) ∧ Q r s') := by
  refine mc_ofV (j := 4) (L := [some (.ref (ga g 0)), some (.int x1), some (.int x2), some (.int x3), none, none, none, none]) hg (by decide) (Nat.le_of_ble_eq_true rfl) rfl ?_
  intro X hX C
  subst hX
  unfold vc_Brt_rock at hw
  refine x_iload_n C d_Brt_rock_0 rfl ?_
  refine x_iconst (v := 0) C d_Brt_rock_1 rfl ?_
  refine x_iconst (v := 1) C d_Brt_rock_2 rfl ?_
  refine x_callS (As := [.int x3, .int 0, .int 1]) (rest := []) C (m_Brt_within (xg X) C.2.2.2.2.2.2.1 x3 0 1 s _ hw) cw_Brt_within ml_Brt_185 rfl ⟨rfl, rfl, Nat.le_of_ble_eq_true rfl, Nat.le_of_ble_eq_true rfl⟩ ⟨Nat.zero_le _, Nat.zero_le _⟩ rfl (Nat.le_of_ble_eq_true rfl) d_Brt_rock_3 ?_
  rintro _ _ ⟨b10, rfl, rfl, hw⟩
  show V X _ _ _ _ 6 [some (.ref (xa X 0)), some (.int x1), some (.int x2), some (.int x3), none, none, none, none] [.int (bi b10)]
  refine x_if_ne (tgt := 11) C d_Brt_rock_6 (by decide) (fun c12 => ?_) (fun c12 => ?_)
  · have hw := hw.1 c12
    refine x_aload_n C d_Brt_rock_11 rfl ?_
    refine x_iload_n C d_Brt_rock_12 rfl ?_
    refine x_iload_n C d_Brt_rock_13 rfl ?_
    refine x_callV (As := [.int x1, .int x2]) (rest := []) (p := 0) C (m_Brt_refusalOfRock (xg X) C.2.2.2.2.2.2.1 x1 x2 s _ hw) cw_Brt_refusalOfRock ml_Brt_321 rfl (by decide) (by decide) rfl rfl rfl ⟨rfl, rfl, Nat.le_of_ble_eq_true rfl, Nat.le_of_ble_eq_true rfl⟩ ⟨Nat.zero_le _, Nat.zero_le _⟩ rfl (Nat.le_of_ble_eq_true rfl) d_Brt_rock_14 ?_
    rintro _ _ ⟨x13, rfl, rfl, hw⟩
    show V X _ _ _ _ 17 [some (.ref (xa X 0)), some (.int x1), some (.int x2), some (.int x3), none, none, none, none] [.int x13]
    refine x_istore (L' := [some (.ref (xa X 0)), some (.int x1), some (.int x2), some (.int x3), some (.int x13), none, none, none]) C d_Brt_rock_17 (Nat.le_of_ble_eq_true rfl) rfl ?_
    refine x_iload C d_Brt_rock_19 rfl ?_
    refine x_if_eq (tgt := 27) C d_Brt_rock_21 (by decide) (fun c15 => ?_) (fun c15 => ?_)
    · have hw := hw.1 c15
      refine x_aload_n C d_Brt_rock_27 rfl ?_
      refine g_Brt_2 (p := 0) C rfl fl_Brt_19 d_Brt_rock_28 ?_
      refine x_aload_n C d_Brt_rock_31 rfl ?_
      refine g_Brt_0 (p := 0) C rfl fl_Brt_10 d_Brt_rock_32 ?_
      refine x_callV (As := [.ref (xa X 1)]) (rest := []) (p := 35) C (m_Cav_become (xg X) C.2.2.2.2.2.2.1 35 1 rfl rfl s _ hw) cw_Cav_become ml_Brt_72 rfl (by decide) (by decide) rfl rfl rfl ⟨rfl, rfl, Nat.le_of_ble_eq_true rfl, Nat.le_of_ble_eq_true rfl⟩ ⟨Nat.zero_le _, Nat.zero_le _⟩ rfl (Nat.le_of_ble_eq_true rfl) d_Brt_rock_35 ?_
      rintro _ s16 ⟨rfl, hw⟩
      show V X _ _ _ _ 38 [some (.ref (xa X 0)), some (.int x1), some (.int x2), some (.int x3), some (.int x13), none, none, none] []
      refine x_iconst (v := 0) C d_Brt_rock_38 rfl ?_
      refine x_istore (L' := [some (.ref (xa X 0)), some (.int x1), some (.int x2), some (.int x3), some (.int x13), some (.int 0), none, none]) C d_Brt_rock_39 (Nat.le_of_ble_eq_true rfl) rfl ?_
      refine x_bipush (v := (-4)) C d_Brt_rock_41 rfl ?_
      refine x_istore (L' := [some (.ref (xa X 0)), some (.int x1), some (.int x2), some (.int x3), some (.int x13), some (.int 0), some (.int (-4)), none]) C d_Brt_rock_43 (Nat.le_of_ble_eq_true rfl) rfl ?_
      refine x_bipush (v := 50) C d_Brt_rock_45 rfl ?_
      refine x_istore (L' := [some (.ref (xa X 0)), some (.int x1), some (.int x2), some (.int x3), some (.int x13), some (.int 0), some (.int (-4)), some (.int 50)]) C d_Brt_rock_47 (Nat.le_of_ble_eq_true rfl) rfl ?_
      obtain ⟨I21, ⟨n22, hn22⟩, hI21⟩ := hw
      have lI21 : ∀ (nI21 : Nat) (x17 : Int32) (x18 : Int32) (x19 : Int32) (s20 : St), I21 nI21 x17 x18 x19 s20 → V X (xQ X (fun v s' => ∃ r : Int32, v = some (.int r) ∧ Q r s')) 0 0 s20 49 [some (.ref (xa X 0)), some (.int x1), some (.int x2), some (.int x3), some (.int x13), some (.int x17), some (.int x18), some (.int x19)] [] := by
        intro nI21
        induction nI21 using Nat.strongRecOn with
        | ind nI21 ihI21 =>
          intro x17 x18 x19 s20 hv
          have hw := hI21 nI21 x17 x18 x19 s20 hv
          refine x_iload C d_Brt_rock_49 rfl ?_
          refine x_bipush (v := 10) C d_Brt_rock_51 rfl ?_
          refine x_icmp_lt (tgt := 106) C d_Brt_rock_53 (by decide) (fun c23 => ?_) (fun c23 => ?_)
          · have hw := hw.1 c23
            refine x_iload_n C d_Brt_rock_106 rfl ?_
            refine x_if_ne (tgt := 115) C d_Brt_rock_107 (by decide) (fun c24 => ?_) (fun c24 => ?_)
            · have hw := hw.1 c24
              refine x_iload C d_Brt_rock_115 rfl ?_
              exact x_ireturn C d_Brt_rock_117 ⟨_, rfl, hw⟩
            · have hw := hw.2 c24
              refine x_iload C d_Brt_rock_110 rfl ?_
              refine x_goto (tgt := 117) C d_Brt_rock_112 (by decide) ?_
              exact x_ireturn C d_Brt_rock_117 ⟨_, rfl, hw⟩
          · have hw := hw.2 c23
            refine x_aload_n C d_Brt_rock_56 rfl ?_
            refine g_Brt_2 (p := 0) C rfl fl_Brt_19 d_Brt_rock_57 ?_
            refine g_Cav_1 (p := 35) C rfl fl_Brt_127 d_Brt_rock_60 ?_
            refine g_Bod_1 (p := 45) C rfl fl_Brt_134 d_Brt_rock_63 ?_
            refine x_iload_n C d_Brt_rock_66 rfl ?_
            refine x_iload C d_Brt_rock_67 rfl ?_
            obtain ⟨h25, hw⟩ := hw
            refine x_iast (p := 46) (n := 6) C rfl h25 d_Brt_rock_69 ?_
            refine x_st (fun s26 hs26 => ?_)
            have hw := hw s26 hs26
            refine x_aload_n C d_Brt_rock_70 rfl ?_
            refine x_iload_n C d_Brt_rock_71 rfl ?_
            refine x_aload_n C d_Brt_rock_72 rfl ?_
            refine g_Brt_7 (p := 0) C rfl fl_Brt_49 d_Brt_rock_73 ?_
            refine x_iload_n C d_Brt_rock_76 rfl ?_
            obtain ⟨h27, hw⟩ := hw
            refine x_aald C h27 d_Brt_rock_77 ?_
            refine x_callV (As := [.int x1, .ref (xa X (shp x2))]) (rest := []) (p := 0) C (m_Brt_firstUnlike (xg X) C.2.2.2.2.2.2.1 x1 (shp x2) (shp_kd h27) s26 _ hw) cw_Brt_firstUnlike ml_Brt_324 rfl (by decide) (by decide) rfl rfl rfl ⟨rfl, rfl, Nat.le_of_ble_eq_true rfl, Nat.le_of_ble_eq_true rfl⟩ ⟨Nat.zero_le _, Nat.zero_le _⟩ rfl (Nat.le_of_ble_eq_true rfl) d_Brt_rock_78 ?_
            rintro _ _ ⟨x28, rfl, rfl, hw⟩
            show V X _ _ _ _ 81 [some (.ref (xa X 0)), some (.int x1), some (.int x2), some (.int x3), some (.int x13), some (.int x17), some (.int x18), some (.int x19)] [.int x28]
            refine x_aload_n C d_Brt_rock_81 rfl ?_
            refine g_Brt_7 (p := 0) C rfl fl_Brt_49 d_Brt_rock_82 ?_
            refine x_iload_n C d_Brt_rock_85 rfl ?_
            obtain ⟨h30, hw⟩ := hw
            refine x_aald C h30 d_Brt_rock_86 ?_
            refine g_She_4 (p := (shp x2)) C (shp_kd h30) fl_Brt_76 d_Brt_rock_87 ?_
            obtain ⟨J33, hJ33, hw⟩ := hw
            have kJ33 : ∀ (x31 : Int32) (x32 : Int32), J33 x31 x32 → V X (xQ X (fun v s' => ∃ r : Int32, v = some (.int r) ∧ Q r s')) 0 0 s26 100 [some (.ref (xa X 0)), some (.int x1), some (.int x2), some (.int x3), some (.int x13), some (.int x31), some (.int x32), some (.int x19)] [] := by
              intro x31 x32 hv
              have hw := hJ33 x31 x32 hv
              obtain ⟨x34, hx34⟩ : ∃ z : Int32, z = x19 + (-1) := ⟨_, rfl⟩
              refine x_iinc (v := x34) (L' := [some (.ref (xa X 0)), some (.int x1), some (.int x2), some (.int x3), some (.int x13), some (.int x31), some (.int x32), some (.int x34)]) C d_Brt_rock_100 (Nat.le_of_ble_eq_true rfl) rfl (by rw [hx34]; rfl) rfl ?_
              have hw := hw x34 hx34
              refine x_goto (tgt := 49) C d_Brt_rock_103 (by decide) ?_
              obtain ⟨m35, hm35, hw⟩ := hw
              exact x_wk (ihI21 m35 hm35 x31 x32 x34 s26 hw) (And.intro rfl (And.intro rfl (And.intro rfl (And.intro rfl (And.intro rfl (And.intro rfl (And.intro rfl (And.intro rfl (trivial)))))))))
            refine x_icmp_ne (tgt := 100) C d_Brt_rock_90 (by decide) (fun c36 => ?_) (fun c36 => ?_)
            · have hw := hw.1 c36
              exact x_wk (kJ33 x17 x18 hw) (And.intro rfl (And.intro rfl (And.intro rfl (And.intro rfl (And.intro rfl (And.intro rfl (And.intro rfl (And.intro rfl (trivial)))))))))
            · have hw := hw.2 c36
              obtain ⟨x37, hx37⟩ : ∃ z : Int32, z = x17 + 1 := ⟨_, rfl⟩
              refine x_iinc (v := x37) (L' := [some (.ref (xa X 0)), some (.int x1), some (.int x2), some (.int x3), some (.int x13), some (.int x37), some (.int x18), some (.int x19)]) C d_Brt_rock_93 (Nat.le_of_ble_eq_true rfl) rfl (by rw [hx37]; rfl) rfl ?_
              have hw := hw x37 hx37
              refine x_iload C d_Brt_rock_96 rfl ?_
              refine x_istore (L' := [some (.ref (xa X 0)), some (.int x1), some (.int x2), some (.int x3), some (.int x13), some (.int x37), some (.int x19), some (.int x19)]) C d_Brt_rock_98 (Nat.le_of_ble_eq_true rfl) rfl ?_
              exact x_wk (kJ33 x37 x19 hw) (And.intro rfl (And.intro rfl (And.intro rfl (And.intro rfl (And.intro rfl (And.intro rfl (And.intro rfl (And.intro rfl (trivial)))))))))
      exact x_wk (lI21 n22 0 (-4) 50 s16 hn22) (And.intro rfl (And.intro rfl (And.intro rfl (And.intro rfl (And.intro rfl (And.intro rfl (And.intro rfl (And.intro rfl (trivial)))))))))
    · have hw := hw.2 c15
      refine x_iload C d_Brt_rock_24 rfl ?_
      exact x_ireturn C d_Brt_rock_26 ⟨_, rfl, hw⟩
  · have hw := hw.2 c12
    refine x_iconst (v := (-1)) C d_Brt_rock_9 rfl ?_
    exact x_ireturn C d_Brt_rock_10 ⟨_, rfl, hw⟩
def vc_Brt_forged (x1 : Int32) (x2 : Int32) (s : St) (Q : Int32 → St → Prop) : Prop :=
    vc_Brt_refusalOfRock x1 x2 s (fun x10 => ((x10 = 0 → vc_Cav_become 35 1 s (fun s13 => (∃ I17 : Nat → Int32 → Int32 → St → Prop, (∃ n18, I17 n18 0 10 s13) ∧ ∀ (nI17 : Nat) (x14 : Int32) (x15 : Int32) (s16 : St), I17 nI17 x14 x15 s16 → ((50 < x15 → (vp_in x2 8 ∧ ((¬ x14 = (s16 (shp x2) 4) → Q x14 s16) ∧ (x14 = (s16 (shp x2) 4) → Q (-4) s16)))) ∧ (¬ 50 < x15 → (vp_in x1 6 ∧ (∀ s23 : St, s23 = wr s16 46 (Int32.toNatClampNeg x1) x15 → (vp_in x2 8 ∧ vc_Brt_firstUnlike x1 (shp x2) s23 (fun x25 => (∀ x27 : Int32, x27 = imax x14 x25 → (∀ x28 : Int32, x28 = x15 + 1 → ∃ m29, m29 < nI17 ∧ I17 m29 x27 x28 s23))))))))))) ∧ (¬ x10 = 0 → Q x10 s)))
def rm_Brt_forged : Room := { frames := 5, cells := 0, slots := 0, locals := 113 }
set_option maxHeartbeats 4000000 in
set_option maxRecDepth 20000 in
theorem m_Brt_forged (g : Gx) (hg : gOk g) (x1 : Int32) (x2 : Int32)  (s : St) (Q : Int32 → St → Prop) (hw : vc_Brt_forged x1 x2 s Q) : Mc g y_Brt_forged b_Brt_forged 6 (some FieldType.int) rm_Brt_forged [.ref (ga g 0), .int x1, .int x2] s (fun v s' => ∃ r : Int32, v = some (.int r) ∧ Q r s') := by
  refine mc_ofV (j := 3) (L := [some (.ref (ga g 0)), some (.int x1), some (.int x2), none, none, none]) hg (by decide) (Nat.le_of_ble_eq_true rfl) rfl ?_
  intro X hX C
  subst hX
  unfold vc_Brt_forged at hw
  refine x_aload_n C d_Brt_forged_0 rfl ?_
  refine x_iload_n C d_Brt_forged_1 rfl ?_
  refine x_iload_n C d_Brt_forged_2 rfl ?_
  refine x_callV (As := [.int x1, .int x2]) (rest := []) (p := 0) C (m_Brt_refusalOfRock (xg X) C.2.2.2.2.2.2.1 x1 x2 s _ hw) cw_Brt_refusalOfRock ml_Brt_321 rfl (by decide) (by decide) rfl rfl rfl ⟨rfl, rfl, Nat.le_of_ble_eq_true rfl, Nat.le_of_ble_eq_true rfl⟩ ⟨Nat.zero_le _, Nat.zero_le _⟩ rfl (Nat.le_of_ble_eq_true rfl) d_Brt_forged_3 ?_
  rintro _ _ ⟨x10, rfl, rfl, hw⟩
  show V X _ _ _ _ 6 [some (.ref (xa X 0)), some (.int x1), some (.int x2), none, none, none] [.int x10]
  refine x_istore_n (L' := [some (.ref (xa X 0)), some (.int x1), some (.int x2), some (.int x10), none, none]) C d_Brt_forged_6 (Nat.le_of_ble_eq_true rfl) rfl ?_
  refine x_iload_n C d_Brt_forged_7 rfl ?_
  refine x_if_eq (tgt := 13) C d_Brt_forged_8 (by decide) (fun c12 => ?_) (fun c12 => ?_)
  · have hw := hw.1 c12
    refine x_aload_n C d_Brt_forged_13 rfl ?_
    refine g_Brt_2 (p := 0) C rfl fl_Brt_19 d_Brt_forged_14 ?_
    refine x_aload_n C d_Brt_forged_17 rfl ?_
    refine g_Brt_0 (p := 0) C rfl fl_Brt_10 d_Brt_forged_18 ?_
    refine x_callV (As := [.ref (xa X 1)]) (rest := []) (p := 35) C (m_Cav_become (xg X) C.2.2.2.2.2.2.1 35 1 rfl rfl s _ hw) cw_Cav_become ml_Brt_72 rfl (by decide) (by decide) rfl rfl rfl ⟨rfl, rfl, Nat.le_of_ble_eq_true rfl, Nat.le_of_ble_eq_true rfl⟩ ⟨Nat.zero_le _, Nat.zero_le _⟩ rfl (Nat.le_of_ble_eq_true rfl) d_Brt_forged_21 ?_
    rintro _ s13 ⟨rfl, hw⟩
    show V X _ _ _ _ 24 [some (.ref (xa X 0)), some (.int x1), some (.int x2), some (.int x10), none, none] []
    refine x_iconst (v := 0) C d_Brt_forged_24 rfl ?_
    refine x_istore (L' := [some (.ref (xa X 0)), some (.int x1), some (.int x2), some (.int x10), some (.int 0), none]) C d_Brt_forged_25 (Nat.le_of_ble_eq_true rfl) rfl ?_
    refine x_bipush (v := 10) C d_Brt_forged_27 rfl ?_
    refine x_istore (L' := [some (.ref (xa X 0)), some (.int x1), some (.int x2), some (.int x10), some (.int 0), some (.int 10)]) C d_Brt_forged_29 (Nat.le_of_ble_eq_true rfl) rfl ?_
    obtain ⟨I17, ⟨n18, hn18⟩, hI17⟩ := hw
    have lI17 : ∀ (nI17 : Nat) (x14 : Int32) (x15 : Int32) (s16 : St), I17 nI17 x14 x15 s16 → V X (xQ X (fun v s' => ∃ r : Int32, v = some (.int r) ∧ Q r s')) 0 0 s16 31 [some (.ref (xa X 0)), some (.int x1), some (.int x2), some (.int x10), some (.int x14), some (.int x15)] [] := by
      intro nI17
      induction nI17 using Nat.strongRecOn with
      | ind nI17 ihI17 =>
        intro x14 x15 s16 hv
        have hw := hI17 nI17 x14 x15 s16 hv
        refine x_iload C d_Brt_forged_31 rfl ?_
        refine x_bipush (v := 50) C d_Brt_forged_33 rfl ?_
        refine x_icmp_gt (tgt := 76) C d_Brt_forged_35 (by decide) (fun c19 => ?_) (fun c19 => ?_)
        · have hw := hw.1 c19
          refine x_iload C d_Brt_forged_76 rfl ?_
          refine x_aload_n C d_Brt_forged_78 rfl ?_
          refine g_Brt_7 (p := 0) C rfl fl_Brt_49 d_Brt_forged_79 ?_
          refine x_iload_n C d_Brt_forged_82 rfl ?_
          obtain ⟨h20, hw⟩ := hw
          refine x_aald C h20 d_Brt_forged_83 ?_
          refine g_She_4 (p := (shp x2)) C (shp_kd h20) fl_Brt_76 d_Brt_forged_84 ?_
          refine x_icmp_ne (tgt := 95) C d_Brt_forged_87 (by decide) (fun c21 => ?_) (fun c21 => ?_)
          · have hw := hw.1 c21
            refine x_iload C d_Brt_forged_95 rfl ?_
            exact x_ireturn C d_Brt_forged_97 ⟨_, rfl, hw⟩
          · have hw := hw.2 c21
            refine x_bipush (v := (-4)) C d_Brt_forged_90 rfl ?_
            refine x_goto (tgt := 97) C d_Brt_forged_92 (by decide) ?_
            exact x_ireturn C d_Brt_forged_97 ⟨_, rfl, hw⟩
        · have hw := hw.2 c19
          refine x_aload_n C d_Brt_forged_38 rfl ?_
          refine g_Brt_2 (p := 0) C rfl fl_Brt_19 d_Brt_forged_39 ?_
          refine g_Cav_1 (p := 35) C rfl fl_Brt_127 d_Brt_forged_42 ?_
          refine g_Bod_1 (p := 45) C rfl fl_Brt_134 d_Brt_forged_45 ?_
          refine x_iload_n C d_Brt_forged_48 rfl ?_
          refine x_iload C d_Brt_forged_49 rfl ?_
          obtain ⟨h22, hw⟩ := hw
          refine x_iast (p := 46) (n := 6) C rfl h22 d_Brt_forged_51 ?_
          refine x_st (fun s23 hs23 => ?_)
          have hw := hw s23 hs23
          refine x_iload C d_Brt_forged_52 rfl ?_
          refine x_aload_n C d_Brt_forged_54 rfl ?_
          refine x_iload_n C d_Brt_forged_55 rfl ?_
          refine x_aload_n C d_Brt_forged_56 rfl ?_
          refine g_Brt_7 (p := 0) C rfl fl_Brt_49 d_Brt_forged_57 ?_
          refine x_iload_n C d_Brt_forged_60 rfl ?_
          obtain ⟨h24, hw⟩ := hw
          refine x_aald C h24 d_Brt_forged_61 ?_
          refine x_callV (As := [.int x1, .ref (xa X (shp x2))]) (rest := [.int x14]) (p := 0) C (m_Brt_firstUnlike (xg X) C.2.2.2.2.2.2.1 x1 (shp x2) (shp_kd h24) s23 _ hw) cw_Brt_firstUnlike ml_Brt_324 rfl (by decide) (by decide) rfl rfl rfl ⟨rfl, rfl, Nat.le_of_ble_eq_true rfl, Nat.le_of_ble_eq_true rfl⟩ ⟨Nat.zero_le _, Nat.zero_le _⟩ rfl (Nat.le_of_ble_eq_true rfl) d_Brt_forged_62 ?_
          rintro _ _ ⟨x25, rfl, rfl, hw⟩
          show V X _ _ _ _ 65 [some (.ref (xa X 0)), some (.int x1), some (.int x2), some (.int x10), some (.int x14), some (.int x15)] [.int x25, .int x14]
          refine x_mmax C ml_Brt_225 (Nat.le_of_ble_eq_true rfl) (Nat.le_of_ble_eq_true rfl) ⟨Nat.zero_le _, Nat.zero_le _⟩ d_Brt_forged_65 ?_
          refine x_nm (fun x27 hx27 => ?_)
          have hw := hw x27 hx27
          refine x_istore (L' := [some (.ref (xa X 0)), some (.int x1), some (.int x2), some (.int x10), some (.int x27), some (.int x15)]) C d_Brt_forged_68 (Nat.le_of_ble_eq_true rfl) rfl ?_
          obtain ⟨x28, hx28⟩ : ∃ z : Int32, z = x15 + 1 := ⟨_, rfl⟩
          refine x_iinc (v := x28) (L' := [some (.ref (xa X 0)), some (.int x1), some (.int x2), some (.int x10), some (.int x27), some (.int x28)]) C d_Brt_forged_70 (Nat.le_of_ble_eq_true rfl) rfl (by rw [hx28]; rfl) rfl ?_
          have hw := hw x28 hx28
          refine x_goto (tgt := 31) C d_Brt_forged_73 (by decide) ?_
          obtain ⟨m29, hm29, hw⟩ := hw
          exact x_wk (ihI17 m29 hm29 x27 x28 s23 hw) (And.intro rfl (And.intro rfl (And.intro rfl (And.intro rfl (And.intro rfl (And.intro rfl (trivial)))))))
    exact x_wk (lI17 n18 0 10 s13 hn18) (And.intro rfl (And.intro rfl (And.intro rfl (And.intro rfl (And.intro rfl (And.intro rfl (trivial)))))))
  · have hw := hw.2 c12
    refine x_iload_n C d_Brt_forged_11 rfl ?_
    exact x_ireturn C d_Brt_forged_12 ⟨_, rfl, hw⟩
