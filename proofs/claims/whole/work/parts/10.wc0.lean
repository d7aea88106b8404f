theorem d_Best_forget_0 : decode b_Best_forget 0 = .ok (.aload_n 0, 1) := by decide +kernel
theorem d_Best_forget_1 : decode b_Best_forget 1 = .ok (.iconst 0, 1) := by decide +kernel
theorem d_Best_forget_2 : decode b_Best_forget 2 = .ok (.putfield 25, 3) := by decide +kernel
theorem d_Best_forget_5 : decode b_Best_forget 5 = .ok (.return_, 1) := by decide +kernel
theorem d_Best_exchange_0 : decode b_Best_exchange 0 = .ok (.aload_n 0, 1) := by decide +kernel
theorem d_Best_exchange_1 : decode b_Best_exchange 1 = .ok (.getfield 19, 3) := by decide +kernel
theorem d_Best_exchange_4 : decode b_Best_exchange 4 = .ok (.iload_n 1, 1) := by decide +kernel
theorem d_Best_exchange_5 : decode b_Best_exchange 5 = .ok (.iaload, 1) := by decide +kernel
theorem d_Best_exchange_6 : decode b_Best_exchange 6 = .ok (.istore_n 3, 1) := by decide +kernel
theorem d_Best_exchange_7 : decode b_Best_exchange 7 = .ok (.aload_n 0, 1) := by decide +kernel
theorem d_Best_exchange_8 : decode b_Best_exchange 8 = .ok (.getfield 19, 3) := by decide +kernel
theorem d_Best_exchange_11 : decode b_Best_exchange 11 = .ok (.iload_n 1, 1) := by decide +kernel
theorem d_Best_exchange_12 : decode b_Best_exchange 12 = .ok (.aload_n 0, 1) := by decide +kernel
theorem d_Best_exchange_13 : decode b_Best_exchange 13 = .ok (.getfield 19, 3) := by decide +kernel
theorem d_Best_exchange_16 : decode b_Best_exchange 16 = .ok (.iload_n 2, 1) := by decide +kernel
theorem d_Best_exchange_17 : decode b_Best_exchange 17 = .ok (.iaload, 1) := by decide +kernel
theorem d_Best_exchange_18 : decode b_Best_exchange 18 = .ok (.iastore, 1) := by decide +kernel
theorem d_Best_exchange_19 : decode b_Best_exchange 19 = .ok (.aload_n 0, 1) := by decide +kernel
theorem d_Best_exchange_20 : decode b_Best_exchange 20 = .ok (.getfield 19, 3) := by decide +kernel
theorem d_Best_exchange_23 : decode b_Best_exchange 23 = .ok (.iload_n 2, 1) := by decide +kernel
theorem d_Best_exchange_24 : decode b_Best_exchange 24 = .ok (.iload_n 3, 1) := by decide +kernel
theorem d_Best_exchange_25 : decode b_Best_exchange 25 = .ok (.iastore, 1) := by decide +kernel
theorem d_Best_exchange_26 : decode b_Best_exchange 26 = .ok (.return_, 1) := by decide +kernel
theorem d_Best_goToNext_0 : decode b_Best_goToNext 0 = .ok (.iload_n 1, 1) := by decide +kernel
theorem d_Best_goToNext_1 : decode b_Best_goToNext 1 = .ok (.iconst 2, 1) := by decide +kernel
theorem d_Best_goToNext_2 : decode b_Best_goToNext 2 = .ok (.isub, 1) := by decide +kernel
theorem d_Best_goToNext_3 : decode b_Best_goToNext 3 = .ok (.istore_n 2, 1) := by decide +kernel
theorem d_Best_goToNext_4 : decode b_Best_goToNext 4 = .ok (.iload_n 2, 1) := by decide +kernel
theorem d_Best_goToNext_5 : decode b_Best_goToNext 5 = .ok (.ifCond .lt 26, 3) := by decide +kernel
theorem d_Best_goToNext_8 : decode b_Best_goToNext 8 = .ok (.aload_n 0, 1) := by decide +kernel
theorem d_Best_goToNext_9 : decode b_Best_goToNext 9 = .ok (.getfield 19, 3) := by decide +kernel
theorem d_Best_goToNext_12 : decode b_Best_goToNext 12 = .ok (.iload_n 2, 1) := by decide +kernel
theorem d_Best_goToNext_13 : decode b_Best_goToNext 13 = .ok (.iaload, 1) := by decide +kernel
theorem d_Best_goToNext_14 : decode b_Best_goToNext 14 = .ok (.aload_n 0, 1) := by decide +kernel
theorem d_Best_goToNext_15 : decode b_Best_goToNext 15 = .ok (.getfield 19, 3) := by decide +kernel
theorem d_Best_goToNext_18 : decode b_Best_goToNext 18 = .ok (.iload_n 2, 1) := by decide +kernel
theorem d_Best_goToNext_19 : decode b_Best_goToNext 19 = .ok (.iconst 1, 1) := by decide +kernel
theorem d_Best_goToNext_20 : decode b_Best_goToNext 20 = .ok (.iadd, 1) := by decide +kernel
theorem d_Best_goToNext_21 : decode b_Best_goToNext 21 = .ok (.iaload, 1) := by decide +kernel
theorem d_Best_goToNext_22 : decode b_Best_goToNext 22 = .ok (.if_icmp .le 9, 3) := by decide +kernel
theorem d_Best_goToNext_25 : decode b_Best_goToNext 25 = .ok (.iinc 2 (-1), 3) := by decide +kernel
theorem d_Best_goToNext_28 : decode b_Best_goToNext 28 = .ok (.goto (-24), 3) := by decide +kernel
theorem d_Best_goToNext_31 : decode b_Best_goToNext 31 = .ok (.iload_n 2, 1) := by decide +kernel
theorem d_Best_goToNext_32 : decode b_Best_goToNext 32 = .ok (.ifCond .ge 5, 3) := by decide +kernel
theorem d_Best_goToNext_35 : decode b_Best_goToNext 35 = .ok (.iconst 0, 1) := by decide +kernel
theorem d_Best_goToNext_36 : decode b_Best_goToNext 36 = .ok (.ireturn, 1) := by decide +kernel
theorem d_Best_goToNext_37 : decode b_Best_goToNext 37 = .ok (.iload_n 1, 1) := by decide +kernel
theorem d_Best_goToNext_38 : decode b_Best_goToNext 38 = .ok (.iconst 1, 1) := by decide +kernel
theorem d_Best_goToNext_39 : decode b_Best_goToNext 39 = .ok (.isub, 1) := by decide +kernel
theorem d_Best_goToNext_40 : decode b_Best_goToNext 40 = .ok (.istore_n 3, 1) := by decide +kernel
theorem d_Best_goToNext_41 : decode b_Best_goToNext 41 = .ok (.iload_n 3, 1) := by decide +kernel
theorem d_Best_goToNext_42 : decode b_Best_goToNext 42 = .ok (.iload_n 2, 1) := by decide +kernel
theorem d_Best_goToNext_43 : decode b_Best_goToNext 43 = .ok (.if_icmp .le 24, 3) := by decide +kernel
theorem d_Best_goToNext_46 : decode b_Best_goToNext 46 = .ok (.aload_n 0, 1) := by decide +kernel
theorem d_Best_goToNext_47 : decode b_Best_goToNext 47 = .ok (.getfield 19, 3) := by decide +kernel
theorem d_Best_goToNext_50 : decode b_Best_goToNext 50 = .ok (.iload_n 3, 1) := by decide +kernel
theorem d_Best_goToNext_51 : decode b_Best_goToNext 51 = .ok (.iaload, 1) := by decide +kernel
theorem d_Best_goToNext_52 : decode b_Best_goToNext 52 = .ok (.aload_n 0, 1) := by decide +kernel
theorem d_Best_goToNext_53 : decode b_Best_goToNext 53 = .ok (.getfield 19, 3) := by decide +kernel
theorem d_Best_goToNext_56 : decode b_Best_goToNext 56 = .ok (.iload_n 2, 1) := by decide +kernel
theorem d_Best_goToNext_57 : decode b_Best_goToNext 57 = .ok (.iaload, 1) := by decide +kernel
theorem d_Best_goToNext_58 : decode b_Best_goToNext 58 = .ok (.if_icmp .ge 9, 3) := by decide +kernel
theorem d_Best_goToNext_61 : decode b_Best_goToNext 61 = .ok (.iinc 3 (-1), 3) := by decide +kernel
theorem d_Best_goToNext_64 : decode b_Best_goToNext 64 = .ok (.goto (-23), 3) := by decide +kernel
theorem d_Best_goToNext_67 : decode b_Best_goToNext 67 = .ok (.aload_n 0, 1) := by decide +kernel
theorem d_Best_goToNext_68 : decode b_Best_goToNext 68 = .ok (.iload_n 2, 1) := by decide +kernel
theorem d_Best_goToNext_69 : decode b_Best_goToNext 69 = .ok (.iload_n 3, 1) := by decide +kernel
theorem d_Best_goToNext_70 : decode b_Best_goToNext 70 = .ok (.invokevirtual 71, 3) := by decide +kernel
theorem d_Best_goToNext_73 : decode b_Best_goToNext 73 = .ok (.iload_n 2, 1) := by decide +kernel
theorem d_Best_goToNext_74 : decode b_Best_goToNext 74 = .ok (.iconst 1, 1) := by decide +kernel
theorem d_Best_goToNext_75 : decode b_Best_goToNext 75 = .ok (.iadd, 1) := by decide +kernel
theorem d_Best_goToNext_76 : decode b_Best_goToNext 76 = .ok (.istore 4, 2) := by decide +kernel
theorem d_Best_goToNext_78 : decode b_Best_goToNext 78 = .ok (.iload_n 1, 1) := by decide +kernel
theorem d_Best_goToNext_79 : decode b_Best_goToNext 79 = .ok (.iconst 1, 1) := by decide +kernel
theorem d_Best_goToNext_80 : decode b_Best_goToNext 80 = .ok (.isub, 1) := by decide +kernel
theorem d_Best_goToNext_81 : decode b_Best_goToNext 81 = .ok (.istore 5, 2) := by decide +kernel
theorem d_Best_goToNext_83 : decode b_Best_goToNext 83 = .ok (.iload 4, 2) := by decide +kernel
theorem d_Best_goToNext_85 : decode b_Best_goToNext 85 = .ok (.iload 5, 2) := by decide +kernel
theorem d_Best_goToNext_87 : decode b_Best_goToNext 87 = .ok (.if_icmp .ge 20, 3) := by decide +kernel
theorem d_Best_goToNext_90 : decode b_Best_goToNext 90 = .ok (.aload_n 0, 1) := by decide +kernel
theorem d_Best_goToNext_91 : decode b_Best_goToNext 91 = .ok (.iload 4, 2) := by decide +kernel
theorem d_Best_goToNext_93 : decode b_Best_goToNext 93 = .ok (.iload 5, 2) := by decide +kernel
theorem d_Best_goToNext_95 : decode b_Best_goToNext 95 = .ok (.invokevirtual 71, 3) := by decide +kernel
theorem d_Best_goToNext_98 : decode b_Best_goToNext 98 = .ok (.iinc 4 1, 3) := by decide +kernel
theorem d_Best_goToNext_101 : decode b_Best_goToNext 101 = .ok (.iinc 5 (-1), 3) := by decide +kernel
theorem d_Best_goToNext_104 : decode b_Best_goToNext 104 = .ok (.goto (-21), 3) := by decide +kernel
theorem d_Best_goToNext_107 : decode b_Best_goToNext 107 = .ok (.iconst 1, 1) := by decide +kernel
theorem d_Best_goToNext_108 : decode b_Best_goToNext 108 = .ok (.ireturn, 1) := by decide +kernel
theorem d_Best_weigh_0 : decode b_Best_weigh 0 = .ok (.aload_n 1, 1) := by decide +kernel
theorem d_Best_weigh_1 : decode b_Best_weigh 1 = .ok (.getfield 59, 3) := by decide +kernel
theorem d_Best_weigh_4 : decode b_Best_weigh 4 = .ok (.aload_n 0, 1) := by decide +kernel
theorem d_Best_weigh_5 : decode b_Best_weigh 5 = .ok (.getfield 15, 3) := by decide +kernel
theorem d_Best_weigh_8 : decode b_Best_weigh 8 = .ok (.if_icmp .ne 18, 3) := by decide +kernel
theorem d_Best_weigh_11 : decode b_Best_weigh 11 = .ok (.aload_n 1, 1) := by decide +kernel
theorem d_Best_weigh_12 : decode b_Best_weigh 12 = .ok (.getfield 64, 3) := by decide +kernel
theorem d_Best_weigh_15 : decode b_Best_weigh 15 = .ok (.aload_n 0, 1) := by decide +kernel
theorem d_Best_weigh_16 : decode b_Best_weigh 16 = .ok (.getfield 22, 3) := by decide +kernel
theorem d_Best_weigh_19 : decode b_Best_weigh 19 = .ok (.if_icmp .ge 7, 3) := by decide +kernel
theorem d_Best_weigh_22 : decode b_Best_weigh 22 = .ok (.iconst 1, 1) := by decide +kernel
theorem d_Best_weigh_23 : decode b_Best_weigh 23 = .ok (.goto 4, 3) := by decide +kernel
theorem d_Best_weigh_26 : decode b_Best_weigh 26 = .ok (.iconst 0, 1) := by decide +kernel
theorem d_Best_weigh_27 : decode b_Best_weigh 27 = .ok (.istore_n 2, 1) := by decide +kernel
theorem d_Best_weigh_28 : decode b_Best_weigh 28 = .ok (.aload_n 1, 1) := by decide +kernel
theorem d_Best_weigh_29 : decode b_Best_weigh 29 = .ok (.getfield 59, 3) := by decide +kernel
theorem d_Best_weigh_32 : decode b_Best_weigh 32 = .ok (.aload_n 0, 1) := by decide +kernel
theorem d_Best_weigh_33 : decode b_Best_weigh 33 = .ok (.getfield 15, 3) := by decide +kernel
theorem d_Best_weigh_36 : decode b_Best_weigh 36 = .ok (.if_icmp .gt 7, 3) := by decide +kernel
theorem d_Best_weigh_39 : decode b_Best_weigh 39 = .ok (.iload_n 2, 1) := by decide +kernel
theorem d_Best_weigh_40 : decode b_Best_weigh 40 = .ok (.ifCond .eq 34, 3) := by decide +kernel
theorem d_Best_weigh_43 : decode b_Best_weigh 43 = .ok (.aload_n 0, 1) := by decide +kernel
theorem d_Best_weigh_44 : decode b_Best_weigh 44 = .ok (.aload_n 1, 1) := by decide +kernel
theorem d_Best_weigh_45 : decode b_Best_weigh 45 = .ok (.getfield 59, 3) := by decide +kernel
theorem d_Best_weigh_48 : decode b_Best_weigh 48 = .ok (.putfield 15, 3) := by decide +kernel
theorem d_Best_weigh_51 : decode b_Best_weigh 51 = .ok (.aload_n 0, 1) := by decide +kernel
theorem d_Best_weigh_52 : decode b_Best_weigh 52 = .ok (.aload_n 1, 1) := by decide +kernel
theorem d_Best_weigh_53 : decode b_Best_weigh 53 = .ok (.getfield 64, 3) := by decide +kernel
theorem d_Best_weigh_56 : decode b_Best_weigh 56 = .ok (.putfield 22, 3) := by decide +kernel
theorem d_Best_weigh_59 : decode b_Best_weigh 59 = .ok (.aload_n 0, 1) := by decide +kernel
theorem d_Best_weigh_60 : decode b_Best_weigh 60 = .ok (.getfield 19, 3) := by decide +kernel
theorem d_Best_weigh_63 : decode b_Best_weigh 63 = .ok (.iconst 0, 1) := by decide +kernel
theorem d_Best_weigh_64 : decode b_Best_weigh 64 = .ok (.aload_n 0, 1) := by decide +kernel
theorem d_Best_weigh_65 : decode b_Best_weigh 65 = .ok (.getfield 9, 3) := by decide +kernel
theorem d_Best_weigh_68 : decode b_Best_weigh 68 = .ok (.iconst 0, 1) := by decide +kernel
theorem d_Best_weigh_69 : decode b_Best_weigh 69 = .ok (.bipush 6, 2) := by decide +kernel
theorem d_Best_weigh_71 : decode b_Best_weigh 71 = .ok (.invokestatic 65, 3) := by decide +kernel
theorem d_Best_weigh_74 : decode b_Best_weigh 74 = .ok (.return_, 1) := by decide +kernel
theorem d_Leg_begin_0 : decode b_Leg_begin 0 = .ok (.aload_n 0, 1) := by decide +kernel
theorem d_Leg_begin_1 : decode b_Leg_begin 1 = .ok (.iconst 0, 1) := by decide +kernel
theorem d_Leg_begin_2 : decode b_Leg_begin 2 = .ok (.putfield 9, 3) := by decide +kernel
theorem d_Leg_begin_5 : decode b_Leg_begin 5 = .ok (.aload_n 0, 1) := by decide +kernel
theorem d_Leg_begin_6 : decode b_Leg_begin 6 = .ok (.iconst 0, 1) := by decide +kernel
theorem d_Leg_begin_7 : decode b_Leg_begin 7 = .ok (.putfield 15, 3) := by decide +kernel
theorem d_Leg_begin_10 : decode b_Leg_begin 10 = .ok (.aload_n 0, 1) := by decide +kernel
theorem d_Leg_begin_11 : decode b_Leg_begin 11 = .ok (.bipush (-4), 2) := by decide +kernel
theorem d_Leg_begin_13 : decode b_Leg_begin 13 = .ok (.putfield 18, 3) := by decide +kernel
theorem d_Leg_begin_16 : decode b_Leg_begin 16 = .ok (.aload_n 0, 1) := by decide +kernel
theorem d_Leg_begin_17 : decode b_Leg_begin 17 = .ok (.bipush (-4), 2) := by decide +kernel
theorem d_Leg_begin_19 : decode b_Leg_begin 19 = .ok (.putfield 21, 3) := by decide +kernel
theorem d_Leg_begin_22 : decode b_Leg_begin 22 = .ok (.aload_n 0, 1) := by decide +kernel
theorem d_Leg_begin_23 : decode b_Leg_begin 23 = .ok (.iload_n 1, 1) := by decide +kernel
theorem d_Leg_begin_24 : decode b_Leg_begin 24 = .ok (.putfield 24, 3) := by decide +kernel
theorem d_Leg_begin_27 : decode b_Leg_begin 27 = .ok (.aload_n 0, 1) := by decide +kernel
theorem d_Leg_begin_28 : decode b_Leg_begin 28 = .ok (.iconst 0, 1) := by decide +kernel
theorem d_Leg_begin_29 : decode b_Leg_begin 29 = .ok (.putfield 27, 3) := by decide +kernel
theorem d_Leg_begin_32 : decode b_Leg_begin 32 = .ok (.return_, 1) := by decide +kernel
theorem d_Bod_bulkOf_0 : decode b_Bod_bulkOf 0 = .ok (.iload_n 2, 1) := by decide +kernel
theorem d_Bod_bulkOf_1 : decode b_Bod_bulkOf 1 = .ok (.iconst 2, 1) := by decide +kernel
theorem d_Bod_bulkOf_2 : decode b_Bod_bulkOf 2 = .ok (.irem, 1) := by decide +kernel
theorem d_Bod_bulkOf_3 : decode b_Bod_bulkOf 3 = .ok (.ifCond .ne 7, 3) := by decide +kernel
theorem d_Bod_bulkOf_6 : decode b_Bod_bulkOf 6 = .ok (.iconst 1, 1) := by decide +kernel
theorem d_Bod_bulkOf_7 : decode b_Bod_bulkOf 7 = .ok (.goto 4, 3) := by decide +kernel
theorem d_Bod_bulkOf_10 : decode b_Bod_bulkOf 10 = .ok (.iconst 0, 1) := by decide +kernel
theorem d_Bod_bulkOf_11 : decode b_Bod_bulkOf 11 = .ok (.istore 4, 2) := by decide +kernel
theorem d_Bod_bulkOf_13 : decode b_Bod_bulkOf 13 = .ok (.aload_n 0, 1) := by decide +kernel
theorem d_Bod_bulkOf_14 : decode b_Bod_bulkOf 14 = .ok (.getfield 15, 3) := by decide +kernel
theorem d_Bod_bulkOf_17 : decode b_Bod_bulkOf 17 = .ok (.iload_n 1, 1) := by decide +kernel
theorem d_Bod_bulkOf_18 : decode b_Bod_bulkOf 18 = .ok (.iaload, 1) := by decide +kernel
theorem d_Bod_bulkOf_19 : decode b_Bod_bulkOf 19 = .ok (.iload_n 3, 1) := by decide +kernel
theorem d_Bod_bulkOf_20 : decode b_Bod_bulkOf 20 = .ok (.ifCond .eq 12, 3) := by decide +kernel
theorem d_Bod_bulkOf_23 : decode b_Bod_bulkOf 23 = .ok (.aload_n 0, 1) := by decide +kernel
theorem d_Bod_bulkOf_24 : decode b_Bod_bulkOf 24 = .ok (.getfield 19, 3) := by decide +kernel
theorem d_Bod_bulkOf_27 : decode b_Bod_bulkOf 27 = .ok (.iload_n 1, 1) := by decide +kernel
theorem d_Bod_bulkOf_28 : decode b_Bod_bulkOf 28 = .ok (.iaload, 1) := by decide +kernel
theorem d_Bod_bulkOf_29 : decode b_Bod_bulkOf 29 = .ok (.goto 4, 3) := by decide +kernel
theorem d_Bod_bulkOf_32 : decode b_Bod_bulkOf 32 = .ok (.iconst 0, 1) := by decide +kernel
theorem d_Bod_bulkOf_33 : decode b_Bod_bulkOf 33 = .ok (.isub, 1) := by decide +kernel
theorem d_Bod_bulkOf_34 : decode b_Bod_bulkOf 34 = .ok (.aload_n 0, 1) := by decide +kernel
theorem d_Bod_bulkOf_35 : decode b_Bod_bulkOf 35 = .ok (.getfield 22, 3) := by decide +kernel
theorem d_Bod_bulkOf_38 : decode b_Bod_bulkOf 38 = .ok (.iload_n 1, 1) := by decide +kernel
theorem d_Bod_bulkOf_39 : decode b_Bod_bulkOf 39 = .ok (.iaload, 1) := by decide +kernel
theorem d_Bod_bulkOf_40 : decode b_Bod_bulkOf 40 = .ok (.iconst 3, 1) := by decide +kernel
theorem d_Bod_bulkOf_41 : decode b_Bod_bulkOf 41 = .ok (.idiv, 1) := by decide +kernel
theorem d_Bod_bulkOf_42 : decode b_Bod_bulkOf 42 = .ok (.iadd, 1) := by decide +kernel
theorem d_Bod_bulkOf_43 : decode b_Bod_bulkOf 43 = .ok (.iload 4, 2) := by decide +kernel
theorem d_Bod_bulkOf_45 : decode b_Bod_bulkOf 45 = .ok (.isub, 1) := by decide +kernel
theorem d_Bod_bulkOf_46 : decode b_Bod_bulkOf 46 = .ok (.ireturn, 1) := by decide +kernel
theorem d_Cav_waterAt_0 : decode b_Cav_waterAt 0 = .ok (.iload_n 1, 1) := by decide +kernel
theorem d_Cav_waterAt_1 : decode b_Cav_waterAt 1 = .ok (.bipush 60, 2) := by decide +kernel
theorem d_Cav_waterAt_3 : decode b_Cav_waterAt 3 = .ok (.idiv, 1) := by decide +kernel
theorem d_Cav_waterAt_4 : decode b_Cav_waterAt 4 = .ok (.aload_n 0, 1) := by decide +kernel
theorem d_Cav_waterAt_5 : decode b_Cav_waterAt 5 = .ok (.getfield 25, 3) := by decide +kernel
theorem d_Cav_waterAt_8 : decode b_Cav_waterAt 8 = .ok (.imul, 1) := by decide +kernel
theorem d_Cav_waterAt_9 : decode b_Cav_waterAt 9 = .ok (.ireturn, 1) := by decide +kernel
theorem d_Yar_moreBy_0 : decode b_Yar_moreBy 0 = .ok (.iload_n 1, 1) := by decide +kernel
theorem d_Yar_moreBy_1 : decode b_Yar_moreBy 1 = .ok (.iconst 2, 1) := by decide +kernel
theorem d_Yar_moreBy_2 : decode b_Yar_moreBy 2 = .ok (.if_icmp .lt 10, 3) := by decide +kernel
theorem d_Yar_moreBy_5 : decode b_Yar_moreBy 5 = .ok (.aload_n 0, 1) := by decide +kernel
theorem d_Yar_moreBy_6 : decode b_Yar_moreBy 6 = .ok (.getfield 37, 3) := by decide +kernel
theorem d_Yar_moreBy_9 : decode b_Yar_moreBy 9 = .ok (.goto 7, 3) := by decide +kernel
theorem d_Yar_moreBy_12 : decode b_Yar_moreBy 12 = .ok (.aload_n 0, 1) := by decide +kernel
theorem d_Yar_moreBy_13 : decode b_Yar_moreBy 13 = .ok (.getfield 34, 3) := by decide +kernel
theorem d_Yar_moreBy_16 : decode b_Yar_moreBy 16 = .ok (.areturn, 1) := by decide +kernel
theorem d_Yar_roomAt_0 : decode b_Yar_roomAt 0 = .ok (.aload_n 0, 1) := by decide +kernel
theorem d_Yar_roomAt_1 : decode b_Yar_roomAt 1 = .ok (.getfield 15, 3) := by decide +kernel
theorem d_Yar_roomAt_4 : decode b_Yar_roomAt 4 = .ok (.iload_n 1, 1) := by decide +kernel
theorem d_Yar_roomAt_5 : decode b_Yar_roomAt 5 = .ok (.iaload, 1) := by decide +kernel
theorem d_Yar_roomAt_6 : decode b_Yar_roomAt 6 = .ok (.iconst 5, 1) := by decide +kernel
theorem d_Yar_roomAt_7 : decode b_Yar_roomAt 7 = .ok (.if_icmp .ne 18, 3) := by decide +kernel
theorem d_Yar_roomAt_10 : decode b_Yar_roomAt 10 = .ok (.iconst 0, 1) := by decide +kernel
theorem d_Yar_roomAt_11 : decode b_Yar_roomAt 11 = .ok (.aload_n 0, 1) := by decide +kernel
theorem d_Yar_roomAt_12 : decode b_Yar_roomAt 12 = .ok (.getfield 25, 3) := by decide +kernel
theorem d_Yar_roomAt_15 : decode b_Yar_roomAt 15 = .ok (.iload_n 1, 1) := by decide +kernel
theorem d_Yar_roomAt_16 : decode b_Yar_roomAt 16 = .ok (.iaload, 1) := by decide +kernel
theorem d_Yar_roomAt_17 : decode b_Yar_roomAt 17 = .ok (.iload_n 2, 1) := by decide +kernel
theorem d_Yar_roomAt_18 : decode b_Yar_roomAt 18 = .ok (.isub, 1) := by decide +kernel
theorem d_Yar_roomAt_19 : decode b_Yar_roomAt 19 = .ok (.invokestatic 62, 3) := by decide +kernel
theorem d_Yar_roomAt_22 : decode b_Yar_roomAt 22 = .ok (.goto 9, 3) := by decide +kernel
theorem d_Yar_roomAt_25 : decode b_Yar_roomAt 25 = .ok (.aload_n 0, 1) := by decide +kernel
theorem d_Yar_roomAt_26 : decode b_Yar_roomAt 26 = .ok (.getfield 25, 3) := by decide +kernel
theorem d_Yar_roomAt_29 : decode b_Yar_roomAt 29 = .ok (.iload_n 1, 1) := by decide +kernel
theorem d_Yar_roomAt_30 : decode b_Yar_roomAt 30 = .ok (.iaload, 1) := by decide +kernel
theorem d_Yar_roomAt_31 : decode b_Yar_roomAt 31 = .ok (.ireturn, 1) := by decide +kernel
theorem d_Leg_passOne_0 : decode b_Leg_passOne 0 = .ok (.aload_n 1, 1) := by decide +kernel
theorem d_Leg_passOne_1 : decode b_Leg_passOne 1 = .ok (.getfield 59, 3) := by decide +kernel
theorem d_Leg_passOne_4 : decode b_Leg_passOne 4 = .ok (.astore 5, 2) := by decide +kernel
theorem d_Leg_passOne_6 : decode b_Leg_passOne 6 = .ok (.aload_n 1, 1) := by decide +kernel
theorem d_Leg_passOne_7 : decode b_Leg_passOne 7 = .ok (.getfield 38, 3) := by decide +kernel
theorem d_Leg_passOne_10 : decode b_Leg_passOne 10 = .ok (.getfield 63, 3) := by decide +kernel
theorem d_Leg_passOne_13 : decode b_Leg_passOne 13 = .ok (.iload_n 2, 1) := by decide +kernel
theorem d_Leg_passOne_14 : decode b_Leg_passOne 14 = .ok (.iaload, 1) := by decide +kernel
theorem d_Leg_passOne_15 : decode b_Leg_passOne 15 = .ok (.istore 6, 2) := by decide +kernel
theorem d_Leg_passOne_17 : decode b_Leg_passOne 17 = .ok (.aload 5, 2) := by decide +kernel
theorem d_Leg_passOne_19 : decode b_Leg_passOne 19 = .ok (.iload 6, 2) := by decide +kernel
theorem d_Leg_passOne_21 : decode b_Leg_passOne 21 = .ok (.invokevirtual 66, 3) := by decide +kernel
theorem d_Leg_passOne_24 : decode b_Leg_passOne 24 = .ok (.astore 7, 2) := by decide +kernel
theorem d_Leg_passOne_26 : decode b_Leg_passOne 26 = .ok (.iload_n 3, 1) := by decide +kernel
theorem d_Leg_passOne_27 : decode b_Leg_passOne 27 = .ok (.ifCond .eq 11, 3) := by decide +kernel
theorem d_Leg_passOne_30 : decode b_Leg_passOne 30 = .ok (.aload 5, 2) := by decide +kernel
theorem d_Leg_passOne_32 : decode b_Leg_passOne 32 = .ok (.getfield 72, 3) := by decide +kernel
theorem d_Leg_passOne_35 : decode b_Leg_passOne 35 = .ok (.goto 8, 3) := by decide +kernel
theorem d_Leg_passOne_38 : decode b_Leg_passOne 38 = .ok (.aload 5, 2) := by decide +kernel
theorem d_Leg_passOne_40 : decode b_Leg_passOne 40 = .ok (.getfield 75, 3) := by decide +kernel
theorem d_Leg_passOne_43 : decode b_Leg_passOne 43 = .ok (.astore 8, 2) := by decide +kernel
theorem d_Leg_passOne_45 : decode b_Leg_passOne 45 = .ok (.aload_n 1, 1) := by decide +kernel
theorem d_Leg_passOne_46 : decode b_Leg_passOne 46 = .ok (.getfield 38, 3) := by decide +kernel
theorem d_Leg_passOne_49 : decode b_Leg_passOne 49 = .ok (.iload_n 2, 1) := by decide +kernel
theorem d_Leg_passOne_50 : decode b_Leg_passOne 50 = .ok (.iload 6, 2) := by decide +kernel
theorem d_Leg_passOne_52 : decode b_Leg_passOne 52 = .ok (.iconst 1, 1) := by decide +kernel
theorem d_Leg_passOne_53 : decode b_Leg_passOne 53 = .ok (.invokevirtual 78, 3) := by decide +kernel
theorem d_Leg_passOne_56 : decode b_Leg_passOne 56 = .ok (.istore 9, 2) := by decide +kernel
theorem d_Leg_passOne_58 : decode b_Leg_passOne 58 = .ok (.aload_n 1, 1) := by decide +kernel
theorem d_Leg_passOne_59 : decode b_Leg_passOne 59 = .ok (.getfield 38, 3) := by decide +kernel
theorem d_Leg_passOne_62 : decode b_Leg_passOne 62 = .ok (.getfield 82, 3) := by decide +kernel
theorem d_Leg_passOne_65 : decode b_Leg_passOne 65 = .ok (.iload_n 2, 1) := by decide +kernel
theorem d_Leg_passOne_66 : decode b_Leg_passOne 66 = .ok (.iaload, 1) := by decide +kernel
theorem d_Leg_passOne_67 : decode b_Leg_passOne 67 = .ok (.istore 10, 2) := by decide +kernel
theorem d_Leg_passOne_69 : decode b_Leg_passOne 69 = .ok (.iconst 0, 1) := by decide +kernel
theorem d_Leg_passOne_70 : decode b_Leg_passOne 70 = .ok (.istore 11, 2) := by decide +kernel
theorem d_Leg_passOne_72 : decode b_Leg_passOne 72 = .ok (.iload 11, 2) := by decide +kernel
theorem d_Leg_passOne_74 : decode b_Leg_passOne 74 = .ok (.aload 5, 2) := by decide +kernel
theorem d_Leg_passOne_76 : decode b_Leg_passOne 76 = .ok (.getfield 85, 3) := by decide +kernel
theorem d_Leg_passOne_79 : decode b_Leg_passOne 79 = .ok (.if_icmp .ge 136, 3) := by decide +kernel
theorem d_Leg_passOne_82 : decode b_Leg_passOne 82 = .ok (.iload_n 3, 1) := by decide +kernel
theorem d_Leg_passOne_83 : decode b_Leg_passOne 83 = .ok (.ifCond .eq 16, 3) := by decide +kernel
theorem d_Leg_passOne_86 : decode b_Leg_passOne 86 = .ok (.aload 5, 2) := by decide +kernel
theorem d_Leg_passOne_88 : decode b_Leg_passOne 88 = .ok (.getfield 85, 3) := by decide +kernel
theorem d_Leg_passOne_91 : decode b_Leg_passOne 91 = .ok (.iconst 1, 1) := by decide +kernel
theorem d_Leg_passOne_92 : decode b_Leg_passOne 92 = .ok (.isub, 1) := by decide +kernel
theorem d_Leg_passOne_93 : decode b_Leg_passOne 93 = .ok (.iload 11, 2) := by decide +kernel
theorem d_Leg_passOne_95 : decode b_Leg_passOne 95 = .ok (.isub, 1) := by decide +kernel
theorem d_Leg_passOne_96 : decode b_Leg_passOne 96 = .ok (.goto 5, 3) := by decide +kernel
theorem d_Leg_passOne_99 : decode b_Leg_passOne 99 = .ok (.iload 11, 2) := by decide +kernel
theorem d_Leg_passOne_101 : decode b_Leg_passOne 101 = .ok (.istore 12, 2) := by decide +kernel
theorem d_Leg_passOne_103 : decode b_Leg_passOne 103 = .ok (.iload 9, 2) := by decide +kernel
theorem d_Leg_passOne_105 : decode b_Leg_passOne 105 = .ok (.aload 7, 2) := by decide +kernel
theorem d_Leg_passOne_107 : decode b_Leg_passOne 107 = .ok (.iload 12, 2) := by decide +kernel
theorem d_Leg_passOne_109 : decode b_Leg_passOne 109 = .ok (.iaload, 1) := by decide +kernel
theorem d_Leg_passOne_110 : decode b_Leg_passOne 110 = .ok (.iadd, 1) := by decide +kernel
theorem d_Leg_passOne_111 : decode b_Leg_passOne 111 = .ok (.aload 5, 2) := by decide +kernel
theorem d_Leg_passOne_113 : decode b_Leg_passOne 113 = .ok (.iload 12, 2) := by decide +kernel
theorem d_Leg_passOne_115 : decode b_Leg_passOne 115 = .ok (.aload_n 1, 1) := by decide +kernel
theorem d_Leg_passOne_116 : decode b_Leg_passOne 116 = .ok (.aload_n 0, 1) := by decide +kernel
theorem d_Leg_passOne_117 : decode b_Leg_passOne 117 = .ok (.getfield 24, 3) := by decide +kernel
theorem d_Leg_passOne_120 : decode b_Leg_passOne 120 = .ok (.invokevirtual 88, 3) := by decide +kernel
theorem d_Leg_passOne_123 : decode b_Leg_passOne 123 = .ok (.invokevirtual 92, 3) := by decide +kernel
theorem d_Leg_passOne_126 : decode b_Leg_passOne 126 = .ok (.isub, 1) := by decide +kernel
theorem d_Leg_passOne_127 : decode b_Leg_passOne 127 = .ok (.istore 13, 2) := by decide +kernel
theorem d_Leg_passOne_129 : decode b_Leg_passOne 129 = .ok (.iload 13, 2) := by decide +kernel
theorem d_Leg_passOne_131 : decode b_Leg_passOne 131 = .ok (.iload 4, 2) := by decide +kernel
theorem d_Leg_passOne_133 : decode b_Leg_passOne 133 = .ok (.if_icmp .le 15, 3) := by decide +kernel
theorem d_Leg_passOne_136 : decode b_Leg_passOne 136 = .ok (.aload_n 0, 1) := by decide +kernel
theorem d_Leg_passOne_137 : decode b_Leg_passOne 137 = .ok (.iload_n 2, 1) := by decide +kernel
theorem d_Leg_passOne_138 : decode b_Leg_passOne 138 = .ok (.putfield 18, 3) := by decide +kernel
theorem d_Leg_passOne_141 : decode b_Leg_passOne 141 = .ok (.aload_n 0, 1) := by decide +kernel
theorem d_Leg_passOne_142 : decode b_Leg_passOne 142 = .ok (.iload 12, 2) := by decide +kernel
theorem d_Leg_passOne_144 : decode b_Leg_passOne 144 = .ok (.putfield 21, 3) := by decide +kernel
theorem d_Leg_passOne_147 : decode b_Leg_passOne 147 = .ok (.return_, 1) := by decide +kernel
theorem d_Leg_passOne_148 : decode b_Leg_passOne 148 = .ok (.aload_n 0, 1) := by decide +kernel
theorem d_Leg_passOne_149 : decode b_Leg_passOne 149 = .ok (.dup, 1) := by decide +kernel
theorem d_Leg_passOne_150 : decode b_Leg_passOne 150 = .ok (.getfield 24, 3) := by decide +kernel
theorem d_Leg_passOne_153 : decode b_Leg_passOne 153 = .ok (.aload 8, 2) := by decide +kernel
theorem d_Leg_passOne_155 : decode b_Leg_passOne 155 = .ok (.iload 12, 2) := by decide +kernel
theorem d_Leg_passOne_157 : decode b_Leg_passOne 157 = .ok (.iaload, 1) := by decide +kernel
theorem d_Leg_passOne_158 : decode b_Leg_passOne 158 = .ok (.iadd, 1) := by decide +kernel
theorem d_Leg_passOne_159 : decode b_Leg_passOne 159 = .ok (.putfield 24, 3) := by decide +kernel
theorem d_Leg_passOne_162 : decode b_Leg_passOne 162 = .ok (.iload 13, 2) := by decide +kernel
theorem d_Leg_passOne_164 : decode b_Leg_passOne 164 = .ok (.ifCond .le 17, 3) := by decide +kernel
theorem d_Leg_passOne_167 : decode b_Leg_passOne 167 = .ok (.aload_n 0, 1) := by decide +kernel
theorem d_Leg_passOne_168 : decode b_Leg_passOne 168 = .ok (.dup, 1) := by decide +kernel
theorem d_Leg_passOne_169 : decode b_Leg_passOne 169 = .ok (.getfield 24, 3) := by decide +kernel
theorem d_Leg_passOne_172 : decode b_Leg_passOne 172 = .ok (.bipush 10, 2) := by decide +kernel
theorem d_Leg_passOne_174 : decode b_Leg_passOne 174 = .ok (.iadd, 1) := by decide +kernel
theorem d_Leg_passOne_175 : decode b_Leg_passOne 175 = .ok (.putfield 24, 3) := by decide +kernel
theorem d_Leg_passOne_178 : decode b_Leg_passOne 178 = .ok (.goto 31, 3) := by decide +kernel
theorem d_Leg_passOne_181 : decode b_Leg_passOne 181 = .ok (.iload 13, 2) := by decide +kernel
theorem d_Leg_passOne_183 : decode b_Leg_passOne 183 = .ok (.iload 10, 2) := by decide +kernel
theorem d_Leg_passOne_185 : decode b_Leg_passOne 185 = .ok (.iadd, 1) := by decide +kernel
theorem d_Leg_passOne_186 : decode b_Leg_passOne 186 = .ok (.ifCond .le 23, 3) := by decide +kernel
theorem d_Leg_passOne_189 : decode b_Leg_passOne 189 = .ok (.aload_n 0, 1) := by decide +kernel
theorem d_Leg_passOne_190 : decode b_Leg_passOne 190 = .ok (.dup, 1) := by decide +kernel
theorem d_Leg_passOne_191 : decode b_Leg_passOne 191 = .ok (.getfield 24, 3) := by decide +kernel
theorem d_Leg_passOne_194 : decode b_Leg_passOne 194 = .ok (.iconst 1, 1) := by decide +kernel
theorem d_Leg_passOne_195 : decode b_Leg_passOne 195 = .ok (.iadd, 1) := by decide +kernel
theorem d_Leg_passOne_196 : decode b_Leg_passOne 196 = .ok (.putfield 24, 3) := by decide +kernel
theorem d_Leg_passOne_199 : decode b_Leg_passOne 199 = .ok (.aload_n 0, 1) := by decide +kernel
theorem d_Leg_passOne_200 : decode b_Leg_passOne 200 = .ok (.dup, 1) := by decide +kernel
theorem d_Leg_passOne_201 : decode b_Leg_passOne 201 = .ok (.getfield 27, 3) := by decide +kernel
theorem d_Leg_passOne_204 : decode b_Leg_passOne 204 = .ok (.iconst 1, 1) := by decide +kernel
theorem d_Leg_passOne_205 : decode b_Leg_passOne 205 = .ok (.iadd, 1) := by decide +kernel
theorem d_Leg_passOne_206 : decode b_Leg_passOne 206 = .ok (.putfield 27, 3) := by decide +kernel
theorem d_Leg_passOne_209 : decode b_Leg_passOne 209 = .ok (.iinc 11 1, 3) := by decide +kernel
theorem d_Leg_passOne_212 : decode b_Leg_passOne 212 = .ok (.goto (-140), 3) := by decide +kernel
theorem d_Leg_passOne_215 : decode b_Leg_passOne 215 = .ok (.return_, 1) := by decide +kernel
theorem d_Leg_passAll_0 : decode b_Leg_passAll 0 = .ok (.aload_n 0, 1) := by decide +kernel
theorem d_Leg_passAll_1 : decode b_Leg_passAll 1 = .ok (.iload 5, 2) := by decide +kernel
theorem d_Leg_passAll_3 : decode b_Leg_passAll 3 = .ok (.invokevirtual 34, 3) := by decide +kernel
theorem d_Leg_passAll_6 : decode b_Leg_passAll 6 = .ok (.aload_n 1, 1) := by decide +kernel
theorem d_Leg_passAll_7 : decode b_Leg_passAll 7 = .ok (.getfield 38, 3) := by decide +kernel
theorem d_Leg_passAll_10 : decode b_Leg_passAll 10 = .ok (.getfield 44, 3) := by decide +kernel
theorem d_Leg_passAll_13 : decode b_Leg_passAll 13 = .ok (.astore 6, 2) := by decide +kernel
theorem d_Leg_passAll_15 : decode b_Leg_passAll 15 = .ok (.iconst 0, 1) := by decide +kernel
theorem d_Leg_passAll_16 : decode b_Leg_passAll 16 = .ok (.istore 7, 2) := by decide +kernel
theorem d_Leg_passAll_18 : decode b_Leg_passAll 18 = .ok (.iconst 0, 1) := by decide +kernel
theorem d_Leg_passAll_19 : decode b_Leg_passAll 19 = .ok (.istore 8, 2) := by decide +kernel
theorem d_Leg_passAll_21 : decode b_Leg_passAll 21 = .ok (.iload 8, 2) := by decide +kernel
theorem d_Leg_passAll_23 : decode b_Leg_passAll 23 = .ok (.iload_n 3, 1) := by decide +kernel
theorem d_Leg_passAll_24 : decode b_Leg_passAll 24 = .ok (.if_icmp .ge 149, 3) := by decide +kernel
theorem d_Leg_passAll_27 : decode b_Leg_passAll 27 = .ok (.aload_n 0, 1) := by decide +kernel
theorem d_Leg_passAll_28 : decode b_Leg_passAll 28 = .ok (.getfield 18, 3) := by decide +kernel
theorem d_Leg_passAll_31 : decode b_Leg_passAll 31 = .ok (.bipush (-4), 2) := by decide +kernel
theorem d_Leg_passAll_33 : decode b_Leg_passAll 33 = .ok (.if_icmp .ne 140, 3) := by decide +kernel
theorem d_Leg_passAll_36 : decode b_Leg_passAll 36 = .ok (.aload_n 2, 1) := by decide +kernel
theorem d_Leg_passAll_37 : decode b_Leg_passAll 37 = .ok (.iload 4, 2) := by decide +kernel
theorem d_Leg_passAll_39 : decode b_Leg_passAll 39 = .ok (.ifCond .eq 12, 3) := by decide +kernel
theorem d_Leg_passAll_42 : decode b_Leg_passAll 42 = .ok (.iload_n 3, 1) := by decide +kernel
theorem d_Leg_passAll_43 : decode b_Leg_passAll 43 = .ok (.iconst 1, 1) := by decide +kernel
theorem d_Leg_passAll_44 : decode b_Leg_passAll 44 = .ok (.isub, 1) := by decide +kernel
theorem d_Leg_passAll_45 : decode b_Leg_passAll 45 = .ok (.iload 8, 2) := by decide +kernel
theorem d_Leg_passAll_47 : decode b_Leg_passAll 47 = .ok (.isub, 1) := by decide +kernel
theorem d_Leg_passAll_48 : decode b_Leg_passAll 48 = .ok (.goto 5, 3) := by decide +kernel
theorem d_Leg_passAll_51 : decode b_Leg_passAll 51 = .ok (.iload 8, 2) := by decide +kernel
theorem d_Leg_passAll_53 : decode b_Leg_passAll 53 = .ok (.iaload, 1) := by decide +kernel
theorem d_Leg_passAll_54 : decode b_Leg_passAll 54 = .ok (.istore 9, 2) := by decide +kernel
theorem d_Leg_passAll_56 : decode b_Leg_passAll 56 = .ok (.iconst 0, 1) := by decide +kernel
theorem d_Leg_passAll_57 : decode b_Leg_passAll 57 = .ok (.istore 10, 2) := by decide +kernel
theorem d_Leg_passAll_59 : decode b_Leg_passAll 59 = .ok (.iload 8, 2) := by decide +kernel
theorem d_Leg_passAll_61 : decode b_Leg_passAll 61 = .ok (.iconst 1, 1) := by decide +kernel
theorem d_Leg_passAll_62 : decode b_Leg_passAll 62 = .ok (.iadd, 1) := by decide +kernel
theorem d_Leg_passAll_63 : decode b_Leg_passAll 63 = .ok (.iload_n 3, 1) := by decide +kernel
theorem d_Leg_passAll_64 : decode b_Leg_passAll 64 = .ok (.if_icmp .ge 30, 3) := by decide +kernel
theorem d_Leg_passAll_67 : decode b_Leg_passAll 67 = .ok (.aload 6, 2) := by decide +kernel
theorem d_Leg_passAll_69 : decode b_Leg_passAll 69 = .ok (.aload_n 2, 1) := by decide +kernel
theorem d_Leg_passAll_70 : decode b_Leg_passAll 70 = .ok (.iload 4, 2) := by decide +kernel
theorem d_Leg_passAll_72 : decode b_Leg_passAll 72 = .ok (.ifCond .eq 12, 3) := by decide +kernel
theorem d_Leg_passAll_75 : decode b_Leg_passAll 75 = .ok (.iload_n 3, 1) := by decide +kernel
theorem d_Leg_passAll_76 : decode b_Leg_passAll 76 = .ok (.iconst 2, 1) := by decide +kernel
theorem d_Leg_passAll_77 : decode b_Leg_passAll 77 = .ok (.isub, 1) := by decide +kernel
theorem d_Leg_passAll_78 : decode b_Leg_passAll 78 = .ok (.iload 8, 2) := by decide +kernel
theorem d_Leg_passAll_80 : decode b_Leg_passAll 80 = .ok (.isub, 1) := by decide +kernel
theorem d_Leg_passAll_81 : decode b_Leg_passAll 81 = .ok (.goto 7, 3) := by decide +kernel
theorem d_Leg_passAll_84 : decode b_Leg_passAll 84 = .ok (.iload 8, 2) := by decide +kernel
theorem d_Leg_passAll_86 : decode b_Leg_passAll 86 = .ok (.iconst 1, 1) := by decide +kernel
theorem d_Leg_passAll_87 : decode b_Leg_passAll 87 = .ok (.iadd, 1) := by decide +kernel
theorem d_Leg_passAll_88 : decode b_Leg_passAll 88 = .ok (.iaload, 1) := by decide +kernel
theorem d_Leg_passAll_89 : decode b_Leg_passAll 89 = .ok (.iaload, 1) := by decide +kernel
theorem d_Leg_passAll_90 : decode b_Leg_passAll 90 = .ok (.iconst 3, 1) := by decide +kernel
theorem d_Leg_passAll_91 : decode b_Leg_passAll 91 = .ok (.idiv, 1) := by decide +kernel
theorem d_Leg_passAll_92 : decode b_Leg_passAll 92 = .ok (.istore 10, 2) := by decide +kernel
theorem d_Leg_passAll_94 : decode b_Leg_passAll 94 = .ok (.aload_n 0, 1) := by decide +kernel
theorem d_Leg_passAll_95 : decode b_Leg_passAll 95 = .ok (.aload_n 1, 1) := by decide +kernel
theorem d_Leg_passAll_96 : decode b_Leg_passAll 96 = .ok (.iload 9, 2) := by decide +kernel
theorem d_Leg_passAll_98 : decode b_Leg_passAll 98 = .ok (.iload 4, 2) := by decide +kernel
theorem d_Leg_passAll_100 : decode b_Leg_passAll 100 = .ok (.iload 7, 2) := by decide +kernel
theorem d_Leg_passAll_102 : decode b_Leg_passAll 102 = .ok (.iconst 3, 1) := by decide +kernel
theorem d_Leg_passAll_103 : decode b_Leg_passAll 103 = .ok (.idiv, 1) := by decide +kernel
theorem d_Leg_passAll_104 : decode b_Leg_passAll 104 = .ok (.iload 10, 2) := by decide +kernel
theorem d_Leg_passAll_106 : decode b_Leg_passAll 106 = .ok (.iadd, 1) := by decide +kernel
theorem d_Leg_passAll_107 : decode b_Leg_passAll 107 = .ok (.invokevirtual 49, 3) := by decide +kernel
theorem d_Leg_passAll_110 : decode b_Leg_passAll 110 = .ok (.aload_n 0, 1) := by decide +kernel
theorem d_Leg_passAll_111 : decode b_Leg_passAll 111 = .ok (.getfield 18, 3) := by decide +kernel
theorem d_Leg_passAll_114 : decode b_Leg_passAll 114 = .ok (.bipush (-4), 2) := by decide +kernel
theorem d_Leg_passAll_116 : decode b_Leg_passAll 116 = .ok (.if_icmp .ne 51, 3) := by decide +kernel
theorem d_Leg_passAll_119 : decode b_Leg_passAll 119 = .ok (.aload_n 0, 1) := by decide +kernel
theorem d_Leg_passAll_120 : decode b_Leg_passAll 120 = .ok (.dup, 1) := by decide +kernel
theorem d_Leg_passAll_121 : decode b_Leg_passAll 121 = .ok (.getfield 9, 3) := by decide +kernel
theorem d_Leg_passAll_124 : decode b_Leg_passAll 124 = .ok (.iconst 1, 1) := by decide +kernel
theorem d_Leg_passAll_125 : decode b_Leg_passAll 125 = .ok (.iload 9, 2) := by decide +kernel
theorem d_Leg_passAll_127 : decode b_Leg_passAll 127 = .ok (.ishl, 1) := by decide +kernel
theorem d_Leg_passAll_128 : decode b_Leg_passAll 128 = .ok (.ior, 1) := by decide +kernel
theorem d_Leg_passAll_129 : decode b_Leg_passAll 129 = .ok (.putfield 9, 3) := by decide +kernel
theorem d_Leg_passAll_132 : decode b_Leg_passAll 132 = .ok (.aload_n 0, 1) := by decide +kernel
theorem d_Leg_passAll_133 : decode b_Leg_passAll 133 = .ok (.getfield 30, 3) := by decide +kernel
theorem d_Leg_passAll_136 : decode b_Leg_passAll 136 = .ok (.aload_n 0, 1) := by decide +kernel
theorem d_Leg_passAll_137 : decode b_Leg_passAll 137 = .ok (.getfield 15, 3) := by decide +kernel
theorem d_Leg_passAll_140 : decode b_Leg_passAll 140 = .ok (.aload_n 0, 1) := by decide +kernel
theorem d_Leg_passAll_141 : decode b_Leg_passAll 141 = .ok (.getfield 24, 3) := by decide +kernel
theorem d_Leg_passAll_144 : decode b_Leg_passAll 144 = .ok (.iastore, 1) := by decide +kernel
theorem d_Leg_passAll_145 : decode b_Leg_passAll 145 = .ok (.aload_n 0, 1) := by decide +kernel
theorem d_Leg_passAll_146 : decode b_Leg_passAll 146 = .ok (.dup, 1) := by decide +kernel
theorem d_Leg_passAll_147 : decode b_Leg_passAll 147 = .ok (.getfield 15, 3) := by decide +kernel
theorem d_Leg_passAll_150 : decode b_Leg_passAll 150 = .ok (.iconst 1, 1) := by decide +kernel
theorem d_Leg_passAll_151 : decode b_Leg_passAll 151 = .ok (.iadd, 1) := by decide +kernel
theorem d_Leg_passAll_152 : decode b_Leg_passAll 152 = .ok (.putfield 15, 3) := by decide +kernel
theorem d_Leg_passAll_155 : decode b_Leg_passAll 155 = .ok (.iload 7, 2) := by decide +kernel
theorem d_Leg_passAll_157 : decode b_Leg_passAll 157 = .ok (.aload 6, 2) := by decide +kernel
theorem d_Leg_passAll_159 : decode b_Leg_passAll 159 = .ok (.iload 9, 2) := by decide +kernel
theorem d_Leg_passAll_161 : decode b_Leg_passAll 161 = .ok (.iaload, 1) := by decide +kernel
theorem d_Leg_passAll_162 : decode b_Leg_passAll 162 = .ok (.invokestatic 53, 3) := by decide +kernel
theorem d_Leg_passAll_165 : decode b_Leg_passAll 165 = .ok (.istore 7, 2) := by decide +kernel
theorem d_Leg_passAll_167 : decode b_Leg_passAll 167 = .ok (.iinc 8 1, 3) := by decide +kernel
theorem d_Leg_passAll_170 : decode b_Leg_passAll 170 = .ok (.goto (-149), 3) := by decide +kernel
theorem d_Leg_passAll_173 : decode b_Leg_passAll 173 = .ok (.return_, 1) := by decide +kernel
theorem d_Tri_thereAndBack_0 : decode b_Tri_thereAndBack 0 = .ok (.aload_n 0, 1) := by decide +kernel
theorem d_Tri_thereAndBack_1 : decode b_Tri_thereAndBack 1 = .ok (.getfield 12, 3) := by decide +kernel
theorem d_Tri_thereAndBack_4 : decode b_Tri_thereAndBack 4 = .ok (.aload_n 1, 1) := by decide +kernel
theorem d_Tri_thereAndBack_5 : decode b_Tri_thereAndBack 5 = .ok (.aload_n 2, 1) := by decide +kernel
theorem d_Tri_thereAndBack_6 : decode b_Tri_thereAndBack 6 = .ok (.iload_n 3, 1) := by decide +kernel
theorem d_Tri_thereAndBack_7 : decode b_Tri_thereAndBack 7 = .ok (.iconst 0, 1) := by decide +kernel
theorem d_Tri_thereAndBack_8 : decode b_Tri_thereAndBack 8 = .ok (.iload 4, 2) := by decide +kernel
theorem d_Tri_thereAndBack_10 : decode b_Tri_thereAndBack 10 = .ok (.invokevirtual 25, 3) := by decide +kernel
theorem d_Tri_thereAndBack_13 : decode b_Tri_thereAndBack 13 = .ok (.aload_n 0, 1) := by decide +kernel
theorem d_Tri_thereAndBack_14 : decode b_Tri_thereAndBack 14 = .ok (.getfield 12, 3) := by decide +kernel
theorem d_Tri_thereAndBack_17 : decode b_Tri_thereAndBack 17 = .ok (.getfield 29, 3) := by decide +kernel
theorem d_Tri_thereAndBack_20 : decode b_Tri_thereAndBack 20 = .ok (.bipush (-4), 2) := by decide +kernel
theorem d_Tri_thereAndBack_22 : decode b_Tri_thereAndBack 22 = .ok (.if_icmp .eq 19, 3) := by decide +kernel
theorem d_Tri_thereAndBack_25 : decode b_Tri_thereAndBack 25 = .ok (.aload_n 0, 1) := by decide +kernel
theorem d_Tri_thereAndBack_26 : decode b_Tri_thereAndBack 26 = .ok (.getfield 18, 3) := by decide +kernel
theorem d_Tri_thereAndBack_29 : decode b_Tri_thereAndBack 29 = .ok (.aload_n 0, 1) := by decide +kernel
theorem d_Tri_thereAndBack_30 : decode b_Tri_thereAndBack 30 = .ok (.getfield 12, 3) := by decide +kernel
theorem d_Tri_thereAndBack_33 : decode b_Tri_thereAndBack 33 = .ok (.getfield 33, 3) := by decide +kernel
theorem d_Tri_thereAndBack_36 : decode b_Tri_thereAndBack 36 = .ok (.invokevirtual 36, 3) := by decide +kernel
theorem d_Tri_thereAndBack_39 : decode b_Tri_thereAndBack 39 = .ok (.iconst 0, 1) := by decide +kernel
theorem d_Tri_thereAndBack_40 : decode b_Tri_thereAndBack 40 = .ok (.ireturn, 1) := by decide +kernel
theorem d_Tri_thereAndBack_41 : decode b_Tri_thereAndBack 41 = .ok (.aload_n 0, 1) := by decide +kernel
theorem d_Tri_thereAndBack_42 : decode b_Tri_thereAndBack 42 = .ok (.getfield 18, 3) := by decide +kernel
theorem d_Tri_thereAndBack_45 : decode b_Tri_thereAndBack 45 = .ok (.aload_n 1, 1) := by decide +kernel
theorem d_Tri_thereAndBack_46 : decode b_Tri_thereAndBack 46 = .ok (.aload_n 2, 1) := by decide +kernel
theorem d_Tri_thereAndBack_47 : decode b_Tri_thereAndBack 47 = .ok (.iload_n 3, 1) := by decide +kernel
theorem d_Tri_thereAndBack_48 : decode b_Tri_thereAndBack 48 = .ok (.iconst 1, 1) := by decide +kernel
theorem d_Tri_thereAndBack_49 : decode b_Tri_thereAndBack 49 = .ok (.aload_n 0, 1) := by decide +kernel
theorem d_Tri_thereAndBack_50 : decode b_Tri_thereAndBack 50 = .ok (.getfield 12, 3) := by decide +kernel
theorem d_Tri_thereAndBack_53 : decode b_Tri_thereAndBack 53 = .ok (.getfield 33, 3) := by decide +kernel
theorem d_Tri_thereAndBack_56 : decode b_Tri_thereAndBack 56 = .ok (.invokevirtual 25, 3) := by decide +kernel
theorem d_Tri_thereAndBack_59 : decode b_Tri_thereAndBack 59 = .ok (.aload_n 0, 1) := by decide +kernel
theorem d_Tri_thereAndBack_60 : decode b_Tri_thereAndBack 60 = .ok (.getfield 18, 3) := by decide +kernel
theorem d_Tri_thereAndBack_63 : decode b_Tri_thereAndBack 63 = .ok (.getfield 29, 3) := by decide +kernel
theorem d_Tri_thereAndBack_66 : decode b_Tri_thereAndBack 66 = .ok (.bipush (-4), 2) := by decide +kernel
theorem d_Tri_thereAndBack_68 : decode b_Tri_thereAndBack 68 = .ok (.if_icmp .ne 7, 3) := by decide +kernel
theorem d_Tri_thereAndBack_71 : decode b_Tri_thereAndBack 71 = .ok (.iconst 1, 1) := by decide +kernel
theorem d_Tri_thereAndBack_72 : decode b_Tri_thereAndBack 72 = .ok (.goto 4, 3) := by decide +kernel
theorem d_Tri_thereAndBack_75 : decode b_Tri_thereAndBack 75 = .ok (.iconst 0, 1) := by decide +kernel
theorem d_Tri_thereAndBack_76 : decode b_Tri_thereAndBack 76 = .ok (.ireturn, 1) := by decide +kernel
theorem d_Best_find_0 : decode b_Best_find 0 = .ok (.aload_n 0, 1) := by decide +kernel
theorem d_Best_find_1 : decode b_Best_find 1 = .ok (.getfield 25, 3) := by decide +kernel
theorem d_Best_find_4 : decode b_Best_find 4 = .ok (.ifCond .eq 4, 3) := by decide +kernel
theorem d_Best_find_7 : decode b_Best_find 7 = .ok (.return_, 1) := by decide +kernel
theorem d_Best_find_8 : decode b_Best_find 8 = .ok (.aload_n 1, 1) := by decide +kernel
theorem d_Best_find_9 : decode b_Best_find 9 = .ok (.getfield 29, 3) := by decide +kernel
theorem d_Best_find_12 : decode b_Best_find 12 = .ok (.getfield 35, 3) := by decide +kernel
theorem d_Best_find_15 : decode b_Best_find 15 = .ok (.istore_n 3, 1) := by decide +kernel
theorem d_Best_find_16 : decode b_Best_find 16 = .ok (.iconst 0, 1) := by decide +kernel
theorem d_Best_find_17 : decode b_Best_find 17 = .ok (.istore 4, 2) := by decide +kernel
theorem d_Best_find_19 : decode b_Best_find 19 = .ok (.iload 4, 2) := by decide +kernel
theorem d_Best_find_21 : decode b_Best_find 21 = .ok (.iload_n 3, 1) := by decide +kernel
theorem d_Best_find_22 : decode b_Best_find 22 = .ok (.if_icmp .ge 18, 3) := by decide +kernel
theorem d_Best_find_25 : decode b_Best_find 25 = .ok (.aload_n 0, 1) := by decide +kernel
theorem d_Best_find_26 : decode b_Best_find 26 = .ok (.getfield 19, 3) := by decide +kernel
theorem d_Best_find_29 : decode b_Best_find 29 = .ok (.iload 4, 2) := by decide +kernel
theorem d_Best_find_31 : decode b_Best_find 31 = .ok (.iload 4, 2) := by decide +kernel
theorem d_Best_find_33 : decode b_Best_find 33 = .ok (.iastore, 1) := by decide +kernel
theorem d_Best_find_34 : decode b_Best_find 34 = .ok (.iinc 4 1, 3) := by decide +kernel
theorem d_Best_find_37 : decode b_Best_find 37 = .ok (.goto (-18), 3) := by decide +kernel
theorem d_Best_find_40 : decode b_Best_find 40 = .ok (.aload_n 0, 1) := by decide +kernel
theorem d_Best_find_41 : decode b_Best_find 41 = .ok (.iconst (-1), 1) := by decide +kernel
theorem d_Best_find_42 : decode b_Best_find 42 = .ok (.putfield 15, 3) := by decide +kernel
theorem d_Best_find_45 : decode b_Best_find 45 = .ok (.iconst 1, 1) := by decide +kernel
theorem d_Best_find_46 : decode b_Best_find 46 = .ok (.istore 4, 2) := by decide +kernel
theorem d_Best_find_48 : decode b_Best_find 48 = .ok (.iconst 0, 1) := by decide +kernel
theorem d_Best_find_49 : decode b_Best_find 49 = .ok (.istore 5, 2) := by decide +kernel
theorem d_Best_find_51 : decode b_Best_find 51 = .ok (.iload 4, 2) := by decide +kernel
theorem d_Best_find_53 : decode b_Best_find 53 = .ok (.ifCond .eq 47, 3) := by decide +kernel
theorem d_Best_find_56 : decode b_Best_find 56 = .ok (.iload 5, 2) := by decide +kernel
theorem d_Best_find_58 : decode b_Best_find 58 = .ok (.sipush 720, 3) := by decide +kernel
theorem d_Best_find_61 : decode b_Best_find 61 = .ok (.if_icmp .ge 39, 3) := by decide +kernel
theorem d_Best_find_64 : decode b_Best_find 64 = .ok (.aload_n 2, 1) := by decide +kernel
theorem d_Best_find_65 : decode b_Best_find 65 = .ok (.aload_n 1, 1) := by decide +kernel
theorem d_Best_find_66 : decode b_Best_find 66 = .ok (.aload_n 0, 1) := by decide +kernel
theorem d_Best_find_67 : decode b_Best_find 67 = .ok (.getfield 19, 3) := by decide +kernel
theorem d_Best_find_70 : decode b_Best_find 70 = .ok (.iload_n 3, 1) := by decide +kernel
theorem d_Best_find_71 : decode b_Best_find 71 = .ok (.aload_n 1, 1) := by decide +kernel
theorem d_Best_find_72 : decode b_Best_find 72 = .ok (.getfield 40, 3) := by decide +kernel
theorem d_Best_find_75 : decode b_Best_find 75 = .ok (.invokevirtual 41, 3) := by decide +kernel
theorem d_Best_find_78 : decode b_Best_find 78 = .ok (.pop, 1) := by decide +kernel
theorem d_Best_find_79 : decode b_Best_find 79 = .ok (.aload_n 0, 1) := by decide +kernel
theorem d_Best_find_80 : decode b_Best_find 80 = .ok (.aload_n 2, 1) := by decide +kernel
theorem d_Best_find_81 : decode b_Best_find 81 = .ok (.getfield 47, 3) := by decide +kernel
theorem d_Best_find_84 : decode b_Best_find 84 = .ok (.invokevirtual 51, 3) := by decide +kernel
theorem d_Best_find_87 : decode b_Best_find 87 = .ok (.aload_n 0, 1) := by decide +kernel
theorem d_Best_find_88 : decode b_Best_find 88 = .ok (.iload_n 3, 1) := by decide +kernel
theorem d_Best_find_89 : decode b_Best_find 89 = .ok (.invokevirtual 55, 3) := by decide +kernel
theorem d_Best_find_92 : decode b_Best_find 92 = .ok (.istore 4, 2) := by decide +kernel
theorem d_Best_find_94 : decode b_Best_find 94 = .ok (.iinc 5 1, 3) := by decide +kernel
theorem d_Best_find_97 : decode b_Best_find 97 = .ok (.goto (-46), 3) := by decide +kernel
theorem d_Best_find_100 : decode b_Best_find 100 = .ok (.aload_n 0, 1) := by decide +kernel
theorem d_Best_find_101 : decode b_Best_find 101 = .ok (.iconst 1, 1) := by decide +kernel
theorem d_Best_find_102 : decode b_Best_find 102 = .ok (.putfield 25, 3) := by decide +kernel
theorem d_Best_find_105 : decode b_Best_find 105 = .ok (.return_, 1) := by decide +kernel
theorem d_Brt_within_0 : decode b_Brt_within 0 = .ok (.iload_n 0, 1) := by decide +kernel
theorem d_Brt_within_1 : decode b_Brt_within 1 = .ok (.iload_n 1, 1) := by decide +kernel
theorem d_Brt_within_2 : decode b_Brt_within 2 = .ok (.if_icmp .lt 12, 3) := by decide +kernel
theorem d_Brt_within_5 : decode b_Brt_within 5 = .ok (.iload_n 0, 1) := by decide +kernel
theorem d_Brt_within_6 : decode b_Brt_within 6 = .ok (.iload_n 2, 1) := by decide +kernel
theorem d_Brt_within_7 : decode b_Brt_within 7 = .ok (.if_icmp .gt 7, 3) := by decide +kernel
theorem d_Brt_within_10 : decode b_Brt_within 10 = .ok (.iconst 1, 1) := by decide +kernel
theorem d_Brt_within_11 : decode b_Brt_within 11 = .ok (.goto 4, 3) := by decide +kernel
theorem d_Brt_within_14 : decode b_Brt_within 14 = .ok (.iconst 0, 1) := by decide +kernel
theorem d_Brt_within_15 : decode b_Brt_within 15 = .ok (.ireturn, 1) := by decide +kernel
theorem d_Bod_has_0 : decode b_Bod_has 0 = .ok (.iload_n 1, 1) := by decide +kernel
theorem d_Bod_has_1 : decode b_Bod_has 1 = .ok (.iconst 0, 1) := by decide +kernel
theorem d_Bod_has_2 : decode b_Bod_has 2 = .ok (.aload_n 0, 1) := by decide +kernel
theorem d_Bod_has_3 : decode b_Bod_has 3 = .ok (.getfield 9, 3) := by decide +kernel
theorem d_Bod_has_6 : decode b_Bod_has 6 = .ok (.iconst 1, 1) := by decide +kernel
theorem d_Bod_has_7 : decode b_Bod_has 7 = .ok (.isub, 1) := by decide +kernel
theorem d_Bod_has_8 : decode b_Bod_has 8 = .ok (.invokestatic 34, 3) := by decide +kernel
theorem d_Bod_has_11 : decode b_Bod_has 11 = .ok (.ireturn, 1) := by decide +kernel
theorem d_Bod_add_0 : decode b_Bod_add 0 = .ok (.iload_n 1, 1) := by decide +kernel
theorem d_Bod_add_1 : decode b_Bod_add 1 = .ok (.bipush 10, 2) := by decide +kernel
theorem d_Bod_add_3 : decode b_Bod_add 3 = .ok (.bipush 50, 2) := by decide +kernel
theorem d_Bod_add_5 : decode b_Bod_add 5 = .ok (.invokestatic 34, 3) := by decide +kernel
theorem d_Bod_add_8 : decode b_Bod_add 8 = .ok (.ifCond .eq 12, 3) := by decide +kernel
theorem d_Bod_add_11 : decode b_Bod_add 11 = .ok (.aload_n 0, 1) := by decide +kernel
theorem d_Bod_add_12 : decode b_Bod_add 12 = .ok (.getfield 9, 3) := by decide +kernel
theorem d_Bod_add_15 : decode b_Bod_add 15 = .ok (.bipush 6, 2) := by decide +kernel
theorem d_Bod_add_17 : decode b_Bod_add 17 = .ok (.if_icmp .lt 5, 3) := by decide +kernel
theorem d_Bod_add_20 : decode b_Bod_add 20 = .ok (.iconst 0, 1) := by decide +kernel
theorem d_Bod_add_21 : decode b_Bod_add 21 = .ok (.ireturn, 1) := by decide +kernel
theorem d_Bod_add_22 : decode b_Bod_add 22 = .ok (.aload_n 0, 1) := by decide +kernel
theorem d_Bod_add_23 : decode b_Bod_add 23 = .ok (.getfield 15, 3) := by decide +kernel
theorem d_Bod_add_26 : decode b_Bod_add 26 = .ok (.aload_n 0, 1) := by decide +kernel
theorem d_Bod_add_27 : decode b_Bod_add 27 = .ok (.getfield 9, 3) := by decide +kernel
theorem d_Bod_add_30 : decode b_Bod_add 30 = .ok (.iload_n 1, 1) := by decide +kernel
theorem d_Bod_add_31 : decode b_Bod_add 31 = .ok (.iastore, 1) := by decide +kernel
theorem d_Bod_add_32 : decode b_Bod_add 32 = .ok (.aload_n 0, 1) := by decide +kernel
theorem d_Bod_add_33 : decode b_Bod_add 33 = .ok (.getfield 19, 3) := by decide +kernel
theorem d_Bod_add_36 : decode b_Bod_add 36 = .ok (.aload_n 0, 1) := by decide +kernel
theorem d_Bod_add_37 : decode b_Bod_add 37 = .ok (.getfield 9, 3) := by decide +kernel
theorem d_Bod_add_40 : decode b_Bod_add 40 = .ok (.iload_n 2, 1) := by decide +kernel
theorem d_Bod_add_41 : decode b_Bod_add 41 = .ok (.iastore, 1) := by decide +kernel
theorem d_Bod_add_42 : decode b_Bod_add 42 = .ok (.aload_n 0, 1) := by decide +kernel
theorem d_Bod_add_43 : decode b_Bod_add 43 = .ok (.getfield 22, 3) := by decide +kernel
theorem d_Bod_add_46 : decode b_Bod_add 46 = .ok (.aload_n 0, 1) := by decide +kernel
theorem d_Bod_add_47 : decode b_Bod_add 47 = .ok (.getfield 9, 3) := by decide +kernel
theorem d_Bod_add_50 : decode b_Bod_add 50 = .ok (.iload_n 3, 1) := by decide +kernel
theorem d_Bod_add_51 : decode b_Bod_add 51 = .ok (.iastore, 1) := by decide +kernel
theorem d_Bod_add_52 : decode b_Bod_add 52 = .ok (.aload_n 0, 1) := by decide +kernel
theorem d_Bod_add_53 : decode b_Bod_add 53 = .ok (.getfield 25, 3) := by decide +kernel
theorem d_Bod_add_56 : decode b_Bod_add 56 = .ok (.aload_n 0, 1) := by decide +kernel
theorem d_Bod_add_57 : decode b_Bod_add 57 = .ok (.getfield 9, 3) := by decide +kernel
theorem d_Bod_add_60 : decode b_Bod_add 60 = .ok (.iload 4, 2) := by decide +kernel
theorem d_Bod_add_62 : decode b_Bod_add 62 = .ok (.iastore, 1) := by decide +kernel
theorem d_Bod_add_63 : decode b_Bod_add 63 = .ok (.aload_n 0, 1) := by decide +kernel
theorem d_Bod_add_64 : decode b_Bod_add 64 = .ok (.getfield 28, 3) := by decide +kernel
theorem d_Bod_add_67 : decode b_Bod_add 67 = .ok (.aload_n 0, 1) := by decide +kernel
theorem d_Bod_add_68 : decode b_Bod_add 68 = .ok (.getfield 9, 3) := by decide +kernel
theorem d_Bod_add_71 : decode b_Bod_add 71 = .ok (.iconst 0, 1) := by decide +kernel
theorem d_Bod_add_72 : decode b_Bod_add 72 = .ok (.iastore, 1) := by decide +kernel
theorem d_Bod_add_73 : decode b_Bod_add 73 = .ok (.aload_n 0, 1) := by decide +kernel
theorem d_Bod_add_74 : decode b_Bod_add 74 = .ok (.getfield 31, 3) := by decide +kernel
theorem d_Bod_add_77 : decode b_Bod_add 77 = .ok (.aload_n 0, 1) := by decide +kernel
theorem d_Bod_add_78 : decode b_Bod_add 78 = .ok (.getfield 9, 3) := by decide +kernel
theorem d_Bod_add_81 : decode b_Bod_add 81 = .ok (.aload_n 0, 1) := by decide +kernel
theorem d_Bod_add_82 : decode b_Bod_add 82 = .ok (.getfield 9, 3) := by decide +kernel
theorem d_Bod_add_85 : decode b_Bod_add 85 = .ok (.iastore, 1) := by decide +kernel
theorem d_Bod_add_86 : decode b_Bod_add 86 = .ok (.aload_n 0, 1) := by decide +kernel
theorem d_Bod_add_87 : decode b_Bod_add 87 = .ok (.dup, 1) := by decide +kernel
theorem d_Bod_add_88 : decode b_Bod_add 88 = .ok (.getfield 9, 3) := by decide +kernel
theorem d_Bod_add_91 : decode b_Bod_add 91 = .ok (.iconst 1, 1) := by decide +kernel
theorem d_Bod_add_92 : decode b_Bod_add 92 = .ok (.iadd, 1) := by decide +kernel
theorem d_Bod_add_93 : decode b_Bod_add 93 = .ok (.putfield 9, 3) := by decide +kernel
theorem d_Bod_add_96 : decode b_Bod_add 96 = .ok (.iconst 1, 1) := by decide +kernel
theorem d_Bod_add_97 : decode b_Bod_add 97 = .ok (.ireturn, 1) := by decide +kernel
theorem d_Bod_traitOf_0 : decode b_Bod_traitOf 0 = .ok (.aload_n 0, 1) := by decide +kernel
theorem d_Bod_traitOf_1 : decode b_Bod_traitOf 1 = .ok (.iload_n 1, 1) := by decide +kernel
theorem d_Bod_traitOf_2 : decode b_Bod_traitOf 2 = .ok (.invokevirtual 38, 3) := by decide +kernel
theorem d_Bod_traitOf_5 : decode b_Bod_traitOf 5 = .ok (.ifCond .ne 5, 3) := by decide +kernel
theorem d_Bod_traitOf_8 : decode b_Bod_traitOf 8 = .ok (.iconst (-1), 1) := by decide +kernel
theorem d_Bod_traitOf_9 : decode b_Bod_traitOf 9 = .ok (.ireturn, 1) := by decide +kernel
theorem d_Bod_traitOf_10 : decode b_Bod_traitOf 10 = .ok (.iload_n 2, 1) := by decide +kernel
theorem d_Bod_traitOf_11 : decode b_Bod_traitOf 11 = .ok (.tableswitch 46 0 2 #[25, 32, 39], 25) := by decide +kernel
theorem d_Bod_traitOf_36 : decode b_Bod_traitOf 36 = .ok (.aload_n 0, 1) := by decide +kernel
theorem d_Bod_traitOf_37 : decode b_Bod_traitOf 37 = .ok (.getfield 22, 3) := by decide +kernel
theorem d_Bod_traitOf_40 : decode b_Bod_traitOf 40 = .ok (.iload_n 1, 1) := by decide +kernel
theorem d_Bod_traitOf_41 : decode b_Bod_traitOf 41 = .ok (.iaload, 1) := by decide +kernel
theorem d_Bod_traitOf_42 : decode b_Bod_traitOf 42 = .ok (.ireturn, 1) := by decide +kernel
theorem d_Bod_traitOf_43 : decode b_Bod_traitOf 43 = .ok (.aload_n 0, 1) := by decide +kernel
theorem d_Bod_traitOf_44 : decode b_Bod_traitOf 44 = .ok (.getfield 28, 3) := by decide +kernel
theorem d_Bod_traitOf_47 : decode b_Bod_traitOf 47 = .ok (.iload_n 1, 1) := by decide +kernel
theorem d_Bod_traitOf_48 : decode b_Bod_traitOf 48 = .ok (.iaload, 1) := by decide +kernel
theorem d_Bod_traitOf_49 : decode b_Bod_traitOf 49 = .ok (.ireturn, 1) := by decide +kernel
theorem d_Bod_traitOf_50 : decode b_Bod_traitOf 50 = .ok (.aload_n 0, 1) := by decide +kernel
theorem d_Bod_traitOf_51 : decode b_Bod_traitOf 51 = .ok (.getfield 15, 3) := by decide +kernel
theorem d_Bod_traitOf_54 : decode b_Bod_traitOf 54 = .ok (.iload_n 1, 1) := by decide +kernel
theorem d_Bod_traitOf_55 : decode b_Bod_traitOf 55 = .ok (.iaload, 1) := by decide +kernel
theorem d_Bod_traitOf_56 : decode b_Bod_traitOf 56 = .ok (.ireturn, 1) := by decide +kernel
theorem d_Bod_traitOf_57 : decode b_Bod_traitOf 57 = .ok (.iconst (-1), 1) := by decide +kernel
theorem d_Bod_traitOf_58 : decode b_Bod_traitOf 58 = .ok (.ireturn, 1) := by decide +kernel
theorem d_Bod_alter_0 : decode b_Bod_alter 0 = .ok (.aload_n 0, 1) := by decide +kernel
theorem d_Bod_alter_1 : decode b_Bod_alter 1 = .ok (.iload_n 1, 1) := by decide +kernel
theorem d_Bod_alter_2 : decode b_Bod_alter 2 = .ok (.invokevirtual 38, 3) := by decide +kernel
theorem d_Bod_alter_5 : decode b_Bod_alter 5 = .ok (.ifCond .ne 5, 3) := by decide +kernel
theorem d_Bod_alter_8 : decode b_Bod_alter 8 = .ok (.iconst 0, 1) := by decide +kernel
theorem d_Bod_alter_9 : decode b_Bod_alter 9 = .ok (.ireturn, 1) := by decide +kernel
theorem d_Bod_alter_10 : decode b_Bod_alter 10 = .ok (.iload_n 2, 1) := by decide +kernel
theorem d_Bod_alter_11 : decode b_Bod_alter 11 = .ok (.ifCond .ne 22, 3) := by decide +kernel
theorem d_Bod_alter_14 : decode b_Bod_alter 14 = .ok (.iload_n 3, 1) := by decide +kernel
theorem d_Bod_alter_15 : decode b_Bod_alter 15 = .ok (.iconst 0, 1) := by decide +kernel
theorem d_Bod_alter_16 : decode b_Bod_alter 16 = .ok (.bipush 9, 2) := by decide +kernel
theorem d_Bod_alter_18 : decode b_Bod_alter 18 = .ok (.invokestatic 34, 3) := by decide +kernel
theorem d_Bod_alter_21 : decode b_Bod_alter 21 = .ok (.ifCond .eq 12, 3) := by decide +kernel
theorem d_Bod_alter_24 : decode b_Bod_alter 24 = .ok (.aload_n 0, 1) := by decide +kernel
theorem d_Bod_alter_25 : decode b_Bod_alter 25 = .ok (.getfield 22, 3) := by decide +kernel
theorem d_Bod_alter_28 : decode b_Bod_alter 28 = .ok (.iload_n 1, 1) := by decide +kernel
theorem d_Bod_alter_29 : decode b_Bod_alter 29 = .ok (.iload_n 3, 1) := by decide +kernel
theorem d_Bod_alter_30 : decode b_Bod_alter 30 = .ok (.iastore, 1) := by decide +kernel
theorem d_Bod_alter_31 : decode b_Bod_alter 31 = .ok (.iconst 1, 1) := by decide +kernel
theorem d_Bod_alter_32 : decode b_Bod_alter 32 = .ok (.ireturn, 1) := by decide +kernel
theorem d_Bod_alter_33 : decode b_Bod_alter 33 = .ok (.iload_n 2, 1) := by decide +kernel
theorem d_Bod_alter_34 : decode b_Bod_alter 34 = .ok (.iconst 1, 1) := by decide +kernel
theorem d_Bod_alter_35 : decode b_Bod_alter 35 = .ok (.if_icmp .ne 21, 3) := by decide +kernel
theorem d_Bod_alter_38 : decode b_Bod_alter 38 = .ok (.iload_n 3, 1) := by decide +kernel
theorem d_Bod_alter_39 : decode b_Bod_alter 39 = .ok (.iconst 0, 1) := by decide +kernel
theorem d_Bod_alter_40 : decode b_Bod_alter 40 = .ok (.iconst 3, 1) := by decide +kernel
theorem d_Bod_alter_41 : decode b_Bod_alter 41 = .ok (.invokestatic 34, 3) := by decide +kernel
theorem d_Bod_alter_44 : decode b_Bod_alter 44 = .ok (.ifCond .eq 12, 3) := by decide +kernel
theorem d_Bod_alter_47 : decode b_Bod_alter 47 = .ok (.aload_n 0, 1) := by decide +kernel
theorem d_Bod_alter_48 : decode b_Bod_alter 48 = .ok (.getfield 28, 3) := by decide +kernel
theorem d_Bod_alter_51 : decode b_Bod_alter 51 = .ok (.iload_n 1, 1) := by decide +kernel
theorem d_Bod_alter_52 : decode b_Bod_alter 52 = .ok (.iload_n 3, 1) := by decide +kernel
theorem d_Bod_alter_53 : decode b_Bod_alter 53 = .ok (.iastore, 1) := by decide +kernel
theorem d_Bod_alter_54 : decode b_Bod_alter 54 = .ok (.iconst 1, 1) := by decide +kernel
theorem d_Bod_alter_55 : decode b_Bod_alter 55 = .ok (.ireturn, 1) := by decide +kernel
theorem d_Bod_alter_56 : decode b_Bod_alter 56 = .ok (.iload_n 2, 1) := by decide +kernel
theorem d_Bod_alter_57 : decode b_Bod_alter 57 = .ok (.iconst 2, 1) := by decide +kernel
theorem d_Bod_alter_58 : decode b_Bod_alter 58 = .ok (.if_icmp .ne 23, 3) := by decide +kernel
theorem d_Bod_alter_61 : decode b_Bod_alter 61 = .ok (.iload_n 3, 1) := by decide +kernel
theorem d_Bod_alter_62 : decode b_Bod_alter 62 = .ok (.bipush 10, 2) := by decide +kernel
theorem d_Bod_alter_64 : decode b_Bod_alter 64 = .ok (.bipush 50, 2) := by decide +kernel
theorem d_Bod_alter_66 : decode b_Bod_alter 66 = .ok (.invokestatic 34, 3) := by decide +kernel
theorem d_Bod_alter_69 : decode b_Bod_alter 69 = .ok (.ifCond .eq 12, 3) := by decide +kernel
theorem d_Bod_alter_72 : decode b_Bod_alter 72 = .ok (.aload_n 0, 1) := by decide +kernel
theorem d_Bod_alter_73 : decode b_Bod_alter 73 = .ok (.getfield 15, 3) := by decide +kernel
theorem d_Bod_alter_76 : decode b_Bod_alter 76 = .ok (.iload_n 1, 1) := by decide +kernel
theorem d_Bod_alter_77 : decode b_Bod_alter 77 = .ok (.iload_n 3, 1) := by decide +kernel
theorem d_Bod_alter_78 : decode b_Bod_alter 78 = .ok (.iastore, 1) := by decide +kernel
theorem d_Bod_alter_79 : decode b_Bod_alter 79 = .ok (.iconst 1, 1) := by decide +kernel
theorem d_Bod_alter_80 : decode b_Bod_alter 80 = .ok (.ireturn, 1) := by decide +kernel
theorem d_Bod_alter_81 : decode b_Bod_alter 81 = .ok (.iconst 0, 1) := by decide +kernel
theorem d_Bod_alter_82 : decode b_Bod_alter 82 = .ok (.ireturn, 1) := by decide +kernel
theorem d_Bod_placeOf_0 : decode b_Bod_placeOf 0 = .ok (.iconst 0, 1) := by decide +kernel
theorem d_Bod_placeOf_1 : decode b_Bod_placeOf 1 = .ok (.istore_n 2, 1) := by decide +kernel
theorem d_Bod_placeOf_2 : decode b_Bod_placeOf 2 = .ok (.iload_n 2, 1) := by decide +kernel
theorem d_Bod_placeOf_3 : decode b_Bod_placeOf 3 = .ok (.aload_n 0, 1) := by decide +kernel
theorem d_Bod_placeOf_4 : decode b_Bod_placeOf 4 = .ok (.getfield 9, 3) := by decide +kernel
theorem d_Bod_placeOf_7 : decode b_Bod_placeOf 7 = .ok (.if_icmp .ge 21, 3) := by decide +kernel
theorem d_Bod_placeOf_10 : decode b_Bod_placeOf 10 = .ok (.aload_n 0, 1) := by decide +kernel
theorem d_Bod_placeOf_11 : decode b_Bod_placeOf 11 = .ok (.getfield 31, 3) := by decide +kernel
theorem d_Bod_placeOf_14 : decode b_Bod_placeOf 14 = .ok (.iload_n 2, 1) := by decide +kernel
theorem d_Bod_placeOf_15 : decode b_Bod_placeOf 15 = .ok (.iaload, 1) := by decide +kernel
theorem d_Bod_placeOf_16 : decode b_Bod_placeOf 16 = .ok (.iload_n 1, 1) := by decide +kernel
theorem d_Bod_placeOf_17 : decode b_Bod_placeOf 17 = .ok (.if_icmp .ne 5, 3) := by decide +kernel
theorem d_Bod_placeOf_20 : decode b_Bod_placeOf 20 = .ok (.iload_n 2, 1) := by decide +kernel
theorem d_Bod_placeOf_21 : decode b_Bod_placeOf 21 = .ok (.ireturn, 1) := by decide +kernel
theorem d_Bod_placeOf_22 : decode b_Bod_placeOf 22 = .ok (.iinc 2 1, 3) := by decide +kernel
theorem d_Bod_placeOf_25 : decode b_Bod_placeOf 25 = .ok (.goto (-23), 3) := by decide +kernel
theorem d_Bod_placeOf_28 : decode b_Bod_placeOf 28 = .ok (.iconst (-1), 1) := by decide +kernel
theorem d_Bod_placeOf_29 : decode b_Bod_placeOf 29 = .ok (.ireturn, 1) := by decide +kernel
set_option maxRecDepth 100000 in
theorem cw_Best_exchange : CwV y_Best_exchange b_Best_exchange 4 (none) 2 := ⟨tbl_at 682 (by decide +kernel) rfl, tbl_at 8 (by decide +kernel) rfl, tbl_at 54 (by decide +kernel) rfl, tbl_at 683 rfl rfl, by decide +kernel, by decide +kernel, by decide +kernel⟩
set_option maxRecDepth 100000 in
theorem cw_Best_goToNext : CwV y_Best_goToNext b_Best_goToNext 6 (some FieldType.boolean) 1 := ⟨tbl_at 678 (by decide +kernel) rfl, tbl_at 7 (by decide +kernel) rfl, tbl_at 54 (by decide +kernel) rfl, tbl_at 679 rfl rfl, by decide +kernel, by decide +kernel, by decide +kernel⟩
set_option maxRecDepth 100000 in
theorem cw_Best_weigh : CwV y_Best_weigh b_Best_weigh 3 (none) 1 := ⟨tbl_at 673 (by decide +kernel) rfl, tbl_at 6 (by decide +kernel) rfl, tbl_at 54 (by decide +kernel) rfl, tbl_at 674 rfl rfl, by decide +kernel, by decide +kernel, by decide +kernel⟩
set_option maxRecDepth 100000 in
theorem cw_Bod_bulkOf : CwV y_Bod_bulkOf b_Bod_bulkOf 5 (some FieldType.int) 3 := ⟨tbl_at 569 (by decide +kernel) rfl, tbl_at 570 (by decide +kernel) rfl, tbl_at 51 (by decide +kernel) rfl, tbl_at 571 rfl rfl, by decide +kernel, by decide +kernel, by decide +kernel⟩
set_option maxRecDepth 100000 in
theorem cw_Bod_has : CwV y_Bod_has b_Bod_has 2 (some FieldType.boolean) 1 := ⟨tbl_at 469 (by decide +kernel) rfl, tbl_at 470 (by decide +kernel) rfl, tbl_at 51 (by decide +kernel) rfl, tbl_at 471 rfl rfl, by decide +kernel, by decide +kernel, by decide +kernel⟩
set_option maxRecDepth 100000 in
theorem cw_Brt_within : CwS y_Brt_within b_Brt_within 3 (some FieldType.boolean) 3 := ⟨tbl_at 406 (by decide +kernel) rfl, tbl_at 48 (by decide +kernel) rfl, tbl_at 407 rfl rfl, by decide +kernel, by decide +kernel, by decide +kernel⟩
set_option maxRecDepth 100000 in
theorem cw_Cav_waterAt : CwV y_Cav_waterAt b_Cav_waterAt 2 (some FieldType.int) 1 := ⟨tbl_at 499 (by decide +kernel) rfl, tbl_at 500 (by decide +kernel) rfl, tbl_at 49 (by decide +kernel) rfl, tbl_at 501 rfl rfl, by decide +kernel, by decide +kernel, by decide +kernel⟩
set_option maxRecDepth 100000 in
theorem cw_Leg_begin : CwV y_Leg_begin b_Leg_begin 2 (none) 1 := ⟨tbl_at 605 (by decide +kernel) rfl, tbl_at 606 (by decide +kernel) rfl, tbl_at 53 (by decide +kernel) rfl, tbl_at 607 rfl rfl, by decide +kernel, by decide +kernel, by decide +kernel⟩
set_option maxRecDepth 100000 in
theorem cw_Leg_passAll : CwV y_Leg_passAll b_Leg_passAll 11 (none) 5 := ⟨tbl_at 601 (by decide +kernel) rfl, tbl_at 602 (by decide +kernel) rfl, tbl_at 53 (by decide +kernel) rfl, tbl_at 603 rfl rfl, by decide +kernel, by decide +kernel, by decide +kernel⟩
set_option maxRecDepth 100000 in
theorem cw_Leg_passOne : CwV y_Leg_passOne b_Leg_passOne 14 (none) 4 := ⟨tbl_at 610 (by decide +kernel) rfl, tbl_at 3 (by decide +kernel) rfl, tbl_at 53 (by decide +kernel) rfl, tbl_at 611 rfl rfl, by decide +kernel, by decide +kernel, by decide +kernel⟩
set_option maxRecDepth 100000 in
theorem cw_Tri_thereAndBack : CwV y_Tri_thereAndBack b_Tri_thereAndBack 5 (some FieldType.boolean) 4 := ⟨tbl_at 650 (by decide +kernel) rfl, tbl_at 651 (by decide +kernel) rfl, tbl_at 52 (by decide +kernel) rfl, tbl_at 652 rfl rfl, by decide +kernel, by decide +kernel, by decide +kernel⟩
set_option maxRecDepth 100000 in
theorem cw_Yar_moreBy : CwV y_Yar_moreBy b_Yar_moreBy 2 (some (FieldType.array FieldType.int)) 1 := ⟨tbl_at 573 (by decide +kernel) rfl, tbl_at 574 (by decide +kernel) rfl, tbl_at 50 (by decide +kernel) rfl, tbl_at 575 rfl rfl, by decide +kernel, by decide +kernel, by decide +kernel⟩
set_option maxRecDepth 100000 in
theorem cw_Yar_roomAt : CwV y_Yar_roomAt b_Yar_roomAt 3 (some FieldType.int) 2 := ⟨tbl_at 503 (by decide +kernel) rfl, tbl_at 504 (by decide +kernel) rfl, tbl_at 50 (by decide +kernel) rfl, tbl_at 505 rfl rfl, by decide +kernel, by decide +kernel, by decide +kernel⟩
theorem fl_Best_15 : Cond.fieldLink R_Best 15 "BreatheOut$BestOrder" "returned" "I" ∈ tbl := tbl_at 271 (by decide +kernel) rfl
theorem fl_Best_19 : Cond.fieldLink R_Best 19 "BreatheOut$BestOrder" "tried" "[I" ∈ tbl := tbl_at 273 (by decide +kernel) rfl
theorem fl_Best_22 : Cond.fieldLink R_Best 22 "BreatheOut$BestOrder" "clock" "I" ∈ tbl := tbl_at 274 (by decide +kernel) rfl
theorem fl_Best_25 : Cond.fieldLink R_Best 25 "BreatheOut$BestOrder" "known" "Z" ∈ tbl := tbl_at 275 (by decide +kernel) rfl
theorem fl_Best_29 : Cond.fieldLink R_Best 29 "BreatheOut$Cave" "bodies" "LBreatheOut$Bodies;" ∈ tbl := tbl_at 177 (by decide +kernel) rfl
theorem fl_Best_35 : Cond.fieldLink R_Best 35 "BreatheOut$Bodies" "count" "I" ∈ tbl := tbl_at 135 (by decide +kernel) rfl
theorem fl_Best_40 : Cond.fieldLink R_Best 40 "BreatheOut$Cave" "clock" "I" ∈ tbl := tbl_at 189 (by decide +kernel) rfl
theorem fl_Best_47 : Cond.fieldLink R_Best 47 "BreatheOut$Trip" "home" "LBreatheOut$Leg;" ∈ tbl := tbl_at 253 (by decide +kernel) rfl
theorem fl_Best_59 : Cond.fieldLink R_Best 59 "BreatheOut$Leg" "arrivals" "I" ∈ tbl := tbl_at 220 (by decide +kernel) rfl
theorem fl_Best_64 : Cond.fieldLink R_Best 64 "BreatheOut$Leg" "clock" "I" ∈ tbl := tbl_at 229 (by decide +kernel) rfl
theorem fl_Best_9 : Cond.fieldLink R_Best 9 "BreatheOut$BestOrder" "line" "[I" ∈ tbl := tbl_at 269 (by decide +kernel) rfl
theorem fl_Bod_15 : Cond.fieldLink R_Bod 15 "BreatheOut$Bodies" "chest" "[I" ∈ tbl := tbl_at 137 (by decide +kernel) rfl
theorem fl_Bod_19 : Cond.fieldLink R_Bod 19 "BreatheOut$Bodies" "out" "[I" ∈ tbl := tbl_at 139 (by decide +kernel) rfl
theorem fl_Bod_22 : Cond.fieldLink R_Bod 22 "BreatheOut$Bodies" "fear" "[I" ∈ tbl := tbl_at 143 (by decide +kernel) rfl
theorem fl_Bod_25 : Cond.fieldLink R_Bod 25 "BreatheOut$Bodies" "pull" "[I" ∈ tbl := tbl_at 146 (by decide +kernel) rfl
theorem fl_Bod_28 : Cond.fieldLink R_Bod 28 "BreatheOut$Bodies" "posture" "[I" ∈ tbl := tbl_at 149 (by decide +kernel) rfl
theorem fl_Bod_31 : Cond.fieldLink R_Bod 31 "BreatheOut$Bodies" "line" "[I" ∈ tbl := tbl_at 153 (by decide +kernel) rfl
theorem fl_Bod_9 : Cond.fieldLink R_Bod 9 "BreatheOut$Bodies" "count" "I" ∈ tbl := tbl_at 134 (by decide +kernel) rfl
theorem fl_Cav_25 : Cond.fieldLink R_Cav 25 "BreatheOut$Cave" "rise" "I" ∈ tbl := tbl_at 180 (by decide +kernel) rfl
theorem fl_Leg_15 : Cond.fieldLink R_Leg 15 "BreatheOut$Leg" "arrivals" "I" ∈ tbl := tbl_at 219 (by decide +kernel) rfl
theorem fl_Leg_18 : Cond.fieldLink R_Leg 18 "BreatheOut$Leg" "stuck" "I" ∈ tbl := tbl_at 222 (by decide +kernel) rfl
theorem fl_Leg_21 : Cond.fieldLink R_Leg 21 "BreatheOut$Leg" "where" "I" ∈ tbl := tbl_at 225 (by decide +kernel) rfl
theorem fl_Leg_24 : Cond.fieldLink R_Leg 24 "BreatheOut$Leg" "clock" "I" ∈ tbl := tbl_at 227 (by decide +kernel) rfl
theorem fl_Leg_27 : Cond.fieldLink R_Leg 27 "BreatheOut$Leg" "breaths" "I" ∈ tbl := tbl_at 231 (by decide +kernel) rfl
theorem fl_Leg_30 : Cond.fieldLink R_Leg 30 "BreatheOut$Leg" "times" "[I" ∈ tbl := tbl_at 233 (by decide +kernel) rfl
theorem fl_Leg_38 : Cond.fieldLink R_Leg 38 "BreatheOut$Cave" "bodies" "LBreatheOut$Bodies;" ∈ tbl := tbl_at 176 (by decide +kernel) rfl
theorem fl_Leg_44 : Cond.fieldLink R_Leg 44 "BreatheOut$Bodies" "pull" "[I" ∈ tbl := tbl_at 147 (by decide +kernel) rfl
theorem fl_Leg_59 : Cond.fieldLink R_Leg 59 "BreatheOut$Cave" "yards" "LBreatheOut$Yards;" ∈ tbl := tbl_at 172 (by decide +kernel) rfl
theorem fl_Leg_63 : Cond.fieldLink R_Leg 63 "BreatheOut$Bodies" "posture" "[I" ∈ tbl := tbl_at 150 (by decide +kernel) rfl
theorem fl_Leg_72 : Cond.fieldLink R_Leg 72 "BreatheOut$Yards" "minutesBack" "[I" ∈ tbl := tbl_at 105 (by decide +kernel) rfl
theorem fl_Leg_75 : Cond.fieldLink R_Leg 75 "BreatheOut$Yards" "minutesThere" "[I" ∈ tbl := tbl_at 102 (by decide +kernel) rfl
theorem fl_Leg_82 : Cond.fieldLink R_Leg 82 "BreatheOut$Bodies" "out" "[I" ∈ tbl := tbl_at 140 (by decide +kernel) rfl
theorem fl_Leg_85 : Cond.fieldLink R_Leg 85 "BreatheOut$Yards" "count" "I" ∈ tbl := tbl_at 91 (by decide +kernel) rfl
theorem fl_Leg_9 : Cond.fieldLink R_Leg 9 "BreatheOut$Leg" "arrived" "I" ∈ tbl := tbl_at 216 (by decide +kernel) rfl
theorem fl_Tri_12 : Cond.fieldLink R_Tri 12 "BreatheOut$Trip" "there" "LBreatheOut$Leg;" ∈ tbl := tbl_at 250 (by decide +kernel) rfl
theorem fl_Tri_18 : Cond.fieldLink R_Tri 18 "BreatheOut$Trip" "home" "LBreatheOut$Leg;" ∈ tbl := tbl_at 252 (by decide +kernel) rfl
theorem fl_Tri_29 : Cond.fieldLink R_Tri 29 "BreatheOut$Leg" "stuck" "I" ∈ tbl := tbl_at 223 (by decide +kernel) rfl
theorem fl_Tri_33 : Cond.fieldLink R_Tri 33 "BreatheOut$Leg" "clock" "I" ∈ tbl := tbl_at 228 (by decide +kernel) rfl
theorem fl_Yar_15 : Cond.fieldLink R_Yar 15 "BreatheOut$Yards" "kind" "[I" ∈ tbl := tbl_at 93 (by decide +kernel) rfl
theorem fl_Yar_25 : Cond.fieldLink R_Yar 25 "BreatheOut$Yards" "dryRoom" "[I" ∈ tbl := tbl_at 99 (by decide +kernel) rfl
theorem fl_Yar_34 : Cond.fieldLink R_Yar 34 "BreatheOut$Yards" "moreHeadFirst" "[I" ∈ tbl := tbl_at 106 (by decide +kernel) rfl
theorem fl_Yar_37 : Cond.fieldLink R_Yar 37 "BreatheOut$Yards" "moreFeetFirst" "[I" ∈ tbl := tbl_at 107 (by decide +kernel) rfl
theorem ml_Best_41 : Cond.methodLink R_Best 41 y_Tri_thereAndBack ∈ tbl := tbl_at 670 (by decide +kernel) rfl
theorem ml_Best_51 : Cond.methodLink R_Best 51 y_Best_weigh ∈ tbl := tbl_at 671 (by decide +kernel) rfl
theorem ml_Best_55 : Cond.methodLink R_Best 55 y_Best_goToNext ∈ tbl := tbl_at 676 (by decide +kernel) rfl
theorem ml_Best_65 : Cond.methodLink R_Best 65 arraycopyName ∈ tbl := tbl_at 675 (by decide +kernel) rfl
theorem ml_Best_71 : Cond.methodLink R_Best 71 y_Best_exchange ∈ tbl := tbl_at 680 (by decide +kernel) rfl
theorem ml_Bod_34 : (R_Bod, 34) ∈ nst := by decide +kernel
theorem ml_Bod_38 : Cond.methodLink R_Bod 38 y_Bod_has ∈ tbl := tbl_at 468 (by decide +kernel) rfl
theorem ml_Leg_34 : Cond.methodLink R_Leg 34 y_Leg_begin ∈ tbl := tbl_at 604 (by decide +kernel) rfl
theorem ml_Leg_49 : Cond.methodLink R_Leg 49 y_Leg_passOne ∈ tbl := tbl_at 608 (by decide +kernel) rfl
theorem ml_Leg_53 : Cond.methodLink R_Leg 53 Lib.Math.max.name ∈ tbl := tbl_at 616 (by decide +kernel) rfl
theorem ml_Leg_66 : Cond.methodLink R_Leg 66 y_Yar_moreBy ∈ tbl := tbl_at 612 (by decide +kernel) rfl
theorem ml_Leg_78 : Cond.methodLink R_Leg 78 y_Bod_bulkOf ∈ tbl := tbl_at 613 (by decide +kernel) rfl
theorem ml_Leg_88 : Cond.methodLink R_Leg 88 y_Cav_waterAt ∈ tbl := tbl_at 614 (by decide +kernel) rfl
theorem ml_Leg_92 : Cond.methodLink R_Leg 92 y_Yar_roomAt ∈ tbl := tbl_at 615 (by decide +kernel) rfl
theorem ml_Tri_25 : Cond.methodLink R_Tri 25 y_Leg_passAll ∈ tbl := tbl_at 600 (by decide +kernel) rfl
theorem ml_Tri_36 : Cond.methodLink R_Tri 36 y_Leg_begin ∈ tbl := tbl_at 653 (by decide +kernel) rfl
theorem ml_Yar_62 : Cond.methodLink R_Yar 62 Lib.Math.max.name ∈ tbl := tbl_at 506 (by decide +kernel) rfl
def vc_Best_forget (p0 : Nat) (s : St) (Q : St → Prop) : Prop :=
    (∀ s10 : St, s10 = wr s p0 4 0 → Q s10)
def rm_Best_forget : Room := { frames := 0, cells := 0, slots := 0, locals := 0 }
set_option maxHeartbeats 4000000 in
set_option maxRecDepth 20000 in
theorem m_Best_forget (g : Gx) (hg : gOk g) (p0 : Nat) (hk0 : kd p0 = 7) (s : St) (Q : St → Prop) (hw : vc_Best_forget p0 s Q) : Mc g y_Best_forget b_Best_forget 1 (none) rm_Best_forget [.ref (ga g p0)] s (fun v s' => v = none ∧ Q s') := by
  refine mc_ofV (j := 0) (L := [some (.ref (ga g p0))]) hg (by decide) (Nat.le_of_ble_eq_true rfl) rfl ?_
  intro X hX C
  subst hX
  unfold vc_Best_forget at hw
  refine x_aload_n C d_Best_forget_0 rfl ?_
  refine x_iconst (v := 0) C d_Best_forget_1 rfl ?_
  refine p_Best_4 (p := p0) C hk0 fl_Best_25 ⟨rfl, rfl⟩ d_Best_forget_2 ?_
  refine x_st (fun s10 hs10 => ?_)
  have hw := hw s10 hs10
  exact x_return C d_Best_forget_5 ⟨rfl, hw⟩
def vc_Best_exchange (p0 : Nat) (x1 : Int32) (x2 : Int32) (s : St) (Q : St → Prop) : Prop :=
    (vp_in x1 6 ∧ (∀ x11 : Int32, x11 = s (p0 + 2) (Int32.toNatClampNeg x1) → (vp_in x2 6 ∧ (vp_in x1 6 ∧ (∀ s14 : St, s14 = wr s (p0 + 2) (Int32.toNatClampNeg x1) (s (p0 + 2) (Int32.toNatClampNeg x2)) → (vp_in x2 6 ∧ (∀ s16 : St, s16 = wr s14 (p0 + 2) (Int32.toNatClampNeg x2) x11 → Q s16)))))))
def rm_Best_exchange : Room := { frames := 0, cells := 0, slots := 0, locals := 0 }
set_option maxHeartbeats 4000000 in
set_option maxRecDepth 20000 in
theorem m_Best_exchange (g : Gx) (hg : gOk g) (p0 : Nat) (x1 : Int32) (x2 : Int32) (hk0 : kd p0 = 7) (s : St) (Q : St → Prop) (hw : vc_Best_exchange p0 x1 x2 s Q) : Mc g y_Best_exchange b_Best_exchange 4 (none) rm_Best_exchange [.ref (ga g p0), .int x1, .int x2] s (fun v s' => v = none ∧ Q s') := by
  refine mc_ofV (j := 1) (L := [some (.ref (ga g p0)), some (.int x1), some (.int x2), none]) hg (by decide) (Nat.le_of_ble_eq_true rfl) rfl ?_
  intro X hX C
  subst hX
  unfold vc_Best_exchange at hw
  refine x_aload_n C d_Best_exchange_0 rfl ?_
  refine g_Best_2 (p := p0) C hk0 fl_Best_19 d_Best_exchange_1 ?_
  refine x_iload_n C d_Best_exchange_4 rfl ?_
  obtain ⟨h10, hw⟩ := hw
  refine x_iald (p := (p0 + 2)) (n := 6) C (ks_7_2 hk0) h10 d_Best_exchange_5 ?_
  refine x_nm (fun x11 hx11 => ?_)
  have hw := hw x11 hx11
  refine x_istore_n (L' := [some (.ref (xa X p0)), some (.int x1), some (.int x2), some (.int x11)]) C d_Best_exchange_6 (Nat.le_of_ble_eq_true rfl) rfl ?_
  refine x_aload_n C d_Best_exchange_7 rfl ?_
  refine g_Best_2 (p := p0) C hk0 fl_Best_19 d_Best_exchange_8 ?_
  refine x_iload_n C d_Best_exchange_11 rfl ?_
  refine x_aload_n C d_Best_exchange_12 rfl ?_
  refine g_Best_2 (p := p0) C hk0 fl_Best_19 d_Best_exchange_13 ?_
  refine x_iload_n C d_Best_exchange_16 rfl ?_
  obtain ⟨h12, hw⟩ := hw
  refine x_iald (p := (p0 + 2)) (n := 6) C (ks_7_2 hk0) h12 d_Best_exchange_17 ?_
  obtain ⟨h13, hw⟩ := hw
  refine x_iast (p := (p0 + 2)) (n := 6) C (ks_7_2 hk0) h13 d_Best_exchange_18 ?_
  refine x_st (fun s14 hs14 => ?_)
  have hw := hw s14 hs14
  refine x_aload_n C d_Best_exchange_19 rfl ?_
  refine g_Best_2 (p := p0) C hk0 fl_Best_19 d_Best_exchange_20 ?_
  refine x_iload_n C d_Best_exchange_23 rfl ?_
  refine x_iload_n C d_Best_exchange_24 rfl ?_
  obtain ⟨h15, hw⟩ := hw
  refine x_iast (p := (p0 + 2)) (n := 6) C (ks_7_2 hk0) h15 d_Best_exchange_25 ?_
  refine x_st (fun s16 hs16 => ?_)
  have hw := hw s16 hs16
  exact x_return C d_Best_exchange_26 ⟨rfl, hw⟩
def vc_Best_goToNext (p0 : Nat) (x1 : Int32) (s : St) (Q : Bool → St → Prop) : Prop :=
    (∀ x10 : Int32, x10 = x1 - 2 → (∃ I12 : Nat → Int32 → Prop, (∃ n13, I12 n13 x10) ∧ ∀ (nI12 : Nat) (x11 : Int32), I12 nI12 x11 → (∃ J14 : Prop, (J14 → ((0 ≤ x11 → (∀ x16 : Int32, x16 = x1 - 1 → (∃ I18 : Nat → Int32 → Prop, (∃ n19, I18 n19 x16) ∧ ∀ (nI18 : Nat) (x17 : Int32), I18 nI18 x17 → (∃ J20 : Prop, (J20 → vc_Best_exchange p0 x11 x17 s (fun s21 => (∀ x22 : Int32, x22 = x11 + 1 → (∀ x23 : Int32, x23 = x1 - 1 → (∃ I27 : Nat → Int32 → Int32 → St → Prop, (∃ n28, I27 n28 x22 x23 s21) ∧ ∀ (nI27 : Nat) (x24 : Int32) (x25 : Int32) (s26 : St), I27 nI27 x24 x25 s26 → ((x25 ≤ x24 → Q true s26) ∧ (¬ x25 ≤ x24 → vc_Best_exchange p0 x24 x25 s26 (fun s30 => (∀ x31 : Int32, x31 = x24 + 1 → (∀ x32 : Int32, x32 = x25 + (-1) → ∃ m33, m33 < nI27 ∧ I27 m33 x31 x32 s30)))))))))) ∧ ((x17 ≤ x11 → J20) ∧ (¬ x17 ≤ x11 → (vp_in x17 6 ∧ (vp_in x11 6 ∧ (((s (p0 + 2) (Int32.toNatClampNeg x11)) ≤ (s (p0 + 2) (Int32.toNatClampNeg x17)) → J20) ∧ (¬ (s (p0 + 2) (Int32.toNatClampNeg x11)) ≤ (s (p0 + 2) (Int32.toNatClampNeg x17)) → (∀ x38 : Int32, x38 = x17 + (-1) → ∃ m39, m39 < nI18 ∧ I18 m39 x38))))))))))) ∧ (¬ 0 ≤ x11 → Q false s))) ∧ ((x11 < 0 → J14) ∧ (¬ x11 < 0 → (vp_in x11 6 ∧ (vp_in (x11 + 1) 6 ∧ (((s (p0 + 2) (Int32.toNatClampNeg x11)) ≤ (s (p0 + 2) (Int32.toNatClampNeg (x11 + 1))) → J14) ∧ (¬ (s (p0 + 2) (Int32.toNatClampNeg x11)) ≤ (s (p0 + 2) (Int32.toNatClampNeg (x11 + 1))) → (∀ x44 : Int32, x44 = x11 + (-1) → ∃ m45, m45 < nI12 ∧ I12 m45 x44))))))))))
def rm_Best_goToNext : Room := { frames := 1, cells := 0, slots := 0, locals := 23 }
set_option maxHeartbeats 4000000 in
set_option maxRecDepth 20000 in
theorem m_Best_goToNext (g : Gx) (hg : gOk g) (p0 : Nat) (x1 : Int32) (hk0 : kd p0 = 7) (s : St) (Q : Bool → St → Prop) (hw : vc_Best_goToNext p0 x1 s Q) : Mc g y_Best_goToNext b_Best_goToNext 6 (some FieldType.boolean) rm_Best_goToNext [.ref (ga g p0), .int x1] s (fun v s' => ∃ r : Bool, v = some (.int (bi r)) ∧ Q r s') := by
  refine mc_ofV (j := 4) (L := [some (.ref (ga g p0)), some (.int x1), none, none, none, none]) hg (by decide) (Nat.le_of_ble_eq_true rfl) rfl ?_
  intro X hX C
  subst hX
  unfold vc_Best_goToNext at hw
  refine x_iload_n C d_Best_goToNext_0 rfl ?_
  refine x_iconst (v := 2) C d_Best_goToNext_1 rfl ?_
  refine x_isub C d_Best_goToNext_2 ?_
  refine x_nm (fun x10 hx10 => ?_)
  have hw := hw x10 hx10
  refine x_istore_n (L' := [some (.ref (xa X p0)), some (.int x1), some (.int x10), none, none, none]) C d_Best_goToNext_3 (Nat.le_of_ble_eq_true rfl) rfl ?_
  obtain ⟨I12, ⟨n13, hn13⟩, hI12⟩ := hw
  have lI12 : ∀ (nI12 : Nat) (x11 : Int32), I12 nI12 x11 → V X (xQ X (fun v s' => ∃ r : Bool, v = some (.int (bi r)) ∧ Q r s')) 0 0 s 4 [some (.ref (xa X p0)), some (.int x1), some (.int x11), none, none, none] [] := by
    intro nI12
    induction nI12 using Nat.strongRecOn with
    | ind nI12 ihI12 =>
      intro x11 hv
      have hw := hI12 nI12 x11 hv
      refine x_iload_n C d_Best_goToNext_4 rfl ?_
      obtain ⟨J14, hJ14, hw⟩ := hw
      have kJ14 : J14 → V X (xQ X (fun v s' => ∃ r : Bool, v = some (.int (bi r)) ∧ Q r s')) 0 0 s 31 [some (.ref (xa X p0)), some (.int x1), some (.int x11), none, none, none] [] := by
        intro  hv
        have hw := hJ14  hv
        refine x_iload_n C d_Best_goToNext_31 rfl ?_
        refine x_if_ge (tgt := 37) C d_Best_goToNext_32 (by decide) (fun c15 => ?_) (fun c15 => ?_)
        · have hw := hw.1 c15
          refine x_iload_n C d_Best_goToNext_37 rfl ?_
          refine x_iconst (v := 1) C d_Best_goToNext_38 rfl ?_
          refine x_isub C d_Best_goToNext_39 ?_
          refine x_nm (fun x16 hx16 => ?_)
          have hw := hw x16 hx16
          refine x_istore_n (L' := [some (.ref (xa X p0)), some (.int x1), some (.int x11), some (.int x16), none, none]) C d_Best_goToNext_40 (Nat.le_of_ble_eq_true rfl) rfl ?_
          obtain ⟨I18, ⟨n19, hn19⟩, hI18⟩ := hw
          have lI18 : ∀ (nI18 : Nat) (x17 : Int32), I18 nI18 x17 → V X (xQ X (fun v s' => ∃ r : Bool, v = some (.int (bi r)) ∧ Q r s')) 0 0 s 41 [some (.ref (xa X p0)), some (.int x1), some (.int x11), some (.int x17), none, none] [] := by
            intro nI18
            induction nI18 using Nat.strongRecOn with
            | ind nI18 ihI18 =>
              intro x17 hv
              have hw := hI18 nI18 x17 hv
              refine x_iload_n C d_Best_goToNext_41 rfl ?_
              refine x_iload_n C d_Best_goToNext_42 rfl ?_
              obtain ⟨J20, hJ20, hw⟩ := hw
              have kJ20 : J20 → V X (xQ X (fun v s' => ∃ r : Bool, v = some (.int (bi r)) ∧ Q r s')) 0 0 s 67 [some (.ref (xa X p0)), some (.int x1), some (.int x11), some (.int x17), none, none] [] := by
                intro  hv
                have hw := hJ20  hv
                refine x_aload_n C d_Best_goToNext_67 rfl ?_
                refine x_iload_n C d_Best_goToNext_68 rfl ?_
                refine x_iload_n C d_Best_goToNext_69 rfl ?_
                refine x_callV (As := [.int x11, .int x17]) (rest := []) (p := p0) C (m_Best_exchange (xg X) C.2.2.2.2.2.2.1 p0 x11 x17 hk0 s _ hw) cw_Best_exchange ml_Best_71 hk0 (by decide) (by decide) rfl rfl rfl ⟨rfl, rfl, Nat.le_of_ble_eq_true rfl, Nat.le_of_ble_eq_true rfl⟩ ⟨Nat.zero_le _, Nat.zero_le _⟩ rfl (Nat.le_of_ble_eq_true rfl) d_Best_goToNext_70 ?_
                rintro _ s21 ⟨rfl, hw⟩
                show V X _ _ _ _ 73 [some (.ref (xa X p0)), some (.int x1), some (.int x11), some (.int x17), none, none] []
                refine x_iload_n C d_Best_goToNext_73 rfl ?_
                refine x_iconst (v := 1) C d_Best_goToNext_74 rfl ?_
                refine x_iadd C d_Best_goToNext_75 ?_
                refine x_nm (fun x22 hx22 => ?_)
                have hw := hw x22 hx22
                refine x_istore (L' := [some (.ref (xa X p0)), some (.int x1), some (.int x11), some (.int x17), some (.int x22), none]) C d_Best_goToNext_76 (Nat.le_of_ble_eq_true rfl) rfl ?_
                refine x_iload_n C d_Best_goToNext_78 rfl ?_
                refine x_iconst (v := 1) C d_Best_goToNext_79 rfl ?_
                refine x_isub C d_Best_goToNext_80 ?_
                refine x_nm (fun x23 hx23 => ?_)
                have hw := hw x23 hx23
                refine x_istore (L' := [some (.ref (xa X p0)), some (.int x1), some (.int x11), some (.int x17), some (.int x22), some (.int x23)]) C d_Best_goToNext_81 (Nat.le_of_ble_eq_true rfl) rfl ?_
                obtain ⟨I27, ⟨n28, hn28⟩, hI27⟩ := hw
                have lI27 : ∀ (nI27 : Nat) (x24 : Int32) (x25 : Int32) (s26 : St), I27 nI27 x24 x25 s26 → V X (xQ X (fun v s' => ∃ r : Bool, v = some (.int (bi r)) ∧ Q r s')) 0 0 s26 83 [some (.ref (xa X p0)), some (.int x1), some (.int x11), some (.int x17), some (.int x24), some (.int x25)] [] := by
                  intro nI27
                  induction nI27 using Nat.strongRecOn with
                  | ind nI27 ihI27 =>
                    intro x24 x25 s26 hv
                    have hw := hI27 nI27 x24 x25 s26 hv
                    refine x_iload C d_Best_goToNext_83 rfl ?_
                    refine x_iload C d_Best_goToNext_85 rfl ?_
                    refine x_icmp_ge (tgt := 107) C d_Best_goToNext_87 (by decide) (fun c29 => ?_) (fun c29 => ?_)
                    · have hw := hw.1 c29
                      refine x_iconst (v := 1) C d_Best_goToNext_107 rfl ?_
                      exact x_zreturn (b := true) C d_Best_goToNext_108 ⟨_, rfl, hw⟩
                    · have hw := hw.2 c29
                      refine x_aload_n C d_Best_goToNext_90 rfl ?_
                      refine x_iload C d_Best_goToNext_91 rfl ?_
                      refine x_iload C d_Best_goToNext_93 rfl ?_
                      refine x_callV (As := [.int x24, .int x25]) (rest := []) (p := p0) C (m_Best_exchange (xg X) C.2.2.2.2.2.2.1 p0 x24 x25 hk0 s26 _ hw) cw_Best_exchange ml_Best_71 hk0 (by decide) (by decide) rfl rfl rfl ⟨rfl, rfl, Nat.le_of_ble_eq_true rfl, Nat.le_of_ble_eq_true rfl⟩ ⟨Nat.zero_le _, Nat.zero_le _⟩ rfl (Nat.le_of_ble_eq_true rfl) d_Best_goToNext_95 ?_
                      rintro _ s30 ⟨rfl, hw⟩
                      show V X _ _ _ _ 98 [some (.ref (xa X p0)), some (.int x1), some (.int x11), some (.int x17), some (.int x24), some (.int x25)] []
                      obtain ⟨x31, hx31⟩ : ∃ z : Int32, z = x24 + 1 := ⟨_, rfl⟩
                      refine x_iinc (v := x31) (L' := [some (.ref (xa X p0)), some (.int x1), some (.int x11), some (.int x17), some (.int x31), some (.int x25)]) C d_Best_goToNext_98 (Nat.le_of_ble_eq_true rfl) rfl (by rw [hx31]; rfl) rfl ?_
                      have hw := hw x31 hx31
                      obtain ⟨x32, hx32⟩ : ∃ z : Int32, z = x25 + (-1) := ⟨_, rfl⟩
                      refine x_iinc (v := x32) (L' := [some (.ref (xa X p0)), some (.int x1), some (.int x11), some (.int x17), some (.int x31), some (.int x32)]) C d_Best_goToNext_101 (Nat.le_of_ble_eq_true rfl) rfl (by rw [hx32]; rfl) rfl ?_
                      have hw := hw x32 hx32
                      refine x_goto (tgt := 83) C d_Best_goToNext_104 (by decide) ?_
                      obtain ⟨m33, hm33, hw⟩ := hw
                      exact x_wk (ihI27 m33 hm33 x31 x32 s30 hw) (And.intro rfl (And.intro rfl (And.intro rfl (And.intro rfl (And.intro rfl (And.intro rfl (trivial)))))))
                exact x_wk (lI27 n28 x22 x23 s21 hn28) (And.intro rfl (And.intro rfl (And.intro rfl (And.intro rfl (And.intro rfl (And.intro rfl (trivial)))))))
              refine x_icmp_le (tgt := 67) C d_Best_goToNext_43 (by decide) (fun c34 => ?_) (fun c34 => ?_)
              · have hw := hw.1 c34
                exact x_wk (kJ20  hw) (And.intro rfl (And.intro rfl (And.intro rfl (And.intro rfl (trivial)))))
              · have hw := hw.2 c34
                refine x_aload_n C d_Best_goToNext_46 rfl ?_
                refine g_Best_2 (p := p0) C hk0 fl_Best_19 d_Best_goToNext_47 ?_
                refine x_iload_n C d_Best_goToNext_50 rfl ?_
                obtain ⟨h35, hw⟩ := hw
                refine x_iald (p := (p0 + 2)) (n := 6) C (ks_7_2 hk0) h35 d_Best_goToNext_51 ?_
                refine x_aload_n C d_Best_goToNext_52 rfl ?_
                refine g_Best_2 (p := p0) C hk0 fl_Best_19 d_Best_goToNext_53 ?_
                refine x_iload_n C d_Best_goToNext_56 rfl ?_
                obtain ⟨h36, hw⟩ := hw
                refine x_iald (p := (p0 + 2)) (n := 6) C (ks_7_2 hk0) h36 d_Best_goToNext_57 ?_
                refine x_icmp_ge (tgt := 67) C d_Best_goToNext_58 (by decide) (fun c37 => ?_) (fun c37 => ?_)
                · have hw := hw.1 c37
                  exact x_wk (kJ20  hw) (And.intro rfl (And.intro rfl (And.intro rfl (And.intro rfl (trivial)))))
                · have hw := hw.2 c37
                  obtain ⟨x38, hx38⟩ : ∃ z : Int32, z = x17 + (-1) := ⟨_, rfl⟩
                  refine x_iinc (v := x38) (L' := [some (.ref (xa X p0)), some (.int x1), some (.int x11), some (.int x38), none, none]) C d_Best_goToNext_61 (Nat.le_of_ble_eq_true rfl) rfl (by rw [hx38]; rfl) rfl ?_
                  have hw := hw x38 hx38
                  refine x_goto (tgt := 41) C d_Best_goToNext_64 (by decide) ?_
                  obtain ⟨m39, hm39, hw⟩ := hw
                  exact x_wk (ihI18 m39 hm39 x38 hw) (And.intro rfl (And.intro rfl (And.intro rfl (And.intro rfl (trivial)))))
          exact x_wk (lI18 n19 x16 hn19) (And.intro rfl (And.intro rfl (And.intro rfl (And.intro rfl (trivial)))))
        · have hw := hw.2 c15
          refine x_iconst (v := 0) C d_Best_goToNext_35 rfl ?_
          exact x_zreturn (b := false) C d_Best_goToNext_36 ⟨_, rfl, hw⟩
      refine x_if_lt (tgt := 31) C d_Best_goToNext_5 (by decide) (fun c40 => ?_) (fun c40 => ?_)
      · have hw := hw.1 c40
        exact x_wk (kJ14  hw) (And.intro rfl (And.intro rfl (And.intro rfl (trivial))))
      · have hw := hw.2 c40
        refine x_aload_n C d_Best_goToNext_8 rfl ?_
        refine g_Best_2 (p := p0) C hk0 fl_Best_19 d_Best_goToNext_9 ?_
        refine x_iload_n C d_Best_goToNext_12 rfl ?_
        obtain ⟨h41, hw⟩ := hw
        refine x_iald (p := (p0 + 2)) (n := 6) C (ks_7_2 hk0) h41 d_Best_goToNext_13 ?_
        refine x_aload_n C d_Best_goToNext_14 rfl ?_
        refine g_Best_2 (p := p0) C hk0 fl_Best_19 d_Best_goToNext_15 ?_
        refine x_iload_n C d_Best_goToNext_18 rfl ?_
        refine x_iconst (v := 1) C d_Best_goToNext_19 rfl ?_
        refine x_iadd C d_Best_goToNext_20 ?_
        obtain ⟨h42, hw⟩ := hw
        refine x_iald (p := (p0 + 2)) (n := 6) C (ks_7_2 hk0) h42 d_Best_goToNext_21 ?_
        refine x_icmp_le (tgt := 31) C d_Best_goToNext_22 (by decide) (fun c43 => ?_) (fun c43 => ?_)
        · have hw := hw.1 c43
          exact x_wk (kJ14  hw) (And.intro rfl (And.intro rfl (And.intro rfl (trivial))))
        · have hw := hw.2 c43
          obtain ⟨x44, hx44⟩ : ∃ z : Int32, z = x11 + (-1) := ⟨_, rfl⟩
          refine x_iinc (v := x44) (L' := [some (.ref (xa X p0)), some (.int x1), some (.int x44), none, none, none]) C d_Best_goToNext_25 (Nat.le_of_ble_eq_true rfl) rfl (by rw [hx44]; rfl) rfl ?_
          have hw := hw x44 hx44
          refine x_goto (tgt := 4) C d_Best_goToNext_28 (by decide) ?_
          obtain ⟨m45, hm45, hw⟩ := hw
          exact x_wk (ihI12 m45 hm45 x44 hw) (And.intro rfl (And.intro rfl (And.intro rfl (trivial))))
  exact x_wk (lI12 n13 x10 hn13) (And.intro rfl (And.intro rfl (And.intro rfl (trivial))))
def vc_Best_weigh (p0 : Nat) (p1 : Nat) (s : St) (Q : St → Prop) : Prop :=
    (∃ J11 : Int32 → Prop, (∀ (x10 : Int32), J11 x10 → (∃ J12 : Prop, (J12 → (∀ s13 : St, s13 = wr s p0 1 (s p1 1) → (∀ s14 : St, s14 = wr s13 p0 3 (s13 p1 4) → (cpok 0 0 6 6 6 ∧ (∀ s16 : St, s16 = wcp s14 (p0 + 2) (p0 + 1) (Int32.toNatClampNeg 0) (Int32.toNatClampNeg 0) (Int32.toNatClampNeg 6) → Q s16))))) ∧ (((s p0 1) < (s p1 1) → J12) ∧ (¬ (s p0 1) < (s p1 1) → ((x10 = 0 → Q s) ∧ (¬ x10 = 0 → J12)))))) ∧ (∃ J19 : Prop, (J19 → J11 0) ∧ ((¬ (s p1 1) = (s p0 1) → J19) ∧ ((s p1 1) = (s p0 1) → (((s p0 3) ≤ (s p1 4) → J19) ∧ (¬ (s p0 3) ≤ (s p1 4) → J11 1))))))
def rm_Best_weigh : Room := { frames := 1, cells := 0, slots := 0, locals := 26 }
set_option maxHeartbeats 4000000 in
set_option maxRecDepth 20000 in
theorem m_Best_weigh (g : Gx) (hg : gOk g) (p0 : Nat) (p1 : Nat) (hk0 : kd p0 = 7) (hk1 : kd p1 = 6) (s : St) (Q : St → Prop) (hw : vc_Best_weigh p0 p1 s Q) : Mc g y_Best_weigh b_Best_weigh 3 (none) rm_Best_weigh [.ref (ga g p0), .ref (ga g p1)] s (fun v s' => v = none ∧ Q s') := by
  refine mc_ofV (j := 1) (L := [some (.ref (ga g p0)), some (.ref (ga g p1)), none]) hg (by decide) (Nat.le_of_ble_eq_true rfl) rfl ?_
  intro X hX C
  subst hX
  unfold vc_Best_weigh at hw
  refine x_aload_n C d_Best_weigh_0 rfl ?_
  refine g_Leg_1 (p := p1) C hk1 fl_Best_59 d_Best_weigh_1 ?_
  refine x_aload_n C d_Best_weigh_4 rfl ?_
  refine g_Best_1 (p := p0) C hk0 fl_Best_15 d_Best_weigh_5 ?_
  obtain ⟨J11, hJ11, hw⟩ := hw
  have kJ11 : ∀ (x10 : Int32), J11 x10 → V X (xQ X (fun v s' => v = none ∧ Q s')) 0 0 s 27 [some (.ref (xa X p0)), some (.ref (xa X p1)), none] [.int x10] := by
    intro x10 hv
    have hw := hJ11 x10 hv
    refine x_istore_n (L' := [some (.ref (xa X p0)), some (.ref (xa X p1)), some (.int x10)]) C d_Best_weigh_27 (Nat.le_of_ble_eq_true rfl) rfl ?_
    refine x_aload_n C d_Best_weigh_28 rfl ?_
    refine g_Leg_1 (p := p1) C hk1 fl_Best_59 d_Best_weigh_29 ?_
    refine x_aload_n C d_Best_weigh_32 rfl ?_
    refine g_Best_1 (p := p0) C hk0 fl_Best_15 d_Best_weigh_33 ?_
    obtain ⟨J12, hJ12, hw⟩ := hw
    have kJ12 : J12 → V X (xQ X (fun v s' => v = none ∧ Q s')) 0 0 s 43 [some (.ref (xa X p0)), some (.ref (xa X p1)), some (.int x10)] [] := by
      intro  hv
      have hw := hJ12  hv
      refine x_aload_n C d_Best_weigh_43 rfl ?_
      refine x_aload_n C d_Best_weigh_44 rfl ?_
      refine g_Leg_1 (p := p1) C hk1 fl_Best_59 d_Best_weigh_45 ?_
      refine p_Best_1 (p := p0) C hk0 fl_Best_15 d_Best_weigh_48 ?_
      refine x_st (fun s13 hs13 => ?_)
      have hw := hw s13 hs13
      refine x_aload_n C d_Best_weigh_51 rfl ?_
      refine x_aload_n C d_Best_weigh_52 rfl ?_
      refine g_Leg_4 (p := p1) C hk1 fl_Best_64 d_Best_weigh_53 ?_
      refine p_Best_3 (p := p0) C hk0 fl_Best_22 d_Best_weigh_56 ?_
      refine x_st (fun s14 hs14 => ?_)
      have hw := hw s14 hs14
      refine x_aload_n C d_Best_weigh_59 rfl ?_
      refine g_Best_2 (p := p0) C hk0 fl_Best_19 d_Best_weigh_60 ?_
      refine x_iconst (v := 0) C d_Best_weigh_63 rfl ?_
      refine x_aload_n C d_Best_weigh_64 rfl ?_
      refine g_Best_0 (p := p0) C hk0 fl_Best_9 d_Best_weigh_65 ?_
      refine x_iconst (v := 0) C d_Best_weigh_68 rfl ?_
      refine x_bipush (v := 6) C d_Best_weigh_69 rfl ?_
      obtain ⟨h15, hw⟩ := hw
      refine x_copy (d := (p0 + 2)) (e := (p0 + 1)) (n0 := 6) (n1 := 6) C (ks_7_2 hk0) (ks_7_1 hk0) h15 ml_Best_65 (Nat.le_of_ble_eq_true rfl) (Nat.le_of_ble_eq_true rfl) d_Best_weigh_71 ?_
      refine x_st (fun s16 hs16 => ?_)
      have hw := hw s16 hs16
      exact x_return C d_Best_weigh_74 ⟨rfl, hw⟩
    refine x_icmp_gt (tgt := 43) C d_Best_weigh_36 (by decide) (fun c17 => ?_) (fun c17 => ?_)
    · have hw := hw.1 c17
      exact x_wk (kJ12  hw) (And.intro rfl (And.intro rfl (And.intro rfl (trivial))))
    · have hw := hw.2 c17
      refine x_iload_n C d_Best_weigh_39 rfl ?_
      refine x_if_eq (tgt := 74) C d_Best_weigh_40 (by decide) (fun c18 => ?_) (fun c18 => ?_)
      · have hw := hw.1 c18
        exact x_return C d_Best_weigh_74 ⟨rfl, hw⟩
      · have hw := hw.2 c18
        exact x_wk (kJ12  hw) (And.intro rfl (And.intro rfl (And.intro rfl (trivial))))
  obtain ⟨J19, hJ19, hw⟩ := hw
  have kJ19 : J19 → V X (xQ X (fun v s' => v = none ∧ Q s')) 0 0 s 26 [some (.ref (xa X p0)), some (.ref (xa X p1)), none] [] := by
    intro  hv
    have hw := hJ19  hv
    refine x_iconst (v := 0) C d_Best_weigh_26 rfl ?_
    exact x_wk (kJ11 0 hw) (And.intro rfl (And.intro rfl (trivial)))
  refine x_icmp_ne (tgt := 26) C d_Best_weigh_8 (by decide) (fun c20 => ?_) (fun c20 => ?_)
  · have hw := hw.1 c20
    exact x_wk (kJ19  hw) (And.intro rfl (And.intro rfl (trivial)))
  · have hw := hw.2 c20
    refine x_aload_n C d_Best_weigh_11 rfl ?_
    refine g_Leg_4 (p := p1) C hk1 fl_Best_64 d_Best_weigh_12 ?_
    refine x_aload_n C d_Best_weigh_15 rfl ?_
    refine g_Best_3 (p := p0) C hk0 fl_Best_22 d_Best_weigh_16 ?_
    refine x_icmp_ge (tgt := 26) C d_Best_weigh_19 (by decide) (fun c21 => ?_) (fun c21 => ?_)
    · have hw := hw.1 c21
      exact x_wk (kJ19  hw) (And.intro rfl (And.intro rfl (trivial)))
    · have hw := hw.2 c21
      refine x_iconst (v := 1) C d_Best_weigh_22 rfl ?_
      refine x_goto (tgt := 27) C d_Best_weigh_23 (by decide) ?_
      exact x_wk (kJ11 1 hw) (And.intro rfl (And.intro rfl (trivial)))
def vc_Leg_begin (p0 : Nat) (x1 : Int32) (s : St) (Q : St → Prop) : Prop :=
    (∀ s10 : St, s10 = wr s p0 0 0 → (∀ s11 : St, s11 = wr s10 p0 1 0 → (∀ s12 : St, s12 = wr s11 p0 2 (-4) → (∀ s13 : St, s13 = wr s12 p0 3 (-4) → (∀ s14 : St, s14 = wr s13 p0 4 x1 → (∀ s15 : St, s15 = wr s14 p0 5 0 → Q s15))))))
def rm_Leg_begin : Room := { frames := 0, cells := 0, slots := 0, locals := 0 }
set_option maxHeartbeats 4000000 in
set_option maxRecDepth 20000 in
theorem m_Leg_begin (g : Gx) (hg : gOk g) (p0 : Nat) (x1 : Int32) (hk0 : kd p0 = 6) (s : St) (Q : St → Prop) (hw : vc_Leg_begin p0 x1 s Q) : Mc g y_Leg_begin b_Leg_begin 2 (none) rm_Leg_begin [.ref (ga g p0), .int x1] s (fun v s' => v = none ∧ Q s') := by
  refine mc_ofV (j := 0) (L := [some (.ref (ga g p0)), some (.int x1)]) hg (by decide) (Nat.le_of_ble_eq_true rfl) rfl ?_
  intro X hX C
  subst hX
  unfold vc_Leg_begin at hw
  refine x_aload_n C d_Leg_begin_0 rfl ?_
  refine x_iconst (v := 0) C d_Leg_begin_1 rfl ?_
  refine p_Leg_0 (p := p0) C hk0 fl_Leg_9 d_Leg_begin_2 ?_
  refine x_st (fun s10 hs10 => ?_)
  have hw := hw s10 hs10
  refine x_aload_n C d_Leg_begin_5 rfl ?_
  refine x_iconst (v := 0) C d_Leg_begin_6 rfl ?_
  refine p_Leg_1 (p := p0) C hk0 fl_Leg_15 d_Leg_begin_7 ?_
  refine x_st (fun s11 hs11 => ?_)
  have hw := hw s11 hs11
  refine x_aload_n C d_Leg_begin_10 rfl ?_
  refine x_bipush (v := (-4)) C d_Leg_begin_11 rfl ?_
  refine p_Leg_2 (p := p0) C hk0 fl_Leg_18 d_Leg_begin_13 ?_
  refine x_st (fun s12 hs12 => ?_)
  have hw := hw s12 hs12
  refine x_aload_n C d_Leg_begin_16 rfl ?_
  refine x_bipush (v := (-4)) C d_Leg_begin_17 rfl ?_
  refine p_Leg_3 (p := p0) C hk0 fl_Leg_21 d_Leg_begin_19 ?_
  refine x_st (fun s13 hs13 => ?_)
  have hw := hw s13 hs13
  refine x_aload_n C d_Leg_begin_22 rfl ?_
  refine x_iload_n C d_Leg_begin_23 rfl ?_
  refine p_Leg_4 (p := p0) C hk0 fl_Leg_24 d_Leg_begin_24 ?_
  refine x_st (fun s14 hs14 => ?_)
  have hw := hw s14 hs14
  refine x_aload_n C d_Leg_begin_27 rfl ?_
  refine x_iconst (v := 0) C d_Leg_begin_28 rfl ?_
  refine p_Leg_5 (p := p0) C hk0 fl_Leg_27 d_Leg_begin_29 ?_
  refine x_st (fun s15 hs15 => ?_)
  have hw := hw s15 hs15
  exact x_return C d_Leg_begin_32 ⟨rfl, hw⟩
def vc_Bod_bulkOf (p0 : Nat) (x1 : Int32) (x2 : Int32) (x3 : Int32) (s : St) (Q : Int32 → Prop) : Prop :=
    (∃ J11 : Int32 → Prop, (∀ (x10 : Int32), J11 x10 → (vp_in x1 6 ∧ (∃ J14 : Int32 → Prop, (∀ (x13 : Int32), J14 x13 → (vp_in x1 6 ∧ Q ((((s (p0 + 1) (Int32.toNatClampNeg x1)) - x13) + ((s (p0 + 3) (Int32.toNatClampNeg x1)) / 3)) - x10))) ∧ ((x3 = 0 → J14 0) ∧ (¬ x3 = 0 → (vp_in x1 6 ∧ J14 (s (p0 + 2) (Int32.toNatClampNeg x1)))))))) ∧ ((¬ (x2 - x2 / 2 * 2) = 0 → J11 0) ∧ ((x2 - x2 / 2 * 2) = 0 → J11 1)))
def rm_Bod_bulkOf : Room := { frames := 0, cells := 0, slots := 0, locals := 0 }
set_option maxHeartbeats 4000000 in
set_option maxRecDepth 20000 in
theorem m_Bod_bulkOf (g : Gx) (hg : gOk g) (p0 : Nat) (x1 : Int32) (x2 : Int32) (x3 : Int32) (hk0 : kd p0 = 4) (s : St) (Q : Int32 → Prop) (hw : vc_Bod_bulkOf p0 x1 x2 x3 s Q) : Mc g y_Bod_bulkOf b_Bod_bulkOf 5 (some FieldType.int) rm_Bod_bulkOf [.ref (ga g p0), .int x1, .int x2, .int x3] s (fun v s' => ∃ r : Int32, v = some (.int r) ∧ s = s' ∧ Q r) := by
  refine mc_ofV (j := 1) (L := [some (.ref (ga g p0)), some (.int x1), some (.int x2), some (.int x3), none]) hg (by decide) (Nat.le_of_ble_eq_true rfl) rfl ?_
  intro X hX C
  subst hX
  unfold vc_Bod_bulkOf at hw
  refine x_iload_n C d_Bod_bulkOf_0 rfl ?_
  refine x_iconst (v := 2) C d_Bod_bulkOf_1 rfl ?_
  refine x_irem C d_Bod_bulkOf_2 (by decide) ?_
  obtain ⟨J11, hJ11, hw⟩ := hw
  have kJ11 : ∀ (x10 : Int32), J11 x10 → V X (xQ X (fun v s' => ∃ r : Int32, v = some (.int r) ∧ s = s' ∧ Q r)) 0 0 s 11 [some (.ref (xa X p0)), some (.int x1), some (.int x2), some (.int x3), none] [.int x10] := by
    intro x10 hv
    have hw := hJ11 x10 hv
    refine x_istore (L' := [some (.ref (xa X p0)), some (.int x1), some (.int x2), some (.int x3), some (.int x10)]) C d_Bod_bulkOf_11 (Nat.le_of_ble_eq_true rfl) rfl ?_
    refine x_aload_n C d_Bod_bulkOf_13 rfl ?_
    refine g_Bod_1 (p := p0) C hk0 fl_Bod_15 d_Bod_bulkOf_14 ?_
    refine x_iload_n C d_Bod_bulkOf_17 rfl ?_
    obtain ⟨h12, hw⟩ := hw
    refine x_iald (p := (p0 + 1)) (n := 6) C (ks_4_1 hk0) h12 d_Bod_bulkOf_18 ?_
    refine x_iload_n C d_Bod_bulkOf_19 rfl ?_
    obtain ⟨J14, hJ14, hw⟩ := hw
    have kJ14 : ∀ (x13 : Int32), J14 x13 → V X (xQ X (fun v s' => ∃ r : Int32, v = some (.int r) ∧ s = s' ∧ Q r)) 0 0 s 33 [some (.ref (xa X p0)), some (.int x1), some (.int x2), some (.int x3), some (.int x10)] [.int x13, .int (s (p0 + 1) (Int32.toNatClampNeg x1))] := by
      intro x13 hv
      have hw := hJ14 x13 hv
      refine x_isub C d_Bod_bulkOf_33 ?_
      refine x_aload_n C d_Bod_bulkOf_34 rfl ?_
      refine g_Bod_3 (p := p0) C hk0 fl_Bod_22 d_Bod_bulkOf_35 ?_
      refine x_iload_n C d_Bod_bulkOf_38 rfl ?_
      obtain ⟨h15, hw⟩ := hw
      refine x_iald (p := (p0 + 3)) (n := 6) C (ks_4_3 hk0) h15 d_Bod_bulkOf_39 ?_
      refine x_iconst (v := 3) C d_Bod_bulkOf_40 rfl ?_
      refine x_idiv C d_Bod_bulkOf_41 (by decide) ?_
      refine x_iadd C d_Bod_bulkOf_42 ?_
      refine x_iload C d_Bod_bulkOf_43 rfl ?_
      refine x_isub C d_Bod_bulkOf_45 ?_
      exact x_ireturn C d_Bod_bulkOf_46 ⟨_, rfl, rfl, hw⟩
    refine x_if_eq (tgt := 32) C d_Bod_bulkOf_20 (by decide) (fun c16 => ?_) (fun c16 => ?_)
    · have hw := hw.1 c16
      refine x_iconst (v := 0) C d_Bod_bulkOf_32 rfl ?_
      exact x_wk (kJ14 0 hw) (And.intro rfl (And.intro rfl (And.intro rfl (And.intro rfl (And.intro rfl (trivial))))))
    · have hw := hw.2 c16
      refine x_aload_n C d_Bod_bulkOf_23 rfl ?_
      refine g_Bod_2 (p := p0) C hk0 fl_Bod_19 d_Bod_bulkOf_24 ?_
      refine x_iload_n C d_Bod_bulkOf_27 rfl ?_
      obtain ⟨h17, hw⟩ := hw
      refine x_iald (p := (p0 + 2)) (n := 6) C (ks_4_2 hk0) h17 d_Bod_bulkOf_28 ?_
      refine x_goto (tgt := 33) C d_Bod_bulkOf_29 (by decide) ?_
      exact x_wk (kJ14 (s (p0 + 2) (Int32.toNatClampNeg x1)) hw) (And.intro rfl (And.intro rfl (And.intro rfl (And.intro rfl (And.intro rfl (trivial))))))
  refine x_if_ne (tgt := 10) C d_Bod_bulkOf_3 (by decide) (fun c18 => ?_) (fun c18 => ?_)
  · have hw := hw.1 c18
    refine x_iconst (v := 0) C d_Bod_bulkOf_10 rfl ?_
    exact x_wk (kJ11 0 hw) (And.intro rfl (And.intro rfl (And.intro rfl (And.intro rfl (trivial)))))
  · have hw := hw.2 c18
    refine x_iconst (v := 1) C d_Bod_bulkOf_6 rfl ?_
    refine x_goto (tgt := 11) C d_Bod_bulkOf_7 (by decide) ?_
    exact x_wk (kJ11 1 hw) (And.intro rfl (And.intro rfl (And.intro rfl (And.intro rfl (trivial)))))
def vc_Cav_waterAt (p0 : Nat) (x1 : Int32) (s : St) (Q : Int32 → Prop) : Prop :=
    Q ((x1 / 60) * (s p0 2))
def rm_Cav_waterAt : Room := { frames := 0, cells := 0, slots := 0, locals := 0 }
set_option maxHeartbeats 4000000 in
set_option maxRecDepth 20000 in
theorem m_Cav_waterAt (g : Gx) (hg : gOk g) (p0 : Nat) (x1 : Int32) (hk0 : kd p0 = 2) (s : St) (Q : Int32 → Prop) (hw : vc_Cav_waterAt p0 x1 s Q) : Mc g y_Cav_waterAt b_Cav_waterAt 2 (some FieldType.int) rm_Cav_waterAt [.ref (ga g p0), .int x1] s (fun v s' => ∃ r : Int32, v = some (.int r) ∧ s = s' ∧ Q r) := by
  refine mc_ofV (j := 0) (L := [some (.ref (ga g p0)), some (.int x1)]) hg (by decide) (Nat.le_of_ble_eq_true rfl) rfl ?_
  intro X hX C
  subst hX
  unfold vc_Cav_waterAt at hw
  refine x_iload_n C d_Cav_waterAt_0 rfl ?_
  refine x_bipush (v := 60) C d_Cav_waterAt_1 rfl ?_
  refine x_idiv C d_Cav_waterAt_3 (by decide) ?_
  refine x_aload_n C d_Cav_waterAt_4 rfl ?_
  refine g_Cav_2 (p := p0) C hk0 fl_Cav_25 d_Cav_waterAt_5 ?_
  refine x_imul C d_Cav_waterAt_8 ?_
  exact x_ireturn C d_Cav_waterAt_9 ⟨_, rfl, rfl, hw⟩
def vc_Yar_moreBy (p0 : Nat) (x1 : Int32) (s : St) (Q : Nat → Prop) : Prop :=
    (∃ J11 : Nat → Prop, (∀ (p10 : Nat), kd p10 = 112 → J11 p10 → Q p10) ∧ ((x1 < 2 → J11 (p0 + 7)) ∧ (¬ x1 < 2 → J11 (p0 + 8))))
def rm_Yar_moreBy : Room := { frames := 0, cells := 0, slots := 0, locals := 0 }
set_option maxHeartbeats 4000000 in
set_option maxRecDepth 20000 in
theorem m_Yar_moreBy (g : Gx) (hg : gOk g) (p0 : Nat) (x1 : Int32) (hk0 : kd p0 = 3) (s : St) (Q : Nat → Prop) (hw : vc_Yar_moreBy p0 x1 s Q) : Mc g y_Yar_moreBy b_Yar_moreBy 2 (some (FieldType.array FieldType.int)) rm_Yar_moreBy [.ref (ga g p0), .int x1] s (fun v s' => ∃ r : Nat, v = some (.ref (ga g r)) ∧ kd r = 112 ∧ s = s' ∧ Q r) := by
  refine mc_ofV (j := 0) (L := [some (.ref (ga g p0)), some (.int x1)]) hg (by decide) (Nat.le_of_ble_eq_true rfl) rfl ?_
  intro X hX C
  subst hX
  unfold vc_Yar_moreBy at hw
  refine x_iload_n C d_Yar_moreBy_0 rfl ?_
  refine x_iconst (v := 2) C d_Yar_moreBy_1 rfl ?_
  obtain ⟨J11, hJ11, hw⟩ := hw
  have kJ11 : ∀ (p10 : Nat) (hkp10 : kd p10 = 112), J11 p10 → V X (xQ X (fun v s' => ∃ r : Nat, v = some (.ref (ga (xg X) r)) ∧ kd r = 112 ∧ s = s' ∧ Q r)) 0 0 s 16 [some (.ref (xa X p0)), some (.int x1)] [.ref (xa X p10)] := by
    intro p10 hkp10 hv
    have hw := hJ11 p10 hkp10 hv
    exact x_areturn C (by first | exact Or.inl ⟨_, rfl⟩ | exact Or.inr ⟨_, rfl⟩) d_Yar_moreBy_16 ⟨_, rfl, hkp10, rfl, hw⟩
  refine x_icmp_lt (tgt := 12) C d_Yar_moreBy_2 (by decide) (fun c12 => ?_) (fun c12 => ?_)
  · have hw := hw.1 c12
    refine x_aload_n C d_Yar_moreBy_12 rfl ?_
    refine g_Yar_7 (p := p0) C hk0 fl_Yar_34 d_Yar_moreBy_13 ?_
    exact x_wk (kJ11 (p0 + 7) (ks_3_7 hk0) hw) (And.intro rfl (And.intro rfl (trivial)))
  · have hw := hw.2 c12
    refine x_aload_n C d_Yar_moreBy_5 rfl ?_
    refine g_Yar_8 (p := p0) C hk0 fl_Yar_37 d_Yar_moreBy_6 ?_
    refine x_goto (tgt := 16) C d_Yar_moreBy_9 (by decide) ?_
    exact x_wk (kJ11 (p0 + 8) (ks_3_8 hk0) hw) (And.intro rfl (And.intro rfl (trivial)))
def vc_Yar_roomAt (p0 : Nat) (x1 : Int32) (x2 : Int32) (s : St) (Q : Int32 → Prop) : Prop :=
    (vp_in x1 12 ∧ ((¬ (s (p0 + 1) (Int32.toNatClampNeg x1)) = 5 → (vp_in x1 12 ∧ Q (s (p0 + 4) (Int32.toNatClampNeg x1)))) ∧ ((s (p0 + 1) (Int32.toNatClampNeg x1)) = 5 → (vp_in x1 12 ∧ Q (imax 0 ((s (p0 + 4) (Int32.toNatClampNeg x1)) - x2))))))
def rm_Yar_roomAt : Room := { frames := 1, cells := 0, slots := 0, locals := 21 }
set_option maxHeartbeats 4000000 in
set_option maxRecDepth 20000 in
theorem m_Yar_roomAt (g : Gx) (hg : gOk g) (p0 : Nat) (x1 : Int32) (x2 : Int32) (hk0 : kd p0 = 3) (s : St) (Q : Int32 → Prop) (hw : vc_Yar_roomAt p0 x1 x2 s Q) : Mc g y_Yar_roomAt b_Yar_roomAt 3 (some FieldType.int) rm_Yar_roomAt [.ref (ga g p0), .int x1, .int x2] s (fun v s' => ∃ r : Int32, v = some (.int r) ∧ s = s' ∧ Q r) := by
  refine mc_ofV (j := 0) (L := [some (.ref (ga g p0)), some (.int x1), some (.int x2)]) hg (by decide) (Nat.le_of_ble_eq_true rfl) rfl ?_
  intro X hX C
  subst hX
  unfold vc_Yar_roomAt at hw
  refine x_aload_n C d_Yar_roomAt_0 rfl ?_
  refine g_Yar_1 (p := p0) C hk0 fl_Yar_15 d_Yar_roomAt_1 ?_
  refine x_iload_n C d_Yar_roomAt_4 rfl ?_
  obtain ⟨h10, hw⟩ := hw
  refine x_iald (p := (p0 + 1)) (n := 12) C (ks_3_1 hk0) h10 d_Yar_roomAt_5 ?_
  refine x_iconst (v := 5) C d_Yar_roomAt_6 rfl ?_
  refine x_icmp_ne (tgt := 25) C d_Yar_roomAt_7 (by decide) (fun c11 => ?_) (fun c11 => ?_)
  · have hw := hw.1 c11
    refine x_aload_n C d_Yar_roomAt_25 rfl ?_
    refine g_Yar_4 (p := p0) C hk0 fl_Yar_25 d_Yar_roomAt_26 ?_
    refine x_iload_n C d_Yar_roomAt_29 rfl ?_
    obtain ⟨h12, hw⟩ := hw
    refine x_iald (p := (p0 + 4)) (n := 12) C (ks_3_4 hk0) h12 d_Yar_roomAt_30 ?_
    exact x_ireturn C d_Yar_roomAt_31 ⟨_, rfl, rfl, hw⟩
  · have hw := hw.2 c11
    refine x_iconst (v := 0) C d_Yar_roomAt_10 rfl ?_
    refine x_aload_n C d_Yar_roomAt_11 rfl ?_
    refine g_Yar_4 (p := p0) C hk0 fl_Yar_25 d_Yar_roomAt_12 ?_
    refine x_iload_n C d_Yar_roomAt_15 rfl ?_
    obtain ⟨h13, hw⟩ := hw
    refine x_iald (p := (p0 + 4)) (n := 12) C (ks_3_4 hk0) h13 d_Yar_roomAt_16 ?_
    refine x_iload_n C d_Yar_roomAt_17 rfl ?_
    refine x_isub C d_Yar_roomAt_18 ?_
    refine x_mmax C ml_Yar_62 (Nat.le_of_ble_eq_true rfl) (Nat.le_of_ble_eq_true rfl) ⟨Nat.zero_le _, Nat.zero_le _⟩ d_Yar_roomAt_19 ?_
    refine x_goto (tgt := 31) C d_Yar_roomAt_22 (by decide) ?_
    exact x_ireturn C d_Yar_roomAt_31 ⟨_, rfl, rfl, hw⟩
def vc_Leg_passOne (p0 : Nat) (p1 : Nat) (x2 : Int32) (x3 : Int32) (x4 : Int32) (s : St) (Q : St → Prop) : Prop :=
    (vp_in x2 6 ∧ (∀ x11 : Int32, x11 = s (p1 + 10 + 5) (Int32.toNatClampNeg x2) → vc_Yar_moreBy (p1 + 1) x11 s (fun p12 => kd p12 = 112 → (∃ J15 : Nat → Prop, (∀ (p14 : Nat), kd p14 = 112 → J15 p14 → vc_Bod_bulkOf (p1 + 10) x2 x11 1 s (fun x16 => (vp_in x2 6 ∧ (∀ x19 : Int32, x19 = s (p1 + 10 + 2) (Int32.toNatClampNeg x2) → (∃ I22 : Nat → Int32 → St → Prop, (∃ n23, I22 n23 0 s) ∧ ∀ (nI22 : Nat) (x20 : Int32) (s21 : St), I22 nI22 x20 s21 → (((s21 (p1 + 1) 0) ≤ x20 → Q s21) ∧ (¬ (s21 (p1 + 1) 0) ≤ x20 → (∃ J26 : Int32 → Prop, (∀ (x25 : Int32), J26 x25 → (vp_in x25 12 ∧ vc_Cav_waterAt p1 (s21 p0 4) s21 (fun x28 => vc_Yar_roomAt (p1 + 1) x25 x28 s21 (fun x30 => (∀ x32 : Int32, x32 = (x16 + (s21 p12 (Int32.toNatClampNeg x25))) - x30 → ((x32 ≤ x4 → (vp_in x25 12 ∧ (∀ s35 : St, s35 = wr s21 p0 4 ((s21 p0 4) + (s21 p14 (Int32.toNatClampNeg x25))) → (∃ J37 : St → Prop, (∀ (s36 : St), J37 s36 → (∀ x38 : Int32, x38 = x20 + 1 → ∃ m39, m39 < nI22 ∧ I22 m39 x38 s36)) ∧ ((x32 ≤ 0 → (((x32 + x19) ≤ 0 → J37 s35) ∧ (¬ (x32 + x19) ≤ 0 → (∀ s42 : St, s42 = wr s35 p0 4 ((s35 p0 4) + 1) → (∀ s43 : St, s43 = wr s42 p0 5 ((s42 p0 5) + 1) → J37 s43))))) ∧ (¬ x32 ≤ 0 → (∀ s44 : St, s44 = wr s35 p0 4 ((s35 p0 4) + 10) → J37 s44))))))) ∧ (¬ x32 ≤ x4 → (∀ s45 : St, s45 = wr s21 p0 2 x2 → (∀ s46 : St, s46 = wr s45 p0 3 x25 → Q s46))))))))) ∧ ((x3 = 0 → J26 x20) ∧ (¬ x3 = 0 → J26 (((s21 (p1 + 1) 0) - 1) - x20))))))))))) ∧ ((x3 = 0 → J15 (p1 + 1 + 5)) ∧ (¬ x3 = 0 → J15 (p1 + 1 + 6)))))))
def rm_Leg_passOne : Room := { frames := 2, cells := 0, slots := 0, locals := 43 }
set_option maxHeartbeats 4000000 in
set_option maxRecDepth 20000 in
theorem m_Leg_passOne (g : Gx) (hg : gOk g) (p0 : Nat) (p1 : Nat) (x2 : Int32) (x3 : Int32) (x4 : Int32) (hk0 : kd p0 = 6) (hk1 : kd p1 = 2) (s : St) (Q : St → Prop) (hw : vc_Leg_passOne p0 p1 x2 x3 x4 s Q) : Mc g y_Leg_passOne b_Leg_passOne 14 (none) rm_Leg_passOne [.ref (ga g p0), .ref (ga g p1), .int x2, .int x3, .int x4] s (fun v s' => v = none ∧ Q s') := by
  refine mc_ofV (j := 9) (L := [some (.ref (ga g p0)), some (.ref (ga g p1)), some (.int x2), some (.int x3), some (.int x4), none, none, none, none, none, none, none, none, none]) hg (by decide) (Nat.le_of_ble_eq_true rfl) rfl ?_
  intro X hX C
  subst hX
  unfold vc_Leg_passOne at hw
  refine x_aload_n C d_Leg_passOne_0 rfl ?_
  refine g_Cav_0 (p := p1) C hk1 fl_Leg_59 d_Leg_passOne_1 ?_
  refine x_astore (L' := [some (.ref (xa X p0)), some (.ref (xa X p1)), some (.int x2), some (.int x3), some (.int x4), some (.ref (xa X (p1 + 1))), none, none, none, none, none, none, none, none]) C d_Leg_passOne_4 (Nat.le_of_ble_eq_true rfl) rfl ?_
  refine x_aload_n C d_Leg_passOne_6 rfl ?_
  refine g_Cav_1 (p := p1) C hk1 fl_Leg_38 d_Leg_passOne_7 ?_
  refine g_Bod_5 (p := (p1 + 10)) C (ks_2_10 hk1) fl_Leg_63 d_Leg_passOne_10 ?_
  refine x_iload_n C d_Leg_passOne_13 rfl ?_
  obtain ⟨h10, hw⟩ := hw
  refine x_iald (p := (p1 + 10 + 5)) (n := 6) C (ks_4_5 (ks_2_10 hk1)) h10 d_Leg_passOne_14 ?_
  refine x_nm (fun x11 hx11 => ?_)
  have hw := hw x11 hx11
  refine x_istore (L' := [some (.ref (xa X p0)), some (.ref (xa X p1)), some (.int x2), some (.int x3), some (.int x4), some (.ref (xa X (p1 + 1))), some (.int x11), none, none, none, none, none, none, none]) C d_Leg_passOne_15 (Nat.le_of_ble_eq_true rfl) rfl ?_
  refine x_aload C d_Leg_passOne_17 rfl ?_
  refine x_iload C d_Leg_passOne_19 rfl ?_
  refine x_callV (As := [.int x11]) (rest := []) (p := (p1 + 1)) C (m_Yar_moreBy (xg X) C.2.2.2.2.2.2.1 (p1 + 1) x11 (ks_2_1 hk1) s _ hw) cw_Yar_moreBy ml_Leg_66 (ks_2_1 hk1) (by decide) (by decide) rfl rfl rfl ⟨rfl, rfl, Nat.le_of_ble_eq_true rfl, Nat.le_of_ble_eq_true rfl⟩ ⟨Nat.zero_le _, Nat.zero_le _⟩ rfl (Nat.le_of_ble_eq_true rfl) d_Leg_passOne_21 ?_
  rintro _ _ ⟨p12, rfl, hkp12, rfl, hw⟩
  have hw := hw hkp12
  show V X _ _ _ _ 24 [some (.ref (xa X p0)), some (.ref (xa X p1)), some (.int x2), some (.int x3), some (.int x4), some (.ref (xa X (p1 + 1))), some (.int x11), none, none, none, none, none, none, none] [.ref (xa X p12)]
  refine x_astore (L' := [some (.ref (xa X p0)), some (.ref (xa X p1)), some (.int x2), some (.int x3), some (.int x4), some (.ref (xa X (p1 + 1))), some (.int x11), some (.ref (xa X p12)), none, none, none, none, none, none]) C d_Leg_passOne_24 (Nat.le_of_ble_eq_true rfl) rfl ?_
  refine x_iload_n C d_Leg_passOne_26 rfl ?_
  obtain ⟨J15, hJ15, hw⟩ := hw
  have kJ15 : ∀ (p14 : Nat) (hkp14 : kd p14 = 112), J15 p14 → V X (xQ X (fun v s' => v = none ∧ Q s')) 0 0 s 43 [some (.ref (xa X p0)), some (.ref (xa X p1)), some (.int x2), some (.int x3), some (.int x4), some (.ref (xa X (p1 + 1))), some (.int x11), some (.ref (xa X p12)), none, none, none, none, none, none] [.ref (xa X p14)] := by
    intro p14 hkp14 hv
    have hw := hJ15 p14 hkp14 hv
    refine x_astore (L' := [some (.ref (xa X p0)), some (.ref (xa X p1)), some (.int x2), some (.int x3), some (.int x4), some (.ref (xa X (p1 + 1))), some (.int x11), some (.ref (xa X p12)), some (.ref (xa X p14)), none, none, none, none, none]) C d_Leg_passOne_43 (Nat.le_of_ble_eq_true rfl) rfl ?_
    refine x_aload_n C d_Leg_passOne_45 rfl ?_
    refine g_Cav_1 (p := p1) C hk1 fl_Leg_38 d_Leg_passOne_46 ?_
    refine x_iload_n C d_Leg_passOne_49 rfl ?_
    refine x_iload C d_Leg_passOne_50 rfl ?_
    refine x_iconst (v := 1) C d_Leg_passOne_52 rfl ?_
    refine x_callV (As := [.int x2, .int x11, .int 1]) (rest := []) (p := (p1 + 10)) C (m_Bod_bulkOf (xg X) C.2.2.2.2.2.2.1 (p1 + 10) x2 x11 1 (ks_2_10 hk1) s _ hw) cw_Bod_bulkOf ml_Leg_78 (ks_2_10 hk1) (by decide) (by decide) rfl rfl rfl ⟨rfl, rfl, Nat.le_of_ble_eq_true rfl, Nat.le_of_ble_eq_true rfl⟩ ⟨Nat.zero_le _, Nat.zero_le _⟩ rfl (Nat.le_of_ble_eq_true rfl) d_Leg_passOne_53 ?_
    rintro _ _ ⟨x16, rfl, rfl, hw⟩
    show V X _ _ _ _ 56 [some (.ref (xa X p0)), some (.ref (xa X p1)), some (.int x2), some (.int x3), some (.int x4), some (.ref (xa X (p1 + 1))), some (.int x11), some (.ref (xa X p12)), some (.ref (xa X p14)), none, none, none, none, none] [.int x16]
    refine x_istore (L' := [some (.ref (xa X p0)), some (.ref (xa X p1)), some (.int x2), some (.int x3), some (.int x4), some (.ref (xa X (p1 + 1))), some (.int x11), some (.ref (xa X p12)), some (.ref (xa X p14)), some (.int x16), none, none, none, none]) C d_Leg_passOne_56 (Nat.le_of_ble_eq_true rfl) rfl ?_
    refine x_aload_n C d_Leg_passOne_58 rfl ?_
    refine g_Cav_1 (p := p1) C hk1 fl_Leg_38 d_Leg_passOne_59 ?_
    refine g_Bod_2 (p := (p1 + 10)) C (ks_2_10 hk1) fl_Leg_82 d_Leg_passOne_62 ?_
    refine x_iload_n C d_Leg_passOne_65 rfl ?_
    obtain ⟨h18, hw⟩ := hw
    refine x_iald (p := (p1 + 10 + 2)) (n := 6) C (ks_4_2 (ks_2_10 hk1)) h18 d_Leg_passOne_66 ?_
    refine x_nm (fun x19 hx19 => ?_)
    have hw := hw x19 hx19
    refine x_istore (L' := [some (.ref (xa X p0)), some (.ref (xa X p1)), some (.int x2), some (.int x3), some (.int x4), some (.ref (xa X (p1 + 1))), some (.int x11), some (.ref (xa X p12)), some (.ref (xa X p14)), some (.int x16), some (.int x19), none, none, none]) C d_Leg_passOne_67 (Nat.le_of_ble_eq_true rfl) rfl ?_
    refine x_iconst (v := 0) C d_Leg_passOne_69 rfl ?_
    refine x_istore (L' := [some (.ref (xa X p0)), some (.ref (xa X p1)), some (.int x2), some (.int x3), some (.int x4), some (.ref (xa X (p1 + 1))), some (.int x11), some (.ref (xa X p12)), some (.ref (xa X p14)), some (.int x16), some (.int x19), some (.int 0), none, none]) C d_Leg_passOne_70 (Nat.le_of_ble_eq_true rfl) rfl ?_
    obtain ⟨I22, ⟨n23, hn23⟩, hI22⟩ := hw
    have lI22 : ∀ (nI22 : Nat) (x20 : Int32) (s21 : St), I22 nI22 x20 s21 → V X (xQ X (fun v s' => v = none ∧ Q s')) 0 0 s21 72 [some (.ref (xa X p0)), some (.ref (xa X p1)), some (.int x2), some (.int x3), some (.int x4), some (.ref (xa X (p1 + 1))), some (.int x11), some (.ref (xa X p12)), some (.ref (xa X p14)), some (.int x16), some (.int x19), some (.int x20), none, none] [] := by
      intro nI22
      induction nI22 using Nat.strongRecOn with
      | ind nI22 ihI22 =>
        intro x20 s21 hv
        have hw := hI22 nI22 x20 s21 hv
        refine x_iload C d_Leg_passOne_72 rfl ?_
        refine x_aload C d_Leg_passOne_74 rfl ?_
        refine g_Yar_0 (p := (p1 + 1)) C (ks_2_1 hk1) fl_Leg_85 d_Leg_passOne_76 ?_
        refine x_icmp_ge (tgt := 215) C d_Leg_passOne_79 (by decide) (fun c24 => ?_) (fun c24 => ?_)
        · have hw := hw.1 c24
          exact x_return C d_Leg_passOne_215 ⟨rfl, hw⟩
        · have hw := hw.2 c24
          refine x_iload_n C d_Leg_passOne_82 rfl ?_
          obtain ⟨J26, hJ26, hw⟩ := hw
          have kJ26 : ∀ (x25 : Int32), J26 x25 → V X (xQ X (fun v s' => v = none ∧ Q s')) 0 0 s21 101 [some (.ref (xa X p0)), some (.ref (xa X p1)), some (.int x2), some (.int x3), some (.int x4), some (.ref (xa X (p1 + 1))), some (.int x11), some (.ref (xa X p12)), some (.ref (xa X p14)), some (.int x16), some (.int x19), some (.int x20), none, none] [.int x25] := by
            intro x25 hv
            have hw := hJ26 x25 hv
            refine x_istore (L' := [some (.ref (xa X p0)), some (.ref (xa X p1)), some (.int x2), some (.int x3), some (.int x4), some (.ref (xa X (p1 + 1))), some (.int x11), some (.ref (xa X p12)), some (.ref (xa X p14)), some (.int x16), some (.int x19), some (.int x20), some (.int x25), none]) C d_Leg_passOne_101 (Nat.le_of_ble_eq_true rfl) rfl ?_
            refine x_iload C d_Leg_passOne_103 rfl ?_
            refine x_aload C d_Leg_passOne_105 rfl ?_
            refine x_iload C d_Leg_passOne_107 rfl ?_
            obtain ⟨h27, hw⟩ := hw
            refine x_iald (p := p12) (n := 12) C hkp12 h27 d_Leg_passOne_109 ?_
            refine x_iadd C d_Leg_passOne_110 ?_
            refine x_aload C d_Leg_passOne_111 rfl ?_
            refine x_iload C d_Leg_passOne_113 rfl ?_
            refine x_aload_n C d_Leg_passOne_115 rfl ?_
            refine x_aload_n C d_Leg_passOne_116 rfl ?_
            refine g_Leg_4 (p := p0) C hk0 fl_Leg_24 d_Leg_passOne_117 ?_
            refine x_callV (As := [.int (s21 p0 4)]) (rest := [.int x25, .ref (xa X (p1 + 1)), .int (x16 + (s21 p12 (Int32.toNatClampNeg x25)))]) (p := p1) C (m_Cav_waterAt (xg X) C.2.2.2.2.2.2.1 p1 (s21 p0 4) hk1 s21 _ hw) cw_Cav_waterAt ml_Leg_88 hk1 (by decide) (by decide) rfl rfl rfl ⟨rfl, rfl, Nat.le_of_ble_eq_true rfl, Nat.le_of_ble_eq_true rfl⟩ ⟨Nat.zero_le _, Nat.zero_le _⟩ rfl (Nat.le_of_ble_eq_true rfl) d_Leg_passOne_120 ?_
            rintro _ _ ⟨x28, rfl, rfl, hw⟩
            show V X _ _ _ _ 123 [some (.ref (xa X p0)), some (.ref (xa X p1)), some (.int x2), some (.int x3), some (.int x4), some (.ref (xa X (p1 + 1))), some (.int x11), some (.ref (xa X p12)), some (.ref (xa X p14)), some (.int x16), some (.int x19), some (.int x20), some (.int x25), none] [.int x28, .int x25, .ref (xa X (p1 + 1)), .int (x16 + (s21 p12 (Int32.toNatClampNeg x25)))]
            refine x_callV (As := [.int x25, .int x28]) (rest := [.int (x16 + (s21 p12 (Int32.toNatClampNeg x25)))]) (p := (p1 + 1)) C (m_Yar_roomAt (xg X) C.2.2.2.2.2.2.1 (p1 + 1) x25 x28 (ks_2_1 hk1) s21 _ hw) cw_Yar_roomAt ml_Leg_92 (ks_2_1 hk1) (by decide) (by decide) rfl rfl rfl ⟨rfl, rfl, Nat.le_of_ble_eq_true rfl, Nat.le_of_ble_eq_true rfl⟩ ⟨Nat.zero_le _, Nat.zero_le _⟩ rfl (Nat.le_of_ble_eq_true rfl) d_Leg_passOne_123 ?_
            rintro _ _ ⟨x30, rfl, rfl, hw⟩
            show V X _ _ _ _ 126 [some (.ref (xa X p0)), some (.ref (xa X p1)), some (.int x2), some (.int x3), some (.int x4), some (.ref (xa X (p1 + 1))), some (.int x11), some (.ref (xa X p12)), some (.ref (xa X p14)), some (.int x16), some (.int x19), some (.int x20), some (.int x25), none] [.int x30, .int (x16 + (s21 p12 (Int32.toNatClampNeg x25)))]
            refine x_isub C d_Leg_passOne_126 ?_
            refine x_nm (fun x32 hx32 => ?_)
            have hw := hw x32 hx32
            refine x_istore (L' := [some (.ref (xa X p0)), some (.ref (xa X p1)), some (.int x2), some (.int x3), some (.int x4), some (.ref (xa X (p1 + 1))), some (.int x11), some (.ref (xa X p12)), some (.ref (xa X p14)), some (.int x16), some (.int x19), some (.int x20), some (.int x25), some (.int x32)]) C d_Leg_passOne_127 (Nat.le_of_ble_eq_true rfl) rfl ?_
            refine x_iload C d_Leg_passOne_129 rfl ?_
            refine x_iload C d_Leg_passOne_131 rfl ?_
            refine x_icmp_le (tgt := 148) C d_Leg_passOne_133 (by decide) (fun c33 => ?_) (fun c33 => ?_)
            · have hw := hw.1 c33
              refine x_aload_n C d_Leg_passOne_148 rfl ?_
              refine x_dup C d_Leg_passOne_149 rfl ?_
              refine g_Leg_4 (p := p0) C hk0 fl_Leg_24 d_Leg_passOne_150 ?_
              refine x_aload C d_Leg_passOne_153 rfl ?_
              refine x_iload C d_Leg_passOne_155 rfl ?_
              obtain ⟨h34, hw⟩ := hw
              refine x_iald (p := p14) (n := 12) C hkp14 h34 d_Leg_passOne_157 ?_
              refine x_iadd C d_Leg_passOne_158 ?_
              refine p_Leg_4 (p := p0) C hk0 fl_Leg_24 d_Leg_passOne_159 ?_
              refine x_st (fun s35 hs35 => ?_)
              have hw := hw s35 hs35
              refine x_iload C d_Leg_passOne_162 rfl ?_
              obtain ⟨J37, hJ37, hw⟩ := hw
              have kJ37 : ∀ (s36 : St), J37 s36 → V X (xQ X (fun v s' => v = none ∧ Q s')) 0 0 s36 209 [some (.ref (xa X p0)), some (.ref (xa X p1)), some (.int x2), some (.int x3), some (.int x4), some (.ref (xa X (p1 + 1))), some (.int x11), some (.ref (xa X p12)), some (.ref (xa X p14)), some (.int x16), some (.int x19), some (.int x20), some (.int x25), some (.int x32)] [] := by
                intro s36 hv
                have hw := hJ37 s36 hv
                obtain ⟨x38, hx38⟩ : ∃ z : Int32, z = x20 + 1 := ⟨_, rfl⟩
                refine x_iinc (v := x38) (L' := [some (.ref (xa X p0)), some (.ref (xa X p1)), some (.int x2), some (.int x3), some (.int x4), some (.ref (xa X (p1 + 1))), some (.int x11), some (.ref (xa X p12)), some (.ref (xa X p14)), some (.int x16), some (.int x19), some (.int x38), some (.int x25), some (.int x32)]) C d_Leg_passOne_209 (Nat.le_of_ble_eq_true rfl) rfl (by rw [hx38]; rfl) rfl ?_
                have hw := hw x38 hx38
                refine x_goto (tgt := 72) C d_Leg_passOne_212 (by decide) ?_
                obtain ⟨m39, hm39, hw⟩ := hw
                exact x_wk (ihI22 m39 hm39 x38 s36 hw) (And.intro rfl (And.intro rfl (And.intro rfl (And.intro rfl (And.intro rfl (And.intro rfl (And.intro rfl (And.intro rfl (And.intro rfl (And.intro rfl (And.intro rfl (And.intro rfl (trivial)))))))))))))
              refine x_if_le (tgt := 181) C d_Leg_passOne_164 (by decide) (fun c40 => ?_) (fun c40 => ?_)
              · have hw := hw.1 c40
                refine x_iload C d_Leg_passOne_181 rfl ?_
                refine x_iload C d_Leg_passOne_183 rfl ?_
                refine x_iadd C d_Leg_passOne_185 ?_
                refine x_if_le (tgt := 209) C d_Leg_passOne_186 (by decide) (fun c41 => ?_) (fun c41 => ?_)
                · have hw := hw.1 c41
                  exact x_wk (kJ37 s35 hw) (And.intro rfl (And.intro rfl (And.intro rfl (And.intro rfl (And.intro rfl (And.intro rfl (And.intro rfl (And.intro rfl (And.intro rfl (And.intro rfl (And.intro rfl (And.intro rfl (And.intro rfl (And.intro rfl (trivial)))))))))))))))
                · have hw := hw.2 c41
                  refine x_aload_n C d_Leg_passOne_189 rfl ?_
                  refine x_dup C d_Leg_passOne_190 rfl ?_
                  refine g_Leg_4 (p := p0) C hk0 fl_Leg_24 d_Leg_passOne_191 ?_
                  refine x_iconst (v := 1) C d_Leg_passOne_194 rfl ?_
                  refine x_iadd C d_Leg_passOne_195 ?_
                  refine p_Leg_4 (p := p0) C hk0 fl_Leg_24 d_Leg_passOne_196 ?_
                  refine x_st (fun s42 hs42 => ?_)
                  have hw := hw s42 hs42
                  refine x_aload_n C d_Leg_passOne_199 rfl ?_
                  refine x_dup C d_Leg_passOne_200 rfl ?_
                  refine g_Leg_5 (p := p0) C hk0 fl_Leg_27 d_Leg_passOne_201 ?_
                  refine x_iconst (v := 1) C d_Leg_passOne_204 rfl ?_
                  refine x_iadd C d_Leg_passOne_205 ?_
                  refine p_Leg_5 (p := p0) C hk0 fl_Leg_27 d_Leg_passOne_206 ?_
                  refine x_st (fun s43 hs43 => ?_)
                  have hw := hw s43 hs43
                  exact x_wk (kJ37 s43 hw) (And.intro rfl (And.intro rfl (And.intro rfl (And.intro rfl (And.intro rfl (And.intro rfl (And.intro rfl (And.intro rfl (And.intro rfl (And.intro rfl (And.intro rfl (And.intro rfl (And.intro rfl (And.intro rfl (trivial)))))))))))))))
              · have hw := hw.2 c40
                refine x_aload_n C d_Leg_passOne_167 rfl ?_
                refine x_dup C d_Leg_passOne_168 rfl ?_
                refine g_Leg_4 (p := p0) C hk0 fl_Leg_24 d_Leg_passOne_169 ?_
                refine x_bipush (v := 10) C d_Leg_passOne_172 rfl ?_
                refine x_iadd C d_Leg_passOne_174 ?_
                refine p_Leg_4 (p := p0) C hk0 fl_Leg_24 d_Leg_passOne_175 ?_
                refine x_st (fun s44 hs44 => ?_)
                have hw := hw s44 hs44
                refine x_goto (tgt := 209) C d_Leg_passOne_178 (by decide) ?_
                exact x_wk (kJ37 s44 hw) (And.intro rfl (And.intro rfl (And.intro rfl (And.intro rfl (And.intro rfl (And.intro rfl (And.intro rfl (And.intro rfl (And.intro rfl (And.intro rfl (And.intro rfl (And.intro rfl (And.intro rfl (And.intro rfl (trivial)))))))))))))))
            · have hw := hw.2 c33
              refine x_aload_n C d_Leg_passOne_136 rfl ?_
              refine x_iload_n C d_Leg_passOne_137 rfl ?_
              refine p_Leg_2 (p := p0) C hk0 fl_Leg_18 d_Leg_passOne_138 ?_
              refine x_st (fun s45 hs45 => ?_)
              have hw := hw s45 hs45
              refine x_aload_n C d_Leg_passOne_141 rfl ?_
              refine x_iload C d_Leg_passOne_142 rfl ?_
              refine p_Leg_3 (p := p0) C hk0 fl_Leg_21 d_Leg_passOne_144 ?_
              refine x_st (fun s46 hs46 => ?_)
              have hw := hw s46 hs46
              exact x_return C d_Leg_passOne_147 ⟨rfl, hw⟩
          refine x_if_eq (tgt := 99) C d_Leg_passOne_83 (by decide) (fun c47 => ?_) (fun c47 => ?_)
          · have hw := hw.1 c47
            refine x_iload C d_Leg_passOne_99 rfl ?_
            exact x_wk (kJ26 x20 hw) (And.intro rfl (And.intro rfl (And.intro rfl (And.intro rfl (And.intro rfl (And.intro rfl (And.intro rfl (And.intro rfl (And.intro rfl (And.intro rfl (And.intro rfl (And.intro rfl (trivial)))))))))))))
          · have hw := hw.2 c47
            refine x_aload C d_Leg_passOne_86 rfl ?_
            refine g_Yar_0 (p := (p1 + 1)) C (ks_2_1 hk1) fl_Leg_85 d_Leg_passOne_88 ?_
            refine x_iconst (v := 1) C d_Leg_passOne_91 rfl ?_
            refine x_isub C d_Leg_passOne_92 ?_
            refine x_iload C d_Leg_passOne_93 rfl ?_
            refine x_isub C d_Leg_passOne_95 ?_
            refine x_goto (tgt := 101) C d_Leg_passOne_96 (by decide) ?_
            exact x_wk (kJ26 (((s21 (p1 + 1) 0) - 1) - x20) hw) (And.intro rfl (And.intro rfl (And.intro rfl (And.intro rfl (And.intro rfl (And.intro rfl (And.intro rfl (And.intro rfl (And.intro rfl (And.intro rfl (And.intro rfl (And.intro rfl (trivial)))))))))))))
    exact x_wk (lI22 n23 0 s hn23) (And.intro rfl (And.intro rfl (And.intro rfl (And.intro rfl (And.intro rfl (And.intro rfl (And.intro rfl (And.intro rfl (And.intro rfl (And.intro rfl (And.intro rfl (And.intro rfl (trivial)))))))))))))
  refine x_if_eq (tgt := 38) C d_Leg_passOne_27 (by decide) (fun c48 => ?_) (fun c48 => ?_)
  · have hw := hw.1 c48
    refine x_aload C d_Leg_passOne_38 rfl ?_
    refine g_Yar_5 (p := (p1 + 1)) C (ks_2_1 hk1) fl_Leg_75 d_Leg_passOne_40 ?_
    exact x_wk (kJ15 (p1 + 1 + 5) (ks_3_5 (ks_2_1 hk1)) hw) (And.intro rfl (And.intro rfl (And.intro rfl (And.intro rfl (And.intro rfl (And.intro rfl (And.intro rfl (And.intro rfl (trivial)))))))))
  · have hw := hw.2 c48
    refine x_aload C d_Leg_passOne_30 rfl ?_
    refine g_Yar_6 (p := (p1 + 1)) C (ks_2_1 hk1) fl_Leg_72 d_Leg_passOne_32 ?_
    refine x_goto (tgt := 43) C d_Leg_passOne_35 (by decide) ?_
    exact x_wk (kJ15 (p1 + 1 + 6) (ks_3_6 (ks_2_1 hk1)) hw) (And.intro rfl (And.intro rfl (And.intro rfl (And.intro rfl (And.intro rfl (And.intro rfl (And.intro rfl (And.intro rfl (trivial)))))))))
def vc_Leg_passAll (p0 : Nat) (p1 : Nat) (p2 : Nat) (n2 : Nat) (x3 : Int32) (x4 : Int32) (x5 : Int32) (s : St) (Q : St → Prop) : Prop :=
    vc_Leg_begin p0 x5 s (fun s10 => (∃ I14 : Nat → Int32 → Int32 → St → Prop, (∃ n15, I14 n15 0 0 s10) ∧ ∀ (nI14 : Nat) (x11 : Int32) (x12 : Int32) (s13 : St), I14 nI14 x11 x12 s13 → ((x3 ≤ x12 → Q s13) ∧ (¬ x3 ≤ x12 → ((¬ (s13 p0 2) = (-4) → Q s13) ∧ ((s13 p0 2) = (-4) → (∃ J19 : Int32 → Prop, (∀ (x18 : Int32), J19 x18 → (vp_in x18 n2 ∧ (∀ x21 : Int32, x21 = s13 p2 (Int32.toNatClampNeg x18) → (∃ J23 : Int32 → Prop, (∀ (x22 : Int32), J23 x22 → vc_Leg_passOne p0 p1 x21 x4 ((x11 / 3) + x22) s13 (fun s24 => (∃ J27 : Int32 → St → Prop, (∀ (x25 : Int32) (s26 : St), J27 x25 s26 → (∀ x28 : Int32, x28 = x12 + 1 → ∃ m29, m29 < nI14 ∧ I14 m29 x25 x28 s26)) ∧ ((¬ (s24 p0 2) = (-4) → J27 x11 s24) ∧ ((s24 p0 2) = (-4) → (∀ s31 : St, s31 = wr s24 p0 0 ((s24 p0 0) ||| (1 <<< (x21 &&& 31))) → (vp_in (s31 p0 1) 6 ∧ (∀ s33 : St, s33 = wr s31 (p0 + 1) (Int32.toNatClampNeg (s31 p0 1)) (s31 p0 4) → (∀ s34 : St, s34 = wr s33 p0 1 ((s33 p0 1) + 1) → (vp_in x21 6 ∧ (∀ x36 : Int32, x36 = imax x11 (s34 (p1 + 10 + 4) (Int32.toNatClampNeg x21)) → J27 x36 s34))))))))))) ∧ ((x3 ≤ (x12 + 1) → J23 0) ∧ (¬ x3 ≤ (x12 + 1) → (∃ J39 : Int32 → Prop, (∀ (x38 : Int32), J39 x38 → (vp_in x38 n2 ∧ (vp_in (s13 p2 (Int32.toNatClampNeg x38)) 6 ∧ (∀ x42 : Int32, x42 = (s13 (p1 + 10 + 4) (Int32.toNatClampNeg (s13 p2 (Int32.toNatClampNeg x38)))) / 3 → J23 x42)))) ∧ ((x4 = 0 → J39 (x12 + 1)) ∧ (¬ x4 = 0 → J39 ((x3 - 2) - x12)))))))))) ∧ ((x4 = 0 → J19 x12) ∧ (¬ x4 = 0 → J19 ((x3 - 1) - x12))))))))))
def rm_Leg_passAll : Room := { frames := 3, cells := 0, slots := 0, locals := 76 }
set_option maxHeartbeats 4000000 in
set_option maxRecDepth 20000 in
theorem m_Leg_passAll (g : Gx) (hg : gOk g) (p0 : Nat) (p1 : Nat) (p2 : Nat) (n2 : Nat) (x3 : Int32) (x4 : Int32) (x5 : Int32) (hk0 : kd p0 = 6) (hk1 : kd p1 = 2) (hk2 : kd p2 = 100 + n2) (s : St) (Q : St → Prop) (hw : vc_Leg_passAll p0 p1 p2 n2 x3 x4 x5 s Q) : Mc g y_Leg_passAll b_Leg_passAll 11 (none) rm_Leg_passAll [.ref (ga g p0), .ref (ga g p1), .ref (ga g p2), .int x3, .int x4, .int x5] s (fun v s' => v = none ∧ Q s') := by
  refine mc_ofV (j := 5) (L := [some (.ref (ga g p0)), some (.ref (ga g p1)), some (.ref (ga g p2)), some (.int x3), some (.int x4), some (.int x5), none, none, none, none, none]) hg (by decide) (Nat.le_of_ble_eq_true rfl) rfl ?_
  intro X hX C
  subst hX
  unfold vc_Leg_passAll at hw
  refine x_aload_n C d_Leg_passAll_0 rfl ?_
  refine x_iload C d_Leg_passAll_1 rfl ?_
  refine x_callV (As := [.int x5]) (rest := []) (p := p0) C (m_Leg_begin (xg X) C.2.2.2.2.2.2.1 p0 x5 hk0 s _ hw) cw_Leg_begin ml_Leg_34 hk0 (by decide) (by decide) rfl rfl rfl ⟨rfl, rfl, Nat.le_of_ble_eq_true rfl, Nat.le_of_ble_eq_true rfl⟩ ⟨Nat.zero_le _, Nat.zero_le _⟩ rfl (Nat.le_of_ble_eq_true rfl) d_Leg_passAll_3 ?_
  rintro _ s10 ⟨rfl, hw⟩
  show V X _ _ _ _ 6 [some (.ref (xa X p0)), some (.ref (xa X p1)), some (.ref (xa X p2)), some (.int x3), some (.int x4), some (.int x5), none, none, none, none, none] []
  refine x_aload_n C d_Leg_passAll_6 rfl ?_
  refine g_Cav_1 (p := p1) C hk1 fl_Leg_38 d_Leg_passAll_7 ?_
  refine g_Bod_4 (p := (p1 + 10)) C (ks_2_10 hk1) fl_Leg_44 d_Leg_passAll_10 ?_
  refine x_astore (L' := [some (.ref (xa X p0)), some (.ref (xa X p1)), some (.ref (xa X p2)), some (.int x3), some (.int x4), some (.int x5), some (.ref (xa X (p1 + 10 + 4))), none, none, none, none]) C d_Leg_passAll_13 (Nat.le_of_ble_eq_true rfl) rfl ?_
  refine x_iconst (v := 0) C d_Leg_passAll_15 rfl ?_
  refine x_istore (L' := [some (.ref (xa X p0)), some (.ref (xa X p1)), some (.ref (xa X p2)), some (.int x3), some (.int x4), some (.int x5), some (.ref (xa X (p1 + 10 + 4))), some (.int 0), none, none, none]) C d_Leg_passAll_16 (Nat.le_of_ble_eq_true rfl) rfl ?_
  refine x_iconst (v := 0) C d_Leg_passAll_18 rfl ?_
  refine x_istore (L' := [some (.ref (xa X p0)), some (.ref (xa X p1)), some (.ref (xa X p2)), some (.int x3), some (.int x4), some (.int x5), some (.ref (xa X (p1 + 10 + 4))), some (.int 0), some (.int 0), none, none]) C d_Leg_passAll_19 (Nat.le_of_ble_eq_true rfl) rfl ?_
  obtain ⟨I14, ⟨n15, hn15⟩, hI14⟩ := hw
  have lI14 : ∀ (nI14 : Nat) (x11 : Int32) (x12 : Int32) (s13 : St), I14 nI14 x11 x12 s13 → V X (xQ X (fun v s' => v = none ∧ Q s')) 0 0 s13 21 [some (.ref (xa X p0)), some (.ref (xa X p1)), some (.ref (xa X p2)), some (.int x3), some (.int x4), some (.int x5), some (.ref (xa X (p1 + 10 + 4))), some (.int x11), some (.int x12), none, none] [] := by
    intro nI14
    induction nI14 using Nat.strongRecOn with
    | ind nI14 ihI14 =>
      intro x11 x12 s13 hv
      have hw := hI14 nI14 x11 x12 s13 hv
      refine x_iload C d_Leg_passAll_21 rfl ?_
      refine x_iload_n C d_Leg_passAll_23 rfl ?_
      refine x_icmp_ge (tgt := 173) C d_Leg_passAll_24 (by decide) (fun c16 => ?_) (fun c16 => ?_)
      · have hw := hw.1 c16
        exact x_return C d_Leg_passAll_173 ⟨rfl, hw⟩
      · have hw := hw.2 c16
        refine x_aload_n C d_Leg_passAll_27 rfl ?_
        refine g_Leg_2 (p := p0) C hk0 fl_Leg_18 d_Leg_passAll_28 ?_
        refine x_bipush (v := (-4)) C d_Leg_passAll_31 rfl ?_
        refine x_icmp_ne (tgt := 173) C d_Leg_passAll_33 (by decide) (fun c17 => ?_) (fun c17 => ?_)
        · have hw := hw.1 c17
          exact x_return C d_Leg_passAll_173 ⟨rfl, hw⟩
        · have hw := hw.2 c17
          refine x_aload_n C d_Leg_passAll_36 rfl ?_
          refine x_iload C d_Leg_passAll_37 rfl ?_
          obtain ⟨J19, hJ19, hw⟩ := hw
          have kJ19 : ∀ (x18 : Int32), J19 x18 → V X (xQ X (fun v s' => v = none ∧ Q s')) 0 0 s13 53 [some (.ref (xa X p0)), some (.ref (xa X p1)), some (.ref (xa X p2)), some (.int x3), some (.int x4), some (.int x5), some (.ref (xa X (p1 + 10 + 4))), some (.int x11), some (.int x12), none, none] [.int x18, .ref (xa X p2)] := by
            intro x18 hv
            have hw := hJ19 x18 hv
            obtain ⟨h20, hw⟩ := hw
            refine x_iald (p := p2) (n := n2) C hk2 h20 d_Leg_passAll_53 ?_
            refine x_nm (fun x21 hx21 => ?_)
            have hw := hw x21 hx21
            refine x_istore (L' := [some (.ref (xa X p0)), some (.ref (xa X p1)), some (.ref (xa X p2)), some (.int x3), some (.int x4), some (.int x5), some (.ref (xa X (p1 + 10 + 4))), some (.int x11), some (.int x12), some (.int x21), none]) C d_Leg_passAll_54 (Nat.le_of_ble_eq_true rfl) rfl ?_
            refine x_iconst (v := 0) C d_Leg_passAll_56 rfl ?_
            refine x_istore (L' := [some (.ref (xa X p0)), some (.ref (xa X p1)), some (.ref (xa X p2)), some (.int x3), some (.int x4), some (.int x5), some (.ref (xa X (p1 + 10 + 4))), some (.int x11), some (.int x12), some (.int x21), some (.int 0)]) C d_Leg_passAll_57 (Nat.le_of_ble_eq_true rfl) rfl ?_
            refine x_iload C d_Leg_passAll_59 rfl ?_
            refine x_iconst (v := 1) C d_Leg_passAll_61 rfl ?_
            refine x_iadd C d_Leg_passAll_62 ?_
            refine x_iload_n C d_Leg_passAll_63 rfl ?_
            obtain ⟨J23, hJ23, hw⟩ := hw
            have kJ23 : ∀ (x22 : Int32), J23 x22 → V X (xQ X (fun v s' => v = none ∧ Q s')) 0 0 s13 94 [some (.ref (xa X p0)), some (.ref (xa X p1)), some (.ref (xa X p2)), some (.int x3), some (.int x4), some (.int x5), some (.ref (xa X (p1 + 10 + 4))), some (.int x11), some (.int x12), some (.int x21), some (.int x22)] [] := by
              intro x22 hv
              have hw := hJ23 x22 hv
              refine x_aload_n C d_Leg_passAll_94 rfl ?_
              refine x_aload_n C d_Leg_passAll_95 rfl ?_
              refine x_iload C d_Leg_passAll_96 rfl ?_
              refine x_iload C d_Leg_passAll_98 rfl ?_
              refine x_iload C d_Leg_passAll_100 rfl ?_
              refine x_iconst (v := 3) C d_Leg_passAll_102 rfl ?_
              refine x_idiv C d_Leg_passAll_103 (by decide) ?_
              refine x_iload C d_Leg_passAll_104 rfl ?_
              refine x_iadd C d_Leg_passAll_106 ?_
              refine x_callV (As := [.ref (xa X p1), .int x21, .int x4, .int ((x11 / 3) + x22)]) (rest := []) (p := p0) C (m_Leg_passOne (xg X) C.2.2.2.2.2.2.1 p0 p1 x21 x4 ((x11 / 3) + x22) hk0 hk1 s13 _ hw) cw_Leg_passOne ml_Leg_49 hk0 (by decide) (by decide) rfl rfl rfl ⟨rfl, rfl, Nat.le_of_ble_eq_true rfl, Nat.le_of_ble_eq_true rfl⟩ ⟨Nat.zero_le _, Nat.zero_le _⟩ rfl (Nat.le_of_ble_eq_true rfl) d_Leg_passAll_107 ?_
              rintro _ s24 ⟨rfl, hw⟩
              show V X _ _ _ _ 110 [some (.ref (xa X p0)), some (.ref (xa X p1)), some (.ref (xa X p2)), some (.int x3), some (.int x4), some (.int x5), some (.ref (xa X (p1 + 10 + 4))), some (.int x11), some (.int x12), some (.int x21), some (.int x22)] []
              refine x_aload_n C d_Leg_passAll_110 rfl ?_
              refine g_Leg_2 (p := p0) C hk0 fl_Leg_18 d_Leg_passAll_111 ?_
              refine x_bipush (v := (-4)) C d_Leg_passAll_114 rfl ?_
              obtain ⟨J27, hJ27, hw⟩ := hw
              have kJ27 : ∀ (x25 : Int32) (s26 : St), J27 x25 s26 → V X (xQ X (fun v s' => v = none ∧ Q s')) 0 0 s26 167 [some (.ref (xa X p0)), some (.ref (xa X p1)), some (.ref (xa X p2)), some (.int x3), some (.int x4), some (.int x5), some (.ref (xa X (p1 + 10 + 4))), some (.int x25), some (.int x12), some (.int x21), some (.int x22)] [] := by
                intro x25 s26 hv
                have hw := hJ27 x25 s26 hv
                obtain ⟨x28, hx28⟩ : ∃ z : Int32, z = x12 + 1 := ⟨_, rfl⟩
                refine x_iinc (v := x28) (L' := [some (.ref (xa X p0)), some (.ref (xa X p1)), some (.ref (xa X p2)), some (.int x3), some (.int x4), some (.int x5), some (.ref (xa X (p1 + 10 + 4))), some (.int x25), some (.int x28), some (.int x21), some (.int x22)]) C d_Leg_passAll_167 (Nat.le_of_ble_eq_true rfl) rfl (by rw [hx28]; rfl) rfl ?_
                have hw := hw x28 hx28
                refine x_goto (tgt := 21) C d_Leg_passAll_170 (by decide) ?_
                obtain ⟨m29, hm29, hw⟩ := hw
                exact x_wk (ihI14 m29 hm29 x25 x28 s26 hw) (And.intro rfl (And.intro rfl (And.intro rfl (And.intro rfl (And.intro rfl (And.intro rfl (And.intro rfl (And.intro rfl (And.intro rfl (trivial))))))))))
              refine x_icmp_ne (tgt := 167) C d_Leg_passAll_116 (by decide) (fun c30 => ?_) (fun c30 => ?_)
              · have hw := hw.1 c30
                exact x_wk (kJ27 x11 s24 hw) (And.intro rfl (And.intro rfl (And.intro rfl (And.intro rfl (And.intro rfl (And.intro rfl (And.intro rfl (And.intro rfl (And.intro rfl (And.intro rfl (And.intro rfl (trivial))))))))))))
              · have hw := hw.2 c30
                refine x_aload_n C d_Leg_passAll_119 rfl ?_
                refine x_dup C d_Leg_passAll_120 rfl ?_
                refine g_Leg_0 (p := p0) C hk0 fl_Leg_9 d_Leg_passAll_121 ?_
                refine x_iconst (v := 1) C d_Leg_passAll_124 rfl ?_
                refine x_iload C d_Leg_passAll_125 rfl ?_
                refine x_ishl C d_Leg_passAll_127 ?_
                refine x_ior C d_Leg_passAll_128 ?_
                refine p_Leg_0 (p := p0) C hk0 fl_Leg_9 d_Leg_passAll_129 ?_
                refine x_st (fun s31 hs31 => ?_)
                have hw := hw s31 hs31
                refine x_aload_n C d_Leg_passAll_132 rfl ?_
                refine g_Leg_6 (p := p0) C hk0 fl_Leg_30 d_Leg_passAll_133 ?_
                refine x_aload_n C d_Leg_passAll_136 rfl ?_
                refine g_Leg_1 (p := p0) C hk0 fl_Leg_15 d_Leg_passAll_137 ?_
                refine x_aload_n C d_Leg_passAll_140 rfl ?_
                refine g_Leg_4 (p := p0) C hk0 fl_Leg_24 d_Leg_passAll_141 ?_
                obtain ⟨h32, hw⟩ := hw
                refine x_iast (p := (p0 + 1)) (n := 6) C (ks_6_1 hk0) h32 d_Leg_passAll_144 ?_
                refine x_st (fun s33 hs33 => ?_)
                have hw := hw s33 hs33
                refine x_aload_n C d_Leg_passAll_145 rfl ?_
                refine x_dup C d_Leg_passAll_146 rfl ?_
                refine g_Leg_1 (p := p0) C hk0 fl_Leg_15 d_Leg_passAll_147 ?_
                refine x_iconst (v := 1) C d_Leg_passAll_150 rfl ?_
                refine x_iadd C d_Leg_passAll_151 ?_
                refine p_Leg_1 (p := p0) C hk0 fl_Leg_15 d_Leg_passAll_152 ?_
                refine x_st (fun s34 hs34 => ?_)
                have hw := hw s34 hs34
                refine x_iload C d_Leg_passAll_155 rfl ?_
                refine x_aload C d_Leg_passAll_157 rfl ?_
                refine x_iload C d_Leg_passAll_159 rfl ?_
                obtain ⟨h35, hw⟩ := hw
                refine x_iald (p := (p1 + 10 + 4)) (n := 6) C (ks_4_4 (ks_2_10 hk1)) h35 d_Leg_passAll_161 ?_
                refine x_mmax C ml_Leg_53 (Nat.le_of_ble_eq_true rfl) (Nat.le_of_ble_eq_true rfl) ⟨Nat.zero_le _, Nat.zero_le _⟩ d_Leg_passAll_162 ?_
                refine x_nm (fun x36 hx36 => ?_)
                have hw := hw x36 hx36
                refine x_istore (L' := [some (.ref (xa X p0)), some (.ref (xa X p1)), some (.ref (xa X p2)), some (.int x3), some (.int x4), some (.int x5), some (.ref (xa X (p1 + 10 + 4))), some (.int x36), some (.int x12), some (.int x21), some (.int x22)]) C d_Leg_passAll_165 (Nat.le_of_ble_eq_true rfl) rfl ?_
                exact x_wk (kJ27 x36 s34 hw) (And.intro rfl (And.intro rfl (And.intro rfl (And.intro rfl (And.intro rfl (And.intro rfl (And.intro rfl (And.intro rfl (And.intro rfl (And.intro rfl (And.intro rfl (trivial))))))))))))
            refine x_icmp_ge (tgt := 94) C d_Leg_passAll_64 (by decide) (fun c37 => ?_) (fun c37 => ?_)
            · have hw := hw.1 c37
              exact x_wk (kJ23 0 hw) (And.intro rfl (And.intro rfl (And.intro rfl (And.intro rfl (And.intro rfl (And.intro rfl (And.intro rfl (And.intro rfl (And.intro rfl (And.intro rfl (And.intro rfl (trivial))))))))))))
            · have hw := hw.2 c37
              refine x_aload C d_Leg_passAll_67 rfl ?_
              refine x_aload_n C d_Leg_passAll_69 rfl ?_
              refine x_iload C d_Leg_passAll_70 rfl ?_
              obtain ⟨J39, hJ39, hw⟩ := hw
              have kJ39 : ∀ (x38 : Int32), J39 x38 → V X (xQ X (fun v s' => v = none ∧ Q s')) 0 0 s13 88 [some (.ref (xa X p0)), some (.ref (xa X p1)), some (.ref (xa X p2)), some (.int x3), some (.int x4), some (.int x5), some (.ref (xa X (p1 + 10 + 4))), some (.int x11), some (.int x12), some (.int x21), some (.int 0)] [.int x38, .ref (xa X p2), .ref (xa X (p1 + 10 + 4))] := by
                intro x38 hv
                have hw := hJ39 x38 hv
                obtain ⟨h40, hw⟩ := hw
                refine x_iald (p := p2) (n := n2) C hk2 h40 d_Leg_passAll_88 ?_
                obtain ⟨h41, hw⟩ := hw
                refine x_iald (p := (p1 + 10 + 4)) (n := 6) C (ks_4_4 (ks_2_10 hk1)) h41 d_Leg_passAll_89 ?_
                refine x_iconst (v := 3) C d_Leg_passAll_90 rfl ?_
                refine x_idiv C d_Leg_passAll_91 (by decide) ?_
                refine x_nm (fun x42 hx42 => ?_)
                have hw := hw x42 hx42
                refine x_istore (L' := [some (.ref (xa X p0)), some (.ref (xa X p1)), some (.ref (xa X p2)), some (.int x3), some (.int x4), some (.int x5), some (.ref (xa X (p1 + 10 + 4))), some (.int x11), some (.int x12), some (.int x21), some (.int x42)]) C d_Leg_passAll_92 (Nat.le_of_ble_eq_true rfl) rfl ?_
                exact x_wk (kJ23 x42 hw) (And.intro rfl (And.intro rfl (And.intro rfl (And.intro rfl (And.intro rfl (And.intro rfl (And.intro rfl (And.intro rfl (And.intro rfl (And.intro rfl (And.intro rfl (trivial))))))))))))
              refine x_if_eq (tgt := 84) C d_Leg_passAll_72 (by decide) (fun c43 => ?_) (fun c43 => ?_)
              · have hw := hw.1 c43
                refine x_iload C d_Leg_passAll_84 rfl ?_
                refine x_iconst (v := 1) C d_Leg_passAll_86 rfl ?_
                refine x_iadd C d_Leg_passAll_87 ?_
                exact x_wk (kJ39 (x12 + 1) hw) (And.intro rfl (And.intro rfl (And.intro rfl (And.intro rfl (And.intro rfl (And.intro rfl (And.intro rfl (And.intro rfl (And.intro rfl (And.intro rfl (And.intro rfl (trivial))))))))))))
              · have hw := hw.2 c43
                refine x_iload_n C d_Leg_passAll_75 rfl ?_
                refine x_iconst (v := 2) C d_Leg_passAll_76 rfl ?_
                refine x_isub C d_Leg_passAll_77 ?_
                refine x_iload C d_Leg_passAll_78 rfl ?_
                refine x_isub C d_Leg_passAll_80 ?_
                refine x_goto (tgt := 88) C d_Leg_passAll_81 (by decide) ?_
                exact x_wk (kJ39 ((x3 - 2) - x12) hw) (And.intro rfl (And.intro rfl (And.intro rfl (And.intro rfl (And.intro rfl (And.intro rfl (And.intro rfl (And.intro rfl (And.intro rfl (And.intro rfl (And.intro rfl (trivial))))))))))))
          refine x_if_eq (tgt := 51) C d_Leg_passAll_39 (by decide) (fun c44 => ?_) (fun c44 => ?_)
          · have hw := hw.1 c44
            refine x_iload C d_Leg_passAll_51 rfl ?_
            exact x_wk (kJ19 x12 hw) (And.intro rfl (And.intro rfl (And.intro rfl (And.intro rfl (And.intro rfl (And.intro rfl (And.intro rfl (And.intro rfl (And.intro rfl (trivial))))))))))
          · have hw := hw.2 c44
            refine x_iload_n C d_Leg_passAll_42 rfl ?_
            refine x_iconst (v := 1) C d_Leg_passAll_43 rfl ?_
            refine x_isub C d_Leg_passAll_44 ?_
            refine x_iload C d_Leg_passAll_45 rfl ?_
            refine x_isub C d_Leg_passAll_47 ?_
            refine x_goto (tgt := 53) C d_Leg_passAll_48 (by decide) ?_
            exact x_wk (kJ19 ((x3 - 1) - x12) hw) (And.intro rfl (And.intro rfl (And.intro rfl (And.intro rfl (And.intro rfl (And.intro rfl (And.intro rfl (And.intro rfl (And.intro rfl (trivial))))))))))
  exact x_wk (lI14 n15 0 0 s10 hn15) (And.intro rfl (And.intro rfl (And.intro rfl (And.intro rfl (And.intro rfl (And.intro rfl (And.intro rfl (And.intro rfl (And.intro rfl (trivial))))))))))
def vc_Tri_thereAndBack (p0 : Nat) (p1 : Nat) (p2 : Nat) (n2 : Nat) (x3 : Int32) (x4 : Int32) (s : St) (Q : Bool → St → Prop) : Prop :=
    vc_Leg_passAll (p0 + 1) p1 p2 n2 x3 0 x4 s (fun s10 => (((s10 (p0 + 1) 2) = (-4) → vc_Leg_passAll (p0 + 3) p1 p2 n2 x3 1 (s10 (p0 + 1) 4) s10 (fun s12 => ((¬ (s12 (p0 + 3) 2) = (-4) → Q false s12) ∧ ((s12 (p0 + 3) 2) = (-4) → Q true s12)))) ∧ (¬ (s10 (p0 + 1) 2) = (-4) → vc_Leg_begin (p0 + 3) (s10 (p0 + 1) 4) s10 (fun s14 => Q false s14))))
def rm_Tri_thereAndBack : Room := { frames := 4, cells := 0, slots := 0, locals := 106 }
set_option maxHeartbeats 4000000 in
set_option maxRecDepth 20000 in
theorem m_Tri_thereAndBack (g : Gx) (hg : gOk g) (p0 : Nat) (p1 : Nat) (p2 : Nat) (n2 : Nat) (x3 : Int32) (x4 : Int32) (hk0 : kd p0 = 5) (hk1 : kd p1 = 2) (hk2 : kd p2 = 100 + n2) (s : St) (Q : Bool → St → Prop) (hw : vc_Tri_thereAndBack p0 p1 p2 n2 x3 x4 s Q) : Mc g y_Tri_thereAndBack b_Tri_thereAndBack 5 (some FieldType.boolean) rm_Tri_thereAndBack [.ref (ga g p0), .ref (ga g p1), .ref (ga g p2), .int x3, .int x4] s (fun v s' => ∃ r : Bool, v = some (.int (bi r)) ∧ Q r s') := by
  refine mc_ofV (j := 0) (L := [some (.ref (ga g p0)), some (.ref (ga g p1)), some (.ref (ga g p2)), some (.int x3), some (.int x4)]) hg (by decide) (Nat.le_of_ble_eq_true rfl) rfl ?_
  intro X hX C
  subst hX
  unfold vc_Tri_thereAndBack at hw
  refine x_aload_n C d_Tri_thereAndBack_0 rfl ?_
  refine g_Tri_0 (p := p0) C hk0 fl_Tri_12 d_Tri_thereAndBack_1 ?_
  refine x_aload_n C d_Tri_thereAndBack_4 rfl ?_
  refine x_aload_n C d_Tri_thereAndBack_5 rfl ?_
  refine x_iload_n C d_Tri_thereAndBack_6 rfl ?_
  refine x_iconst (v := 0) C d_Tri_thereAndBack_7 rfl ?_
  refine x_iload C d_Tri_thereAndBack_8 rfl ?_
  refine x_callV (As := [.ref (xa X p1), .ref (xa X p2), .int x3, .int 0, .int x4]) (rest := []) (p := (p0 + 1)) C (m_Leg_passAll (xg X) C.2.2.2.2.2.2.1 (p0 + 1) p1 p2 n2 x3 0 x4 (ks_5_1 hk0) hk1 hk2 s _ hw) cw_Leg_passAll ml_Tri_25 (ks_5_1 hk0) (by decide) (by decide) rfl rfl rfl ⟨rfl, rfl, Nat.le_of_ble_eq_true rfl, Nat.le_of_ble_eq_true rfl⟩ ⟨Nat.zero_le _, Nat.zero_le _⟩ rfl (Nat.le_of_ble_eq_true rfl) d_Tri_thereAndBack_10 ?_
  rintro _ s10 ⟨rfl, hw⟩
  show V X _ _ _ _ 13 [some (.ref (xa X p0)), some (.ref (xa X p1)), some (.ref (xa X p2)), some (.int x3), some (.int x4)] []
  refine x_aload_n C d_Tri_thereAndBack_13 rfl ?_
  refine g_Tri_0 (p := p0) C hk0 fl_Tri_12 d_Tri_thereAndBack_14 ?_
  refine g_Leg_2 (p := (p0 + 1)) C (ks_5_1 hk0) fl_Tri_29 d_Tri_thereAndBack_17 ?_
  refine x_bipush (v := (-4)) C d_Tri_thereAndBack_20 rfl ?_
  refine x_icmp_eq (tgt := 41) C d_Tri_thereAndBack_22 (by decide) (fun c11 => ?_) (fun c11 => ?_)
  · have hw := hw.1 c11
    refine x_aload_n C d_Tri_thereAndBack_41 rfl ?_
    refine g_Tri_1 (p := p0) C hk0 fl_Tri_18 d_Tri_thereAndBack_42 ?_
    refine x_aload_n C d_Tri_thereAndBack_45 rfl ?_
    refine x_aload_n C d_Tri_thereAndBack_46 rfl ?_
    refine x_iload_n C d_Tri_thereAndBack_47 rfl ?_
    refine x_iconst (v := 1) C d_Tri_thereAndBack_48 rfl ?_
    refine x_aload_n C d_Tri_thereAndBack_49 rfl ?_
    refine g_Tri_0 (p := p0) C hk0 fl_Tri_12 d_Tri_thereAndBack_50 ?_
    refine g_Leg_4 (p := (p0 + 1)) C (ks_5_1 hk0) fl_Tri_33 d_Tri_thereAndBack_53 ?_
    refine x_callV (As := [.ref (xa X p1), .ref (xa X p2), .int x3, .int 1, .int (s10 (p0 + 1) 4)]) (rest := []) (p := (p0 + 3)) C (m_Leg_passAll (xg X) C.2.2.2.2.2.2.1 (p0 + 3) p1 p2 n2 x3 1 (s10 (p0 + 1) 4) (ks_5_3 hk0) hk1 hk2 s10 _ hw) cw_Leg_passAll ml_Tri_25 (ks_5_3 hk0) (by decide) (by decide) rfl rfl rfl ⟨rfl, rfl, Nat.le_of_ble_eq_true rfl, Nat.le_of_ble_eq_true rfl⟩ ⟨Nat.zero_le _, Nat.zero_le _⟩ rfl (Nat.le_of_ble_eq_true rfl) d_Tri_thereAndBack_56 ?_
    rintro _ s12 ⟨rfl, hw⟩
    show V X _ _ _ _ 59 [some (.ref (xa X p0)), some (.ref (xa X p1)), some (.ref (xa X p2)), some (.int x3), some (.int x4)] []
    refine x_aload_n C d_Tri_thereAndBack_59 rfl ?_
    refine g_Tri_1 (p := p0) C hk0 fl_Tri_18 d_Tri_thereAndBack_60 ?_
    refine g_Leg_2 (p := (p0 + 3)) C (ks_5_3 hk0) fl_Tri_29 d_Tri_thereAndBack_63 ?_
    refine x_bipush (v := (-4)) C d_Tri_thereAndBack_66 rfl ?_
    refine x_icmp_ne (tgt := 75) C d_Tri_thereAndBack_68 (by decide) (fun c13 => ?_) (fun c13 => ?_)
    · have hw := hw.1 c13
      refine x_iconst (v := 0) C d_Tri_thereAndBack_75 rfl ?_
      exact x_zreturn (b := false) C d_Tri_thereAndBack_76 ⟨_, rfl, hw⟩
    · have hw := hw.2 c13
      refine x_iconst (v := 1) C d_Tri_thereAndBack_71 rfl ?_
      refine x_goto (tgt := 76) C d_Tri_thereAndBack_72 (by decide) ?_
      exact x_zreturn (b := true) C d_Tri_thereAndBack_76 ⟨_, rfl, hw⟩
  · have hw := hw.2 c11
    refine x_aload_n C d_Tri_thereAndBack_25 rfl ?_
    refine g_Tri_1 (p := p0) C hk0 fl_Tri_18 d_Tri_thereAndBack_26 ?_
    refine x_aload_n C d_Tri_thereAndBack_29 rfl ?_
    refine g_Tri_0 (p := p0) C hk0 fl_Tri_12 d_Tri_thereAndBack_30 ?_
    refine g_Leg_4 (p := (p0 + 1)) C (ks_5_1 hk0) fl_Tri_33 d_Tri_thereAndBack_33 ?_
    refine x_callV (As := [.int (s10 (p0 + 1) 4)]) (rest := []) (p := (p0 + 3)) C (m_Leg_begin (xg X) C.2.2.2.2.2.2.1 (p0 + 3) (s10 (p0 + 1) 4) (ks_5_3 hk0) s10 _ hw) cw_Leg_begin ml_Tri_36 (ks_5_3 hk0) (by decide) (by decide) rfl rfl rfl ⟨rfl, rfl, Nat.le_of_ble_eq_true rfl, Nat.le_of_ble_eq_true rfl⟩ ⟨Nat.zero_le _, Nat.zero_le _⟩ rfl (Nat.le_of_ble_eq_true rfl) d_Tri_thereAndBack_36 ?_
    rintro _ s14 ⟨rfl, hw⟩
    show V X _ _ _ _ 39 [some (.ref (xa X p0)), some (.ref (xa X p1)), some (.ref (xa X p2)), some (.int x3), some (.int x4)] []
    refine x_iconst (v := 0) C d_Tri_thereAndBack_39 rfl ?_
    exact x_zreturn (b := false) C d_Tri_thereAndBack_40 ⟨_, rfl, hw⟩
def vc_Best_find (p0 : Nat) (p1 : Nat) (p2 : Nat) (s : St) (Q : St → Prop) : Prop :=
    (((s p0 4) = 0 → (∀ x11 : Int32, x11 = s (p1 + 10) 0 → (∃ I14 : Nat → Int32 → St → Prop, (∃ n15, I14 n15 0 s) ∧ ∀ (nI14 : Nat) (x12 : Int32) (s13 : St), I14 nI14 x12 s13 → ((x11 ≤ x12 → (∀ s17 : St, s17 = wr s13 p0 1 (-1) → (∃ I21 : Nat → Int32 → Int32 → St → Prop, (∃ n22, I21 n22 1 0 s17) ∧ ∀ (nI21 : Nat) (x18 : Int32) (x19 : Int32) (s20 : St), I21 nI21 x18 x19 s20 → (∃ J23 : Prop, (J23 → (∀ s24 : St, s24 = wr s20 p0 4 1 → Q s24)) ∧ ((x18 = 0 → J23) ∧ (¬ x18 = 0 → ((720 ≤ x19 → J23) ∧ (¬ 720 ≤ x19 → vc_Tri_thereAndBack p2 p1 (p0 + 2) 6 x11 (s20 p1 5) s20 (fun b27 s28 => vc_Best_weigh p0 (p2 + 3) s28 (fun s29 => vc_Best_goToNext p0 x11 s29 (fun b30 s31 => (∀ x32 : Int32, x32 = x19 + 1 → ∃ m33, m33 < nI21 ∧ I21 m33 (bi b30) x32 s31)))))))))))) ∧ (¬ x11 ≤ x12 → (vp_in x12 6 ∧ (∀ s35 : St, s35 = wr s13 (p0 + 2) (Int32.toNatClampNeg x12) x12 → (∀ x36 : Int32, x36 = x12 + 1 → ∃ m37, m37 < nI14 ∧ I14 m37 x36 s35)))))))) ∧ (¬ (s p0 4) = 0 → Q s))
def rm_Best_find : Room := { frames := 5, cells := 0, slots := 0, locals := 130 }
set_option maxHeartbeats 4000000 in
set_option maxRecDepth 20000 in
theorem m_Best_find (g : Gx) (hg : gOk g) (p0 : Nat) (p1 : Nat) (p2 : Nat) (hk0 : kd p0 = 7) (hk1 : kd p1 = 2) (hk2 : kd p2 = 5) (s : St) (Q : St → Prop) (hw : vc_Best_find p0 p1 p2 s Q) : Mc g y_Best_find b_Best_find 6 (none) rm_Best_find [.ref (ga g p0), .ref (ga g p1), .ref (ga g p2)] s (fun v s' => v = none ∧ Q s') := by
  refine mc_ofV (j := 3) (L := [some (.ref (ga g p0)), some (.ref (ga g p1)), some (.ref (ga g p2)), none, none, none]) hg (by decide) (Nat.le_of_ble_eq_true rfl) rfl ?_
  intro X hX C
  subst hX
  unfold vc_Best_find at hw
  refine x_aload_n C d_Best_find_0 rfl ?_
  refine g_Best_4 (p := p0) C hk0 fl_Best_25 d_Best_find_1 ?_
  refine x_if_eq (tgt := 8) C d_Best_find_4 (by decide) (fun c10 => ?_) (fun c10 => ?_)
  · have hw := hw.1 c10
    refine x_aload_n C d_Best_find_8 rfl ?_
    refine g_Cav_1 (p := p1) C hk1 fl_Best_29 d_Best_find_9 ?_
    refine g_Bod_0 (p := (p1 + 10)) C (ks_2_10 hk1) fl_Best_35 d_Best_find_12 ?_
    refine x_nm (fun x11 hx11 => ?_)
    have hw := hw x11 hx11
    refine x_istore_n (L' := [some (.ref (xa X p0)), some (.ref (xa X p1)), some (.ref (xa X p2)), some (.int x11), none, none]) C d_Best_find_15 (Nat.le_of_ble_eq_true rfl) rfl ?_
    refine x_iconst (v := 0) C d_Best_find_16 rfl ?_
    refine x_istore (L' := [some (.ref (xa X p0)), some (.ref (xa X p1)), some (.ref (xa X p2)), some (.int x11), some (.int 0), none]) C d_Best_find_17 (Nat.le_of_ble_eq_true rfl) rfl ?_
    obtain ⟨I14, ⟨n15, hn15⟩, hI14⟩ := hw
    have lI14 : ∀ (nI14 : Nat) (x12 : Int32) (s13 : St), I14 nI14 x12 s13 → V X (xQ X (fun v s' => v = none ∧ Q s')) 0 0 s13 19 [some (.ref (xa X p0)), some (.ref (xa X p1)), some (.ref (xa X p2)), some (.int x11), some (.int x12), none] [] := by
      intro nI14
      induction nI14 using Nat.strongRecOn with
      | ind nI14 ihI14 =>
        intro x12 s13 hv
        have hw := hI14 nI14 x12 s13 hv
        refine x_iload C d_Best_find_19 rfl ?_
        refine x_iload_n C d_Best_find_21 rfl ?_
        refine x_icmp_ge (tgt := 40) C d_Best_find_22 (by decide) (fun c16 => ?_) (fun c16 => ?_)
        · have hw := hw.1 c16
          refine x_aload_n C d_Best_find_40 rfl ?_
          refine x_iconst (v := (-1)) C d_Best_find_41 rfl ?_
          refine p_Best_1 (p := p0) C hk0 fl_Best_15 d_Best_find_42 ?_
          refine x_st (fun s17 hs17 => ?_)
          have hw := hw s17 hs17
          refine x_iconst (v := 1) C d_Best_find_45 rfl ?_
          refine x_istore (L' := [some (.ref (xa X p0)), some (.ref (xa X p1)), some (.ref (xa X p2)), some (.int x11), some (.int 1), none]) C d_Best_find_46 (Nat.le_of_ble_eq_true rfl) rfl ?_
          refine x_iconst (v := 0) C d_Best_find_48 rfl ?_
          refine x_istore (L' := [some (.ref (xa X p0)), some (.ref (xa X p1)), some (.ref (xa X p2)), some (.int x11), some (.int 1), some (.int 0)]) C d_Best_find_49 (Nat.le_of_ble_eq_true rfl) rfl ?_
          obtain ⟨I21, ⟨n22, hn22⟩, hI21⟩ := hw
          have lI21 : ∀ (nI21 : Nat) (x18 : Int32) (x19 : Int32) (s20 : St), I21 nI21 x18 x19 s20 → V X (xQ X (fun v s' => v = none ∧ Q s')) 0 0 s20 51 [some (.ref (xa X p0)), some (.ref (xa X p1)), some (.ref (xa X p2)), some (.int x11), some (.int x18), some (.int x19)] [] := by
            intro nI21
            induction nI21 using Nat.strongRecOn with
            | ind nI21 ihI21 =>
              intro x18 x19 s20 hv
              have hw := hI21 nI21 x18 x19 s20 hv
              refine x_iload C d_Best_find_51 rfl ?_
              obtain ⟨J23, hJ23, hw⟩ := hw
              have kJ23 : J23 → V X (xQ X (fun v s' => v = none ∧ Q s')) 0 0 s20 100 [some (.ref (xa X p0)), some (.ref (xa X p1)), some (.ref (xa X p2)), some (.int x11), some (.int x18), some (.int x19)] [] := by
                intro  hv
                have hw := hJ23  hv
                refine x_aload_n C d_Best_find_100 rfl ?_
                refine x_iconst (v := 1) C d_Best_find_101 rfl ?_
                refine p_Best_4 (p := p0) C hk0 fl_Best_25 ⟨rfl, rfl⟩ d_Best_find_102 ?_
                refine x_st (fun s24 hs24 => ?_)
                have hw := hw s24 hs24
                exact x_return C d_Best_find_105 ⟨rfl, hw⟩
              refine x_if_eq (tgt := 100) C d_Best_find_53 (by decide) (fun c25 => ?_) (fun c25 => ?_)
              · have hw := hw.1 c25
                exact x_wk (kJ23  hw) (And.intro rfl (And.intro rfl (And.intro rfl (And.intro rfl (And.intro rfl (And.intro rfl (trivial)))))))
              · have hw := hw.2 c25
                refine x_iload C d_Best_find_56 rfl ?_
                refine x_sipush (v := 720) C d_Best_find_58 rfl ?_
                refine x_icmp_ge (tgt := 100) C d_Best_find_61 (by decide) (fun c26 => ?_) (fun c26 => ?_)
                · have hw := hw.1 c26
                  exact x_wk (kJ23  hw) (And.intro rfl (And.intro rfl (And.intro rfl (And.intro rfl (And.intro rfl (And.intro rfl (trivial)))))))
                · have hw := hw.2 c26
                  refine x_aload_n C d_Best_find_64 rfl ?_
                  refine x_aload_n C d_Best_find_65 rfl ?_
                  refine x_aload_n C d_Best_find_66 rfl ?_
                  refine g_Best_2 (p := p0) C hk0 fl_Best_19 d_Best_find_67 ?_
                  refine x_iload_n C d_Best_find_70 rfl ?_
                  refine x_aload_n C d_Best_find_71 rfl ?_
                  refine g_Cav_5 (p := p1) C hk1 fl_Best_40 d_Best_find_72 ?_
                  refine x_callV (As := [.ref (xa X p1), .ref (xa X (p0 + 2)), .int x11, .int (s20 p1 5)]) (rest := []) (p := p2) C (m_Tri_thereAndBack (xg X) C.2.2.2.2.2.2.1 p2 p1 (p0 + 2) 6 x11 (s20 p1 5) hk2 hk1 (ks_7_2 hk0) s20 _ hw) cw_Tri_thereAndBack ml_Best_41 hk2 (by decide) (by decide) rfl rfl rfl ⟨rfl, rfl, Nat.le_of_ble_eq_true rfl, Nat.le_of_ble_eq_true rfl⟩ ⟨Nat.zero_le _, Nat.zero_le _⟩ rfl (Nat.le_of_ble_eq_true rfl) d_Best_find_75 ?_
                  rintro _ s28 ⟨b27, rfl, hw⟩
                  show V X _ _ _ _ 78 [some (.ref (xa X p0)), some (.ref (xa X p1)), some (.ref (xa X p2)), some (.int x11), some (.int x18), some (.int x19)] [.int (bi b27)]
                  refine x_pop C d_Best_find_78 rfl ?_
                  refine x_aload_n C d_Best_find_79 rfl ?_
                  refine x_aload_n C d_Best_find_80 rfl ?_
                  refine g_Tri_1 (p := p2) C hk2 fl_Best_47 d_Best_find_81 ?_
                  refine x_callV (As := [.ref (xa X (p2 + 3))]) (rest := []) (p := p0) C (m_Best_weigh (xg X) C.2.2.2.2.2.2.1 p0 (p2 + 3) hk0 (ks_5_3 hk2) s28 _ hw) cw_Best_weigh ml_Best_51 hk0 (by decide) (by decide) rfl rfl rfl ⟨rfl, rfl, Nat.le_of_ble_eq_true rfl, Nat.le_of_ble_eq_true rfl⟩ ⟨Nat.zero_le _, Nat.zero_le _⟩ rfl (Nat.le_of_ble_eq_true rfl) d_Best_find_84 ?_
                  rintro _ s29 ⟨rfl, hw⟩
                  show V X _ _ _ _ 87 [some (.ref (xa X p0)), some (.ref (xa X p1)), some (.ref (xa X p2)), some (.int x11), some (.int x18), some (.int x19)] []
                  refine x_aload_n C d_Best_find_87 rfl ?_
                  refine x_iload_n C d_Best_find_88 rfl ?_
                  refine x_callV (As := [.int x11]) (rest := []) (p := p0) C (m_Best_goToNext (xg X) C.2.2.2.2.2.2.1 p0 x11 hk0 s29 _ hw) cw_Best_goToNext ml_Best_55 hk0 (by decide) (by decide) rfl rfl rfl ⟨rfl, rfl, Nat.le_of_ble_eq_true rfl, Nat.le_of_ble_eq_true rfl⟩ ⟨Nat.zero_le _, Nat.zero_le _⟩ rfl (Nat.le_of_ble_eq_true rfl) d_Best_find_89 ?_
                  rintro _ s31 ⟨b30, rfl, hw⟩
                  show V X _ _ _ _ 92 [some (.ref (xa X p0)), some (.ref (xa X p1)), some (.ref (xa X p2)), some (.int x11), some (.int x18), some (.int x19)] [.int (bi b30)]
                  refine x_istore (L' := [some (.ref (xa X p0)), some (.ref (xa X p1)), some (.ref (xa X p2)), some (.int x11), some (.int (bi b30)), some (.int x19)]) C d_Best_find_92 (Nat.le_of_ble_eq_true rfl) rfl ?_
                  obtain ⟨x32, hx32⟩ : ∃ z : Int32, z = x19 + 1 := ⟨_, rfl⟩
                  refine x_iinc (v := x32) (L' := [some (.ref (xa X p0)), some (.ref (xa X p1)), some (.ref (xa X p2)), some (.int x11), some (.int (bi b30)), some (.int x32)]) C d_Best_find_94 (Nat.le_of_ble_eq_true rfl) rfl (by rw [hx32]; rfl) rfl ?_
                  have hw := hw x32 hx32
                  refine x_goto (tgt := 51) C d_Best_find_97 (by decide) ?_
                  obtain ⟨m33, hm33, hw⟩ := hw
                  exact x_wk (ihI21 m33 hm33 (bi b30) x32 s31 hw) (And.intro rfl (And.intro rfl (And.intro rfl (And.intro rfl (And.intro rfl (And.intro rfl (trivial)))))))
          exact x_wk (lI21 n22 1 0 s17 hn22) (And.intro rfl (And.intro rfl (And.intro rfl (And.intro rfl (And.intro rfl (And.intro rfl (trivial)))))))
        · have hw := hw.2 c16
          refine x_aload_n C d_Best_find_25 rfl ?_
          refine g_Best_2 (p := p0) C hk0 fl_Best_19 d_Best_find_26 ?_
          refine x_iload C d_Best_find_29 rfl ?_
          refine x_iload C d_Best_find_31 rfl ?_
          obtain ⟨h34, hw⟩ := hw
          refine x_iast (p := (p0 + 2)) (n := 6) C (ks_7_2 hk0) h34 d_Best_find_33 ?_
          refine x_st (fun s35 hs35 => ?_)
          have hw := hw s35 hs35
          obtain ⟨x36, hx36⟩ : ∃ z : Int32, z = x12 + 1 := ⟨_, rfl⟩
          refine x_iinc (v := x36) (L' := [some (.ref (xa X p0)), some (.ref (xa X p1)), some (.ref (xa X p2)), some (.int x11), some (.int x36), none]) C d_Best_find_34 (Nat.le_of_ble_eq_true rfl) rfl (by rw [hx36]; rfl) rfl ?_
          have hw := hw x36 hx36
          refine x_goto (tgt := 19) C d_Best_find_37 (by decide) ?_
          obtain ⟨m37, hm37, hw⟩ := hw
          exact x_wk (ihI14 m37 hm37 x36 s35 hw) (And.intro rfl (And.intro rfl (And.intro rfl (And.intro rfl (And.intro rfl (trivial))))))
    exact x_wk (lI14 n15 0 s hn15) (And.intro rfl (And.intro rfl (And.intro rfl (And.intro rfl (And.intro rfl (trivial))))))
  · have hw := hw.2 c10
    exact x_return C d_Best_find_7 ⟨rfl, hw⟩
def vc_Brt_within (x0 : Int32) (x1 : Int32) (x2 : Int32) (Q : Bool → Prop) : Prop :=
    ((x0 < x1 → Q false) ∧ (¬ x0 < x1 → ((x2 < x0 → Q false) ∧ (¬ x2 < x0 → Q true))))
def rm_Brt_within : Room := { frames := 0, cells := 0, slots := 0, locals := 0 }
set_option maxHeartbeats 4000000 in
set_option maxRecDepth 20000 in
theorem m_Brt_within (g : Gx) (hg : gOk g) (x0 : Int32) (x1 : Int32) (x2 : Int32)  (s : St) (Q : Bool → Prop) (hw : vc_Brt_within x0 x1 x2 Q) : Mc g y_Brt_within b_Brt_within 3 (some FieldType.boolean) rm_Brt_within [.int x0, .int x1, .int x2] s (fun v s' => ∃ r : Bool, v = some (.int (bi r)) ∧ s = s' ∧ Q r) := by
  refine mc_ofV (j := 0) (L := [some (.int x0), some (.int x1), some (.int x2)]) hg (by decide) (Nat.le_of_ble_eq_true rfl) rfl ?_
  intro X hX C
  subst hX
  unfold vc_Brt_within at hw
  refine x_iload_n C d_Brt_within_0 rfl ?_
  refine x_iload_n C d_Brt_within_1 rfl ?_
  refine x_icmp_lt (tgt := 14) C d_Brt_within_2 (by decide) (fun c10 => ?_) (fun c10 => ?_)
  · have hw := hw.1 c10
    refine x_iconst (v := 0) C d_Brt_within_14 rfl ?_
    exact x_zreturn (b := false) C d_Brt_within_15 ⟨_, rfl, rfl, hw⟩
  · have hw := hw.2 c10
    refine x_iload_n C d_Brt_within_5 rfl ?_
    refine x_iload_n C d_Brt_within_6 rfl ?_
    refine x_icmp_gt (tgt := 14) C d_Brt_within_7 (by decide) (fun c11 => ?_) (fun c11 => ?_)
    · have hw := hw.1 c11
      refine x_iconst (v := 0) C d_Brt_within_14 rfl ?_
      exact x_zreturn (b := false) C d_Brt_within_15 ⟨_, rfl, rfl, hw⟩
    · have hw := hw.2 c11
      refine x_iconst (v := 1) C d_Brt_within_10 rfl ?_
      refine x_goto (tgt := 15) C d_Brt_within_11 (by decide) ?_
      exact x_zreturn (b := true) C d_Brt_within_15 ⟨_, rfl, rfl, hw⟩
def vc_Bod_has (p0 : Nat) (x1 : Int32) (s : St) (Q : Bool → Prop) : Prop :=
    vc_Brt_within x1 0 ((s p0 0) - 1) (fun b10 => Q b10)
def rm_Bod_has : Room := { frames := 1, cells := 0, slots := 0, locals := 22 }
set_option maxHeartbeats 4000000 in
set_option maxRecDepth 20000 in
theorem m_Bod_has (g : Gx) (hg : gOk g) (p0 : Nat) (x1 : Int32) (hk0 : kd p0 = 4) (s : St) (Q : Bool → Prop) (hw : vc_Bod_has p0 x1 s Q) : Mc g y_Bod_has b_Bod_has 2 (some FieldType.boolean) rm_Bod_has [.ref (ga g p0), .int x1] s (fun v s' => ∃ r : Bool, v = some (.int (bi r)) ∧ s = s' ∧ Q r) := by
  refine mc_ofV (j := 0) (L := [some (.ref (ga g p0)), some (.int x1)]) hg (by decide) (Nat.le_of_ble_eq_true rfl) rfl ?_
  intro X hX C
  subst hX
  unfold vc_Bod_has at hw
  refine x_iload_n C d_Bod_has_0 rfl ?_
  refine x_iconst (v := 0) C d_Bod_has_1 rfl ?_
  refine x_aload_n C d_Bod_has_2 rfl ?_
  refine g_Bod_0 (p := p0) C hk0 fl_Bod_9 d_Bod_has_3 ?_
  refine x_iconst (v := 1) C d_Bod_has_6 rfl ?_
  refine x_isub C d_Bod_has_7 ?_
  refine x_callSN (As := [.int x1, .int 0, .int ((s p0 0) - 1)]) (rest := []) C (m_Brt_within (xg X) C.2.2.2.2.2.2.1 x1 0 ((s p0 0) - 1) s _ hw) cw_Brt_within ml_Bod_34 rfl rfl rfl ⟨rfl, rfl, Nat.le_of_ble_eq_true rfl, Nat.le_of_ble_eq_true rfl⟩ ⟨Nat.zero_le _, Nat.zero_le _⟩ rfl (Nat.le_of_ble_eq_true rfl) d_Bod_has_8 ?_
  rintro _ _ ⟨b10, rfl, rfl, hw⟩
  show V X _ _ _ _ 11 [some (.ref (xa X p0)), some (.int x1)] [.int (bi b10)]
  exact x_zreturn (b := b10) C d_Bod_has_11 ⟨_, rfl, rfl, hw⟩
def vc_Bod_add (p0 : Nat) (x1 : Int32) (x2 : Int32) (x3 : Int32) (x4 : Int32) (s : St) (Q : Bool → St → Prop) : Prop :=
    vc_Brt_within x1 10 50 (fun b10 => (((bi b10) = 0 → Q false s) ∧ (¬ (bi b10) = 0 → (((s p0 0) < 6 → (vp_in (s p0 0) 6 ∧ (∀ s15 : St, s15 = wr s (p0 + 1) (Int32.toNatClampNeg (s p0 0)) x1 → (vp_in (s15 p0 0) 6 ∧ (∀ s17 : St, s17 = wr s15 (p0 + 2) (Int32.toNatClampNeg (s15 p0 0)) x2 → (vp_in (s17 p0 0) 6 ∧ (∀ s19 : St, s19 = wr s17 (p0 + 3) (Int32.toNatClampNeg (s17 p0 0)) x3 → (vp_in (s19 p0 0) 6 ∧ (∀ s21 : St, s21 = wr s19 (p0 + 4) (Int32.toNatClampNeg (s19 p0 0)) x4 → (vp_in (s21 p0 0) 6 ∧ (∀ s23 : St, s23 = wr s21 (p0 + 5) (Int32.toNatClampNeg (s21 p0 0)) 0 → (vp_in (s23 p0 0) 6 ∧ (∀ s25 : St, s25 = wr s23 (p0 + 6) (Int32.toNatClampNeg (s23 p0 0)) (s23 p0 0) → (∀ s26 : St, s26 = wr s25 p0 0 ((s25 p0 0) + 1) → Q true s26)))))))))))))) ∧ (¬ (s p0 0) < 6 → Q false s)))))
def rm_Bod_add : Room := { frames := 1, cells := 0, slots := 0, locals := 22 }
set_option maxHeartbeats 4000000 in
set_option maxRecDepth 20000 in
theorem m_Bod_add (g : Gx) (hg : gOk g) (p0 : Nat) (x1 : Int32) (x2 : Int32) (x3 : Int32) (x4 : Int32) (hk0 : kd p0 = 4) (s : St) (Q : Bool → St → Prop) (hw : vc_Bod_add p0 x1 x2 x3 x4 s Q) : Mc g y_Bod_add b_Bod_add 5 (some FieldType.boolean) rm_Bod_add [.ref (ga g p0), .int x1, .int x2, .int x3, .int x4] s (fun v s' => ∃ r : Bool, v = some (.int (bi r)) ∧ Q r s') := by
  refine mc_ofV (j := 0) (L := [some (.ref (ga g p0)), some (.int x1), some (.int x2), some (.int x3), some (.int x4)]) hg (by decide) (Nat.le_of_ble_eq_true rfl) rfl ?_
  intro X hX C
  subst hX
  unfold vc_Bod_add at hw
  refine x_iload_n C d_Bod_add_0 rfl ?_
  refine x_bipush (v := 10) C d_Bod_add_1 rfl ?_
  refine x_bipush (v := 50) C d_Bod_add_3 rfl ?_
  refine x_callSN (As := [.int x1, .int 10, .int 50]) (rest := []) C (m_Brt_within (xg X) C.2.2.2.2.2.2.1 x1 10 50 s _ hw) cw_Brt_within ml_Bod_34 rfl rfl rfl ⟨rfl, rfl, Nat.le_of_ble_eq_true rfl, Nat.le_of_ble_eq_true rfl⟩ ⟨Nat.zero_le _, Nat.zero_le _⟩ rfl (Nat.le_of_ble_eq_true rfl) d_Bod_add_5 ?_
  rintro _ _ ⟨b10, rfl, rfl, hw⟩
  show V X _ _ _ _ 8 [some (.ref (xa X p0)), some (.int x1), some (.int x2), some (.int x3), some (.int x4)] [.int (bi b10)]
  refine x_if_eq (tgt := 20) C d_Bod_add_8 (by decide) (fun c12 => ?_) (fun c12 => ?_)
  · have hw := hw.1 c12
    refine x_iconst (v := 0) C d_Bod_add_20 rfl ?_
    exact x_zreturn (b := false) C d_Bod_add_21 ⟨_, rfl, hw⟩
  · have hw := hw.2 c12
    refine x_aload_n C d_Bod_add_11 rfl ?_
    refine g_Bod_0 (p := p0) C hk0 fl_Bod_9 d_Bod_add_12 ?_
    refine x_bipush (v := 6) C d_Bod_add_15 rfl ?_
    refine x_icmp_lt (tgt := 22) C d_Bod_add_17 (by decide) (fun c13 => ?_) (fun c13 => ?_)
    · have hw := hw.1 c13
      refine x_aload_n C d_Bod_add_22 rfl ?_
      refine g_Bod_1 (p := p0) C hk0 fl_Bod_15 d_Bod_add_23 ?_
      refine x_aload_n C d_Bod_add_26 rfl ?_
      refine g_Bod_0 (p := p0) C hk0 fl_Bod_9 d_Bod_add_27 ?_
      refine x_iload_n C d_Bod_add_30 rfl ?_
      obtain ⟨h14, hw⟩ := hw
      refine x_iast (p := (p0 + 1)) (n := 6) C (ks_4_1 hk0) h14 d_Bod_add_31 ?_
      refine x_st (fun s15 hs15 => ?_)
      have hw := hw s15 hs15
      refine x_aload_n C d_Bod_add_32 rfl ?_
      refine g_Bod_2 (p := p0) C hk0 fl_Bod_19 d_Bod_add_33 ?_
      refine x_aload_n C d_Bod_add_36 rfl ?_
      refine g_Bod_0 (p := p0) C hk0 fl_Bod_9 d_Bod_add_37 ?_
      refine x_iload_n C d_Bod_add_40 rfl ?_
      obtain ⟨h16, hw⟩ := hw
      refine x_iast (p := (p0 + 2)) (n := 6) C (ks_4_2 hk0) h16 d_Bod_add_41 ?_
      refine x_st (fun s17 hs17 => ?_)
      have hw := hw s17 hs17
      refine x_aload_n C d_Bod_add_42 rfl ?_
      refine g_Bod_3 (p := p0) C hk0 fl_Bod_22 d_Bod_add_43 ?_
      refine x_aload_n C d_Bod_add_46 rfl ?_
      refine g_Bod_0 (p := p0) C hk0 fl_Bod_9 d_Bod_add_47 ?_
      refine x_iload_n C d_Bod_add_50 rfl ?_
      obtain ⟨h18, hw⟩ := hw
      refine x_iast (p := (p0 + 3)) (n := 6) C (ks_4_3 hk0) h18 d_Bod_add_51 ?_
      refine x_st (fun s19 hs19 => ?_)
      have hw := hw s19 hs19
      refine x_aload_n C d_Bod_add_52 rfl ?_
      refine g_Bod_4 (p := p0) C hk0 fl_Bod_25 d_Bod_add_53 ?_
      refine x_aload_n C d_Bod_add_56 rfl ?_
      refine g_Bod_0 (p := p0) C hk0 fl_Bod_9 d_Bod_add_57 ?_
      refine x_iload C d_Bod_add_60 rfl ?_
      obtain ⟨h20, hw⟩ := hw
      refine x_iast (p := (p0 + 4)) (n := 6) C (ks_4_4 hk0) h20 d_Bod_add_62 ?_
      refine x_st (fun s21 hs21 => ?_)
      have hw := hw s21 hs21
      refine x_aload_n C d_Bod_add_63 rfl ?_
      refine g_Bod_5 (p := p0) C hk0 fl_Bod_28 d_Bod_add_64 ?_
      refine x_aload_n C d_Bod_add_67 rfl ?_
      refine g_Bod_0 (p := p0) C hk0 fl_Bod_9 d_Bod_add_68 ?_
      refine x_iconst (v := 0) C d_Bod_add_71 rfl ?_
      obtain ⟨h22, hw⟩ := hw
      refine x_iast (p := (p0 + 5)) (n := 6) C (ks_4_5 hk0) h22 d_Bod_add_72 ?_
      refine x_st (fun s23 hs23 => ?_)
      have hw := hw s23 hs23
      refine x_aload_n C d_Bod_add_73 rfl ?_
      refine g_Bod_6 (p := p0) C hk0 fl_Bod_31 d_Bod_add_74 ?_
      refine x_aload_n C d_Bod_add_77 rfl ?_
      refine g_Bod_0 (p := p0) C hk0 fl_Bod_9 d_Bod_add_78 ?_
      refine x_aload_n C d_Bod_add_81 rfl ?_
      refine g_Bod_0 (p := p0) C hk0 fl_Bod_9 d_Bod_add_82 ?_
      obtain ⟨h24, hw⟩ := hw
      refine x_iast (p := (p0 + 6)) (n := 6) C (ks_4_6 hk0) h24 d_Bod_add_85 ?_
      refine x_st (fun s25 hs25 => ?_)
      have hw := hw s25 hs25
      refine x_aload_n C d_Bod_add_86 rfl ?_
      refine x_dup C d_Bod_add_87 rfl ?_
      refine g_Bod_0 (p := p0) C hk0 fl_Bod_9 d_Bod_add_88 ?_
      refine x_iconst (v := 1) C d_Bod_add_91 rfl ?_
      refine x_iadd C d_Bod_add_92 ?_
      refine p_Bod_0 (p := p0) C hk0 fl_Bod_9 d_Bod_add_93 ?_
      refine x_st (fun s26 hs26 => ?_)
      have hw := hw s26 hs26
      refine x_iconst (v := 1) C d_Bod_add_96 rfl ?_
      exact x_zreturn (b := true) C d_Bod_add_97 ⟨_, rfl, hw⟩
    · have hw := hw.2 c13
      refine x_iconst (v := 0) C d_Bod_add_20 rfl ?_
      exact x_zreturn (b := false) C d_Bod_add_21 ⟨_, rfl, hw⟩
def vc_Bod_traitOf (p0 : Nat) (x1 : Int32) (x2 : Int32) (s : St) (Q : Int32 → Prop) : Prop :=
    vc_Bod_has p0 x1 s (fun b10 => ((¬ (bi b10) = 0 → ((x2 = 0 → (vp_in x1 6 ∧ Q (s (p0 + 3) (Int32.toNatClampNeg x1)))) ∧ (¬ x2 = 0 → ((x2 = 1 → (vp_in x1 6 ∧ Q (s (p0 + 5) (Int32.toNatClampNeg x1)))) ∧ (¬ x2 = 1 → ((x2 = 2 → (vp_in x1 6 ∧ Q (s (p0 + 1) (Int32.toNatClampNeg x1)))) ∧ (¬ x2 = 2 → Q (-1)))))))) ∧ ((bi b10) = 0 → Q (-1))))
def rm_Bod_traitOf : Room := { frames := 2, cells := 0, slots := 0, locals := 43 }
set_option maxHeartbeats 4000000 in
set_option maxRecDepth 20000 in
theorem m_Bod_traitOf (g : Gx) (hg : gOk g) (p0 : Nat) (x1 : Int32) (x2 : Int32) (hk0 : kd p0 = 4) (s : St) (Q : Int32 → Prop) (hw : vc_Bod_traitOf p0 x1 x2 s Q) : Mc g y_Bod_traitOf b_Bod_traitOf 3 (some FieldType.int) rm_Bod_traitOf [.ref (ga g p0), .int x1, .int x2] s (fun v s' => ∃ r : Int32, v = some (.int r) ∧ s = s' ∧ Q r) := by
  refine mc_ofV (j := 0) (L := [some (.ref (ga g p0)), some (.int x1), some (.int x2)]) hg (by decide) (Nat.le_of_ble_eq_true rfl) rfl ?_
  intro X hX C
  subst hX
  unfold vc_Bod_traitOf at hw
  refine x_aload_n C d_Bod_traitOf_0 rfl ?_
  refine x_iload_n C d_Bod_traitOf_1 rfl ?_
  refine x_callV (As := [.int x1]) (rest := []) (p := p0) C (m_Bod_has (xg X) C.2.2.2.2.2.2.1 p0 x1 hk0 s _ hw) cw_Bod_has ml_Bod_38 hk0 (by decide) (by decide) rfl rfl rfl ⟨rfl, rfl, Nat.le_of_ble_eq_true rfl, Nat.le_of_ble_eq_true rfl⟩ ⟨Nat.zero_le _, Nat.zero_le _⟩ rfl (Nat.le_of_ble_eq_true rfl) d_Bod_traitOf_2 ?_
  rintro _ _ ⟨b10, rfl, rfl, hw⟩
  show V X _ _ _ _ 5 [some (.ref (xa X p0)), some (.int x1), some (.int x2)] [.int (bi b10)]
  refine x_if_ne (tgt := 10) C d_Bod_traitOf_5 (by decide) (fun c12 => ?_) (fun c12 => ?_)
  · have hw := hw.1 c12
    refine x_iload_n C d_Bod_traitOf_10 rfl ?_
    by_cases c13 : x2 = 0
    · have hw := hw.1 c13
      refine x_tswIn (v := 0) (off := 25) (tgt := 36) C d_Bod_traitOf_11 c13 (by decide) (by decide) rfl (by decide) ?_
      refine x_aload_n C d_Bod_traitOf_36 rfl ?_
      refine g_Bod_3 (p := p0) C hk0 fl_Bod_22 d_Bod_traitOf_37 ?_
      refine x_iload_n C d_Bod_traitOf_40 rfl ?_
      obtain ⟨h14, hw⟩ := hw
      refine x_iald (p := (p0 + 3)) (n := 6) C (ks_4_3 hk0) h14 d_Bod_traitOf_41 ?_
      exact x_ireturn C d_Bod_traitOf_42 ⟨_, rfl, rfl, hw⟩
    have hw := hw.2 c13
    by_cases c15 : x2 = 1
    · have hw := hw.1 c15
      refine x_tswIn (v := 1) (off := 32) (tgt := 43) C d_Bod_traitOf_11 c15 (by decide) (by decide) rfl (by decide) ?_
      refine x_aload_n C d_Bod_traitOf_43 rfl ?_
      refine g_Bod_5 (p := p0) C hk0 fl_Bod_28 d_Bod_traitOf_44 ?_
      refine x_iload_n C d_Bod_traitOf_47 rfl ?_
      obtain ⟨h16, hw⟩ := hw
      refine x_iald (p := (p0 + 5)) (n := 6) C (ks_4_5 hk0) h16 d_Bod_traitOf_48 ?_
      exact x_ireturn C d_Bod_traitOf_49 ⟨_, rfl, rfl, hw⟩
    have hw := hw.2 c15
    by_cases c17 : x2 = 2
    · have hw := hw.1 c17
      refine x_tswIn (v := 2) (off := 39) (tgt := 50) C d_Bod_traitOf_11 c17 (by decide) (by decide) rfl (by decide) ?_
      refine x_aload_n C d_Bod_traitOf_50 rfl ?_
      refine g_Bod_1 (p := p0) C hk0 fl_Bod_15 d_Bod_traitOf_51 ?_
      refine x_iload_n C d_Bod_traitOf_54 rfl ?_
      obtain ⟨h18, hw⟩ := hw
      refine x_iald (p := (p0 + 1)) (n := 6) C (ks_4_1 hk0) h18 d_Bod_traitOf_55 ?_
      exact x_ireturn C d_Bod_traitOf_56 ⟨_, rfl, rfl, hw⟩
    have hw := hw.2 c17
    refine x_tswD (tgt := 57) C d_Bod_traitOf_11 (fun j hj => by match j, hj with | 0, _ => exact Or.inr c13 | 1, _ => exact Or.inr c15 | 2, _ => exact Or.inr c17 | j + 3, hj => exact absurd hj (by omega)) (by decide) ?_
    refine x_iconst (v := (-1)) C d_Bod_traitOf_57 rfl ?_
    exact x_ireturn C d_Bod_traitOf_58 ⟨_, rfl, rfl, hw⟩
  · have hw := hw.2 c12
    refine x_iconst (v := (-1)) C d_Bod_traitOf_8 rfl ?_
    exact x_ireturn C d_Bod_traitOf_9 ⟨_, rfl, rfl, hw⟩
def vc_Bod_alter (p0 : Nat) (x1 : Int32) (x2 : Int32) (x3 : Int32) (s : St) (Q : Bool → St → Prop) : Prop :=
    vc_Bod_has p0 x1 s (fun b10 => ((¬ (bi b10) = 0 → (∃ J13 : Prop, (J13 → (∃ J14 : Prop, (J14 → ((¬ x2 = 2 → Q false s) ∧ (x2 = 2 → vc_Brt_within x3 10 50 (fun b16 => (((bi b16) = 0 → Q false s) ∧ (¬ (bi b16) = 0 → (vp_in x1 6 ∧ (∀ s20 : St, s20 = wr s (p0 + 1) (Int32.toNatClampNeg x1) x3 → Q true s20)))))))) ∧ ((¬ x2 = 1 → J14) ∧ (x2 = 1 → vc_Brt_within x3 0 3 (fun b22 => (((bi b22) = 0 → J14) ∧ (¬ (bi b22) = 0 → (vp_in x1 6 ∧ (∀ s26 : St, s26 = wr s (p0 + 5) (Int32.toNatClampNeg x1) x3 → Q true s26))))))))) ∧ ((¬ x2 = 0 → J13) ∧ (x2 = 0 → vc_Brt_within x3 0 9 (fun b28 => (((bi b28) = 0 → J13) ∧ (¬ (bi b28) = 0 → (vp_in x1 6 ∧ (∀ s32 : St, s32 = wr s (p0 + 3) (Int32.toNatClampNeg x1) x3 → Q true s32))))))))) ∧ ((bi b10) = 0 → Q false s)))
def rm_Bod_alter : Room := { frames := 2, cells := 0, slots := 0, locals := 43 }
set_option maxHeartbeats 4000000 in
set_option maxRecDepth 20000 in
theorem m_Bod_alter (g : Gx) (hg : gOk g) (p0 : Nat) (x1 : Int32) (x2 : Int32) (x3 : Int32) (hk0 : kd p0 = 4) (s : St) (Q : Bool → St → Prop) (hw : vc_Bod_alter p0 x1 x2 x3 s Q) : Mc g y_Bod_alter b_Bod_alter 4 (some FieldType.boolean) rm_Bod_alter [.ref (ga g p0), .int x1, .int x2, .int x3] s (fun v s' => ∃ r : Bool, v = some (.int (bi r)) ∧ Q r s') := by
  refine mc_ofV (j := 0) (L := [some (.ref (ga g p0)), some (.int x1), some (.int x2), some (.int x3)]) hg (by decide) (Nat.le_of_ble_eq_true rfl) rfl ?_
  intro X hX C
  subst hX
  unfold vc_Bod_alter at hw
  refine x_aload_n C d_Bod_alter_0 rfl ?_
  refine x_iload_n C d_Bod_alter_1 rfl ?_
  refine x_callV (As := [.int x1]) (rest := []) (p := p0) C (m_Bod_has (xg X) C.2.2.2.2.2.2.1 p0 x1 hk0 s _ hw) cw_Bod_has ml_Bod_38 hk0 (by decide) (by decide) rfl rfl rfl ⟨rfl, rfl, Nat.le_of_ble_eq_true rfl, Nat.le_of_ble_eq_true rfl⟩ ⟨Nat.zero_le _, Nat.zero_le _⟩ rfl (Nat.le_of_ble_eq_true rfl) d_Bod_alter_2 ?_
  rintro _ _ ⟨b10, rfl, rfl, hw⟩
  show V X _ _ _ _ 5 [some (.ref (xa X p0)), some (.int x1), some (.int x2), some (.int x3)] [.int (bi b10)]
  refine x_if_ne (tgt := 10) C d_Bod_alter_5 (by decide) (fun c12 => ?_) (fun c12 => ?_)
  · have hw := hw.1 c12
    refine x_iload_n C d_Bod_alter_10 rfl ?_
    obtain ⟨J13, hJ13, hw⟩ := hw
    have kJ13 : J13 → V X (xQ X (fun v s' => ∃ r : Bool, v = some (.int (bi r)) ∧ Q r s')) 0 0 s 33 [some (.ref (xa X p0)), some (.int x1), some (.int x2), some (.int x3)] [] := by
      intro  hv
      have hw := hJ13  hv
      refine x_iload_n C d_Bod_alter_33 rfl ?_
      refine x_iconst (v := 1) C d_Bod_alter_34 rfl ?_
      obtain ⟨J14, hJ14, hw⟩ := hw
      have kJ14 : J14 → V X (xQ X (fun v s' => ∃ r : Bool, v = some (.int (bi r)) ∧ Q r s')) 0 0 s 56 [some (.ref (xa X p0)), some (.int x1), some (.int x2), some (.int x3)] [] := by
        intro  hv
        have hw := hJ14  hv
        refine x_iload_n C d_Bod_alter_56 rfl ?_
        refine x_iconst (v := 2) C d_Bod_alter_57 rfl ?_
        refine x_icmp_ne (tgt := 81) C d_Bod_alter_58 (by decide) (fun c15 => ?_) (fun c15 => ?_)
        · have hw := hw.1 c15
          refine x_iconst (v := 0) C d_Bod_alter_81 rfl ?_
          exact x_zreturn (b := false) C d_Bod_alter_82 ⟨_, rfl, hw⟩
        · have hw := hw.2 c15
          refine x_iload_n C d_Bod_alter_61 rfl ?_
          refine x_bipush (v := 10) C d_Bod_alter_62 rfl ?_
          refine x_bipush (v := 50) C d_Bod_alter_64 rfl ?_
          refine x_callSN (As := [.int x3, .int 10, .int 50]) (rest := []) C (m_Brt_within (xg X) C.2.2.2.2.2.2.1 x3 10 50 s _ hw) cw_Brt_within ml_Bod_34 rfl rfl rfl ⟨rfl, rfl, Nat.le_of_ble_eq_true rfl, Nat.le_of_ble_eq_true rfl⟩ ⟨Nat.zero_le _, Nat.zero_le _⟩ rfl (Nat.le_of_ble_eq_true rfl) d_Bod_alter_66 ?_
          rintro _ _ ⟨b16, rfl, rfl, hw⟩
          show V X _ _ _ _ 69 [some (.ref (xa X p0)), some (.int x1), some (.int x2), some (.int x3)] [.int (bi b16)]
          refine x_if_eq (tgt := 81) C d_Bod_alter_69 (by decide) (fun c18 => ?_) (fun c18 => ?_)
          · have hw := hw.1 c18
            refine x_iconst (v := 0) C d_Bod_alter_81 rfl ?_
            exact x_zreturn (b := false) C d_Bod_alter_82 ⟨_, rfl, hw⟩
          · have hw := hw.2 c18
            refine x_aload_n C d_Bod_alter_72 rfl ?_
            refine g_Bod_1 (p := p0) C hk0 fl_Bod_15 d_Bod_alter_73 ?_
            refine x_iload_n C d_Bod_alter_76 rfl ?_
            refine x_iload_n C d_Bod_alter_77 rfl ?_
            obtain ⟨h19, hw⟩ := hw
            refine x_iast (p := (p0 + 1)) (n := 6) C (ks_4_1 hk0) h19 d_Bod_alter_78 ?_
            refine x_st (fun s20 hs20 => ?_)
            have hw := hw s20 hs20
            refine x_iconst (v := 1) C d_Bod_alter_79 rfl ?_
            exact x_zreturn (b := true) C d_Bod_alter_80 ⟨_, rfl, hw⟩
      refine x_icmp_ne (tgt := 56) C d_Bod_alter_35 (by decide) (fun c21 => ?_) (fun c21 => ?_)
      · have hw := hw.1 c21
        exact x_wk (kJ14  hw) (And.intro rfl (And.intro rfl (And.intro rfl (And.intro rfl (trivial)))))
      · have hw := hw.2 c21
        refine x_iload_n C d_Bod_alter_38 rfl ?_
        refine x_iconst (v := 0) C d_Bod_alter_39 rfl ?_
        refine x_iconst (v := 3) C d_Bod_alter_40 rfl ?_
        refine x_callSN (As := [.int x3, .int 0, .int 3]) (rest := []) C (m_Brt_within (xg X) C.2.2.2.2.2.2.1 x3 0 3 s _ hw) cw_Brt_within ml_Bod_34 rfl rfl rfl ⟨rfl, rfl, Nat.le_of_ble_eq_true rfl, Nat.le_of_ble_eq_true rfl⟩ ⟨Nat.zero_le _, Nat.zero_le _⟩ rfl (Nat.le_of_ble_eq_true rfl) d_Bod_alter_41 ?_
        rintro _ _ ⟨b22, rfl, rfl, hw⟩
        show V X _ _ _ _ 44 [some (.ref (xa X p0)), some (.int x1), some (.int x2), some (.int x3)] [.int (bi b22)]
        refine x_if_eq (tgt := 56) C d_Bod_alter_44 (by decide) (fun c24 => ?_) (fun c24 => ?_)
        · have hw := hw.1 c24
          exact x_wk (kJ14  hw) (And.intro rfl (And.intro rfl (And.intro rfl (And.intro rfl (trivial)))))
        · have hw := hw.2 c24
          refine x_aload_n C d_Bod_alter_47 rfl ?_
          refine g_Bod_5 (p := p0) C hk0 fl_Bod_28 d_Bod_alter_48 ?_
          refine x_iload_n C d_Bod_alter_51 rfl ?_
          refine x_iload_n C d_Bod_alter_52 rfl ?_
          obtain ⟨h25, hw⟩ := hw
          refine x_iast (p := (p0 + 5)) (n := 6) C (ks_4_5 hk0) h25 d_Bod_alter_53 ?_
          refine x_st (fun s26 hs26 => ?_)
          have hw := hw s26 hs26
          refine x_iconst (v := 1) C d_Bod_alter_54 rfl ?_
          exact x_zreturn (b := true) C d_Bod_alter_55 ⟨_, rfl, hw⟩
    refine x_if_ne (tgt := 33) C d_Bod_alter_11 (by decide) (fun c27 => ?_) (fun c27 => ?_)
    · have hw := hw.1 c27
      exact x_wk (kJ13  hw) (And.intro rfl (And.intro rfl (And.intro rfl (And.intro rfl (trivial)))))
    · have hw := hw.2 c27
      refine x_iload_n C d_Bod_alter_14 rfl ?_
      refine x_iconst (v := 0) C d_Bod_alter_15 rfl ?_
      refine x_bipush (v := 9) C d_Bod_alter_16 rfl ?_
      refine x_callSN (As := [.int x3, .int 0, .int 9]) (rest := []) C (m_Brt_within (xg X) C.2.2.2.2.2.2.1 x3 0 9 s _ hw) cw_Brt_within ml_Bod_34 rfl rfl rfl ⟨rfl, rfl, Nat.le_of_ble_eq_true rfl, Nat.le_of_ble_eq_true rfl⟩ ⟨Nat.zero_le _, Nat.zero_le _⟩ rfl (Nat.le_of_ble_eq_true rfl) d_Bod_alter_18 ?_
      rintro _ _ ⟨b28, rfl, rfl, hw⟩
      show V X _ _ _ _ 21 [some (.ref (xa X p0)), some (.int x1), some (.int x2), some (.int x3)] [.int (bi b28)]
      refine x_if_eq (tgt := 33) C d_Bod_alter_21 (by decide) (fun c30 => ?_) (fun c30 => ?_)
      · have hw := hw.1 c30
        exact x_wk (kJ13  hw) (And.intro rfl (And.intro rfl (And.intro rfl (And.intro rfl (trivial)))))
      · have hw := hw.2 c30
        refine x_aload_n C d_Bod_alter_24 rfl ?_
        refine g_Bod_3 (p := p0) C hk0 fl_Bod_22 d_Bod_alter_25 ?_
        refine x_iload_n C d_Bod_alter_28 rfl ?_
        refine x_iload_n C d_Bod_alter_29 rfl ?_
        obtain ⟨h31, hw⟩ := hw
        refine x_iast (p := (p0 + 3)) (n := 6) C (ks_4_3 hk0) h31 d_Bod_alter_30 ?_
        refine x_st (fun s32 hs32 => ?_)
        have hw := hw s32 hs32
        refine x_iconst (v := 1) C d_Bod_alter_31 rfl ?_
        exact x_zreturn (b := true) C d_Bod_alter_32 ⟨_, rfl, hw⟩
  · have hw := hw.2 c12
    refine x_iconst (v := 0) C d_Bod_alter_8 rfl ?_
    exact x_zreturn (b := false) C d_Bod_alter_9 ⟨_, rfl, hw⟩
def vc_Bod_placeOf (p0 : Nat) (x1 : Int32) (s : St) (Q : Int32 → Prop) : Prop :=
    (∃ I11 : Nat → Int32 → Prop, (∃ n12, I11 n12 0) ∧ ∀ (nI11 : Nat) (x10 : Int32), I11 nI11 x10 → (((s p0 0) ≤ x10 → Q (-1)) ∧ (¬ (s p0 0) ≤ x10 → (vp_in x10 6 ∧ ((¬ (s (p0 + 6) (Int32.toNatClampNeg x10)) = x1 → (∀ x16 : Int32, x16 = x10 + 1 → ∃ m17, m17 < nI11 ∧ I11 m17 x16)) ∧ ((s (p0 + 6) (Int32.toNatClampNeg x10)) = x1 → Q x10))))))
def rm_Bod_placeOf : Room := { frames := 0, cells := 0, slots := 0, locals := 0 }
set_option maxHeartbeats 4000000 in
set_option maxRecDepth 20000 in
theorem m_Bod_placeOf (g : Gx) (hg : gOk g) (p0 : Nat) (x1 : Int32) (hk0 : kd p0 = 4) (s : St) (Q : Int32 → Prop) (hw : vc_Bod_placeOf p0 x1 s Q) : Mc g y_Bod_placeOf b_Bod_placeOf 3 (some FieldType.int) rm_Bod_placeOf [.ref (ga g p0), .int x1] s (fun v s' => ∃ r : Int32, v = some (.int r) ∧ s = s' ∧ Q r) := by
  refine mc_ofV (j := 1) (L := [some (.ref (ga g p0)), some (.int x1), none]) hg (by decide) (Nat.le_of_ble_eq_true rfl) rfl ?_
  intro X hX C
  subst hX
  unfold vc_Bod_placeOf at hw
  refine x_iconst (v := 0) C d_Bod_placeOf_0 rfl ?_
  refine x_istore_n (L' := [some (.ref (xa X p0)), some (.int x1), some (.int 0)]) C d_Bod_placeOf_1 (Nat.le_of_ble_eq_true rfl) rfl ?_
  obtain ⟨I11, ⟨n12, hn12⟩, hI11⟩ := hw
  have lI11 : ∀ (nI11 : Nat) (x10 : Int32), I11 nI11 x10 → V X (xQ X (fun v s' => ∃ r : Int32, v = some (.int r) ∧ s = s' ∧ Q r)) 0 0 s 2 [some (.ref (xa X p0)), some (.int x1), some (.int x10)] [] := by
    intro nI11
    induction nI11 using Nat.strongRecOn with
    | ind nI11 ihI11 =>
      intro x10 hv
      have hw := hI11 nI11 x10 hv
      refine x_iload_n C d_Bod_placeOf_2 rfl ?_
      refine x_aload_n C d_Bod_placeOf_3 rfl ?_
      refine g_Bod_0 (p := p0) C hk0 fl_Bod_9 d_Bod_placeOf_4 ?_
      refine x_icmp_ge (tgt := 28) C d_Bod_placeOf_7 (by decide) (fun c13 => ?_) (fun c13 => ?_)
      · have hw := hw.1 c13
        refine x_iconst (v := (-1)) C d_Bod_placeOf_28 rfl ?_
        exact x_ireturn C d_Bod_placeOf_29 ⟨_, rfl, rfl, hw⟩
      · have hw := hw.2 c13
        refine x_aload_n C d_Bod_placeOf_10 rfl ?_
        refine g_Bod_6 (p := p0) C hk0 fl_Bod_31 d_Bod_placeOf_11 ?_
        refine x_iload_n C d_Bod_placeOf_14 rfl ?_
        obtain ⟨h14, hw⟩ := hw
        refine x_iald (p := (p0 + 6)) (n := 6) C (ks_4_6 hk0) h14 d_Bod_placeOf_15 ?_
        refine x_iload_n C d_Bod_placeOf_16 rfl ?_
        refine x_icmp_ne (tgt := 22) C d_Bod_placeOf_17 (by decide) (fun c15 => ?_) (fun c15 => ?_)
        · have hw := hw.1 c15
          obtain ⟨x16, hx16⟩ : ∃ z : Int32, z = x10 + 1 := ⟨_, rfl⟩
          refine x_iinc (v := x16) (L' := [some (.ref (xa X p0)), some (.int x1), some (.int x16)]) C d_Bod_placeOf_22 (Nat.le_of_ble_eq_true rfl) rfl (by rw [hx16]; rfl) rfl ?_
          have hw := hw x16 hx16
          refine x_goto (tgt := 2) C d_Bod_placeOf_25 (by decide) ?_
          obtain ⟨m17, hm17, hw⟩ := hw
          exact x_wk (ihI11 m17 hm17 x16 hw) (And.intro rfl (And.intro rfl (And.intro rfl (trivial))))
        · have hw := hw.2 c15
          refine x_iload_n C d_Bod_placeOf_20 rfl ?_
          exact x_ireturn C d_Bod_placeOf_21 ⟨_, rfl, rfl, hw⟩
  exact x_wk (lI11 n12 0 hn12) (And.intro rfl (And.intro rfl (And.intro rfl (trivial))))
