section
/-- a private method of a class that the tables say can be made, by its rows of tables_1 -/
def lw_okq (q : MethodName × Nat) : Prop := (q.1.cls ≠ "java/lang/invoke/MethodHandle" ∧ q.1.cls ≠ "java/lang/invoke/VarHandle") ∧ Cond.instantiable q.1.cls q.2 ∈ tables_1 ∧ Cond.privateMethod q.1 ∈ tables_1 ∧ Cond.instanceMethod q.1 ∈ tables_1
theorem lw_p0 : lw_okq (⟨"BreatheOut", "refusalOfRow", "(I)I"⟩, 9) := ⟨⟨by decide +kernel, by decide +kernel⟩, List.mem_of_getElem? (i := 24) (by decide +kernel), List.mem_of_getElem? (i := 348) (by decide +kernel), List.mem_of_getElem? (i := 349) (by decide +kernel)⟩
theorem lw_p1 : lw_okq (⟨"BreatheOut", "refusalUnless", "(II)I"⟩, 9) := ⟨⟨by decide +kernel, by decide +kernel⟩, List.mem_of_getElem? (i := 24) (by decide +kernel), List.mem_of_getElem? (i := 352) (by decide +kernel), List.mem_of_getElem? (i := 353) (by decide +kernel)⟩
theorem lw_p2 : lw_okq (⟨"BreatheOut", "refusalOfKind", "(I)I"⟩, 9) := ⟨⟨by decide +kernel, by decide +kernel⟩, List.mem_of_getElem? (i := 24) (by decide +kernel), List.mem_of_getElem? (i := 475) (by decide +kernel), List.mem_of_getElem? (i := 476) (by decide +kernel)⟩
theorem lw_p3 : lw_okq (⟨"BreatheOut$Leg", "passOne", "(LBreatheOut$Cave;IZI)V"⟩, 7) := ⟨⟨by decide +kernel, by decide +kernel⟩, List.mem_of_getElem? (i := 164) (by decide +kernel), List.mem_of_getElem? (i := 562) (by decide +kernel), List.mem_of_getElem? (i := 563) (by decide +kernel)⟩
theorem lw_p4 : lw_okq (⟨"BreatheOut", "allGo", "()LBreatheOut$Leg;"⟩, 9) := ⟨⟨by decide +kernel, by decide +kernel⟩, List.mem_of_getElem? (i := 24) (by decide +kernel), List.mem_of_getElem? (i := 590) (by decide +kernel), List.mem_of_getElem? (i := 591) (by decide +kernel)⟩
theorem lw_p5 : lw_okq (⟨"BreatheOut", "allReturn", "(LBreatheOut$Cave;)Z"⟩, 9) := ⟨⟨by decide +kernel, by decide +kernel⟩, List.mem_of_getElem? (i := 24) (by decide +kernel), List.mem_of_getElem? (i := 599) (by decide +kernel), List.mem_of_getElem? (i := 600) (by decide +kernel)⟩
theorem lw_p6 : lw_okq (⟨"BreatheOut$BestOrder", "weigh", "(LBreatheOut$Leg;)V"⟩, 5) := ⟨⟨by decide +kernel, by decide +kernel⟩, List.mem_of_getElem? (i := 217) (by decide +kernel), List.mem_of_getElem? (i := 625) (by decide +kernel), List.mem_of_getElem? (i := 626) (by decide +kernel)⟩
theorem lw_p7 : lw_okq (⟨"BreatheOut$BestOrder", "goToNext", "(I)Z"⟩, 5) := ⟨⟨by decide +kernel, by decide +kernel⟩, List.mem_of_getElem? (i := 217) (by decide +kernel), List.mem_of_getElem? (i := 630) (by decide +kernel), List.mem_of_getElem? (i := 631) (by decide +kernel)⟩
theorem lw_p8 : lw_okq (⟨"BreatheOut$BestOrder", "exchange", "(II)V"⟩, 5) := ⟨⟨by decide +kernel, by decide +kernel⟩, List.mem_of_getElem? (i := 217) (by decide +kernel), List.mem_of_getElem? (i := 634) (by decide +kernel), List.mem_of_getElem? (i := 635) (by decide +kernel)⟩
theorem lw_p9 : lw_okq (⟨"BreatheOut", "othersAreBack", "(I)Z"⟩, 9) := ⟨⟨by decide +kernel, by decide +kernel⟩, List.mem_of_getElem? (i := 24) (by decide +kernel), List.mem_of_getElem? (i := 648) (by decide +kernel), List.mem_of_getElem? (i := 649) (by decide +kernel)⟩
theorem lw_p10 : lw_okq (⟨"BreatheOut$Rescuers", "search", "(IIII)V"⟩, 10) := ⟨⟨by decide +kernel, by decide +kernel⟩, List.mem_of_getElem? (i := 241) (by decide +kernel), List.mem_of_getElem? (i := 679) (by decide +kernel), List.mem_of_getElem? (i := 680) (by decide +kernel)⟩
theorem lw_p11 : lw_okq (⟨"BreatheOut", "areBackInLight", "(I)Z"⟩, 9) := ⟨⟨by decide +kernel, by decide +kernel⟩, List.mem_of_getElem? (i := 24) (by decide +kernel), List.mem_of_getElem? (i := 690) (by decide +kernel), List.mem_of_getElem? (i := 691) (by decide +kernel)⟩
theorem lw_p12 : lw_okq (⟨"BreatheOut", "panicOf", "(I)J"⟩, 9) := ⟨⟨by decide +kernel, by decide +kernel⟩, List.mem_of_getElem? (i := 24) (by decide +kernel), List.mem_of_getElem? (i := 711) (by decide +kernel), List.mem_of_getElem? (i := 712) (by decide +kernel)⟩
theorem lw_p13 : lw_okq (⟨"BreatheOut", "pose", "(II)I"⟩, 9) := ⟨⟨by decide +kernel, by decide +kernel⟩, List.mem_of_getElem? (i := 24) (by decide +kernel), List.mem_of_getElem? (i := 722) (by decide +kernel), List.mem_of_getElem? (i := 723) (by decide +kernel)⟩
theorem lw_p14 : lw_okq (⟨"BreatheOut", "refusalOfRock", "(II)I"⟩, 9) := ⟨⟨by decide +kernel, by decide +kernel⟩, List.mem_of_getElem? (i := 24) (by decide +kernel), List.mem_of_getElem? (i := 730) (by decide +kernel), List.mem_of_getElem? (i := 731) (by decide +kernel)⟩
theorem lw_p15 : lw_okq (⟨"BreatheOut", "firstUnlike", "(ILBreatheOut$Shelf;)I"⟩, 9) := ⟨⟨by decide +kernel, by decide +kernel⟩, List.mem_of_getElem? (i := 24) (by decide +kernel), List.mem_of_getElem? (i := 734) (by decide +kernel), List.mem_of_getElem? (i := 735) (by decide +kernel)⟩
def lw_privs_1 : List (MethodName × Nat) := [(⟨"BreatheOut", "refusalOfRow", "(I)I"⟩, 9), (⟨"BreatheOut", "refusalUnless", "(II)I"⟩, 9), (⟨"BreatheOut", "refusalOfKind", "(I)I"⟩, 9), (⟨"BreatheOut$Leg", "passOne", "(LBreatheOut$Cave;IZI)V"⟩, 7), (⟨"BreatheOut", "allGo", "()LBreatheOut$Leg;"⟩, 9), (⟨"BreatheOut", "allReturn", "(LBreatheOut$Cave;)Z"⟩, 9), (⟨"BreatheOut$BestOrder", "weigh", "(LBreatheOut$Leg;)V"⟩, 5), (⟨"BreatheOut$BestOrder", "goToNext", "(I)Z"⟩, 5), (⟨"BreatheOut$BestOrder", "exchange", "(II)V"⟩, 5), (⟨"BreatheOut", "othersAreBack", "(I)Z"⟩, 9), (⟨"BreatheOut$Rescuers", "search", "(IIII)V"⟩, 10), (⟨"BreatheOut", "areBackInLight", "(I)Z"⟩, 9), (⟨"BreatheOut", "panicOf", "(I)J"⟩, 9), (⟨"BreatheOut", "pose", "(II)I"⟩, 9), (⟨"BreatheOut", "refusalOfRock", "(II)I"⟩, 9), (⟨"BreatheOut", "firstUnlike", "(ILBreatheOut$Shelf;)I"⟩, 9)]
theorem lw_r1 : ∀ q ∈ lw_privs_1, lw_okq q := List.forall_mem_cons.mpr ⟨lw_p0, List.forall_mem_cons.mpr ⟨lw_p1, List.forall_mem_cons.mpr ⟨lw_p2, List.forall_mem_cons.mpr ⟨lw_p3, List.forall_mem_cons.mpr ⟨lw_p4, List.forall_mem_cons.mpr ⟨lw_p5, List.forall_mem_cons.mpr ⟨lw_p6, List.forall_mem_cons.mpr ⟨lw_p7, List.forall_mem_cons.mpr ⟨lw_p8, List.forall_mem_cons.mpr ⟨lw_p9, List.forall_mem_cons.mpr ⟨lw_p10, List.forall_mem_cons.mpr ⟨lw_p11, List.forall_mem_cons.mpr ⟨lw_p12, List.forall_mem_cons.mpr ⟨lw_p13, List.forall_mem_cons.mpr ⟨lw_p14, List.forall_mem_cons.mpr ⟨lw_p15, fun _ h => absurd h List.not_mem_nil⟩⟩⟩⟩⟩⟩⟩⟩⟩⟩⟩⟩⟩⟩⟩⟩
theorem lw_p16 : lw_okq (⟨"java/lang/Throwable", "fillInStackTrace", "(I)Ljava/lang/Throwable;"⟩, 6) := ⟨⟨by decide +kernel, by decide +kernel⟩, List.mem_of_getElem? (i := 867) (by decide +kernel), List.mem_of_getElem? (i := 865) (by decide +kernel), List.mem_of_getElem? (i := 866) (by decide +kernel)⟩
theorem lw_p17 : lw_okq (⟨"BreatheOutModel", "wrongRow", "(II)I"⟩, 40) := ⟨⟨by decide +kernel, by decide +kernel⟩, List.mem_of_getElem? (i := 943) (by decide +kernel), List.mem_of_getElem? (i := 1074) (by decide +kernel), List.mem_of_getElem? (i := 1075) (by decide +kernel)⟩
theorem lw_p18 : lw_okq (⟨"BreatheOutModel", "readsStatement", "()Z"⟩, 40) := ⟨⟨by decide +kernel, by decide +kernel⟩, List.mem_of_getElem? (i := 943) (by decide +kernel), List.mem_of_getElem? (i := 1084) (by decide +kernel), List.mem_of_getElem? (i := 1085) (by decide +kernel)⟩
theorem lw_p19 : lw_okq (⟨"BreatheOutModel", "here", "()I"⟩, 40) := ⟨⟨by decide +kernel, by decide +kernel⟩, List.mem_of_getElem? (i := 943) (by decide +kernel), List.mem_of_getElem? (i := 1088) (by decide +kernel), List.mem_of_getElem? (i := 1089) (by decide +kernel)⟩
theorem lw_p20 : lw_okq (⟨"BreatheOutModel", "readsNumber", "(II)Z"⟩, 40) := ⟨⟨by decide +kernel, by decide +kernel⟩, List.mem_of_getElem? (i := 943) (by decide +kernel), List.mem_of_getElem? (i := 1092) (by decide +kernel), List.mem_of_getElem? (i := 1093) (by decide +kernel)⟩
theorem lw_p21 : lw_okq (⟨"BreatheOutModel", "isDone", "(I)Z"⟩, 40) := ⟨⟨by decide +kernel, by decide +kernel⟩, List.mem_of_getElem? (i := 943) (by decide +kernel), List.mem_of_getElem? (i := 1099) (by decide +kernel), List.mem_of_getElem? (i := 1100) (by decide +kernel)⟩
theorem lw_p22 : lw_okq (⟨"BreatheOutModel", "addsYard", "(III)V"⟩, 40) := ⟨⟨by decide +kernel, by decide +kernel⟩, List.mem_of_getElem? (i := 943) (by decide +kernel), List.mem_of_getElem? (i := 1103) (by decide +kernel), List.mem_of_getElem? (i := 1104) (by decide +kernel)⟩
theorem lw_p23 : lw_okq (⟨"BreatheOutModel", "isBody", "(I)Z"⟩, 40) := ⟨⟨by decide +kernel, by decide +kernel⟩, List.mem_of_getElem? (i := 943) (by decide +kernel), List.mem_of_getElem? (i := 1113) (by decide +kernel), List.mem_of_getElem? (i := 1114) (by decide +kernel)⟩
theorem lw_p24 : lw_okq (⟨"BreatheOutModel", "changes", "(II)V"⟩, 40) := ⟨⟨by decide +kernel, by decide +kernel⟩, List.mem_of_getElem? (i := 943) (by decide +kernel), List.mem_of_getElem? (i := 1117) (by decide +kernel), List.mem_of_getElem? (i := 1118) (by decide +kernel)⟩
theorem lw_p25 : lw_okq (⟨"BreatheOutModel", "placeOf", "(I)I"⟩, 40) := ⟨⟨by decide +kernel, by decide +kernel⟩, List.mem_of_getElem? (i := 943) (by decide +kernel), List.mem_of_getElem? (i := 1121) (by decide +kernel), List.mem_of_getElem? (i := 1122) (by decide +kernel)⟩
theorem lw_p26 : lw_okq (⟨"BreatheOutModel", "isYard", "(I)Z"⟩, 40) := ⟨⟨by decide +kernel, by decide +kernel⟩, List.mem_of_getElem? (i := 943) (by decide +kernel), List.mem_of_getElem? (i := 1129) (by decide +kernel), List.mem_of_getElem? (i := 1130) (by decide +kernel)⟩
theorem lw_p27 : lw_okq (⟨"BreatheOutModel", "hour", "()I"⟩, 40) := ⟨⟨by decide +kernel, by decide +kernel⟩, List.mem_of_getElem? (i := 943) (by decide +kernel), List.mem_of_getElem? (i := 1133) (by decide +kernel), List.mem_of_getElem? (i := 1134) (by decide +kernel)⟩
theorem lw_p28 : lw_okq (⟨"BreatheOutModel", "roomOf", "(II)I"⟩, 40) := ⟨⟨by decide +kernel, by decide +kernel⟩, List.mem_of_getElem? (i := 943) (by decide +kernel), List.mem_of_getElem? (i := 1137) (by decide +kernel), List.mem_of_getElem? (i := 1138) (by decide +kernel)⟩
theorem lw_p29 : lw_okq (⟨"BreatheOutModel", "minutesOf", "(IZ)I"⟩, 40) := ⟨⟨by decide +kernel, by decide +kernel⟩, List.mem_of_getElem? (i := 943) (by decide +kernel), List.mem_of_getElem? (i := 1144) (by decide +kernel), List.mem_of_getElem? (i := 1145) (by decide +kernel)⟩
theorem lw_p30 : lw_okq (⟨"BreatheOutModel", "of", "(II)I"⟩, 40) := ⟨⟨by decide +kernel, by decide +kernel⟩, List.mem_of_getElem? (i := 943) (by decide +kernel), List.mem_of_getElem? (i := 1152) (by decide +kernel), List.mem_of_getElem? (i := 1153) (by decide +kernel)⟩
theorem lw_p31 : lw_okq (⟨"BreatheOutModel", "wrongKept", "(I)I"⟩, 40) := ⟨⟨by decide +kernel, by decide +kernel⟩, List.mem_of_getElem? (i := 943) (by decide +kernel), List.mem_of_getElem? (i := 1160) (by decide +kernel), List.mem_of_getElem? (i := 1161) (by decide +kernel)⟩
def lw_privs_2 : List (MethodName × Nat) := [(⟨"java/lang/Throwable", "fillInStackTrace", "(I)Ljava/lang/Throwable;"⟩, 6), (⟨"BreatheOutModel", "wrongRow", "(II)I"⟩, 40), (⟨"BreatheOutModel", "readsStatement", "()Z"⟩, 40), (⟨"BreatheOutModel", "here", "()I"⟩, 40), (⟨"BreatheOutModel", "readsNumber", "(II)Z"⟩, 40), (⟨"BreatheOutModel", "isDone", "(I)Z"⟩, 40), (⟨"BreatheOutModel", "addsYard", "(III)V"⟩, 40), (⟨"BreatheOutModel", "isBody", "(I)Z"⟩, 40), (⟨"BreatheOutModel", "changes", "(II)V"⟩, 40), (⟨"BreatheOutModel", "placeOf", "(I)I"⟩, 40), (⟨"BreatheOutModel", "isYard", "(I)Z"⟩, 40), (⟨"BreatheOutModel", "hour", "()I"⟩, 40), (⟨"BreatheOutModel", "roomOf", "(II)I"⟩, 40), (⟨"BreatheOutModel", "minutesOf", "(IZ)I"⟩, 40), (⟨"BreatheOutModel", "of", "(II)I"⟩, 40), (⟨"BreatheOutModel", "wrongKept", "(I)I"⟩, 40)]
theorem lw_r2 : ∀ q ∈ lw_privs_2, lw_okq q := List.forall_mem_cons.mpr ⟨lw_p16, List.forall_mem_cons.mpr ⟨lw_p17, List.forall_mem_cons.mpr ⟨lw_p18, List.forall_mem_cons.mpr ⟨lw_p19, List.forall_mem_cons.mpr ⟨lw_p20, List.forall_mem_cons.mpr ⟨lw_p21, List.forall_mem_cons.mpr ⟨lw_p22, List.forall_mem_cons.mpr ⟨lw_p23, List.forall_mem_cons.mpr ⟨lw_p24, List.forall_mem_cons.mpr ⟨lw_p25, List.forall_mem_cons.mpr ⟨lw_p26, List.forall_mem_cons.mpr ⟨lw_p27, List.forall_mem_cons.mpr ⟨lw_p28, List.forall_mem_cons.mpr ⟨lw_p29, List.forall_mem_cons.mpr ⟨lw_p30, List.forall_mem_cons.mpr ⟨lw_p31, fun _ h => absurd h List.not_mem_nil⟩⟩⟩⟩⟩⟩⟩⟩⟩⟩⟩⟩⟩⟩⟩⟩
theorem lw_p32 : lw_okq (⟨"BreatheOutModel", "sizeOf", "(IIIZ)I"⟩, 40) := ⟨⟨by decide +kernel, by decide +kernel⟩, List.mem_of_getElem? (i := 943) (by decide +kernel), List.mem_of_getElem? (i := 1188) (by decide +kernel), List.mem_of_getElem? (i := 1189) (by decide +kernel)⟩
theorem lw_p33 : lw_okq (⟨"BreatheOutModel", "fitsIn", "(III)I"⟩, 40) := ⟨⟨by decide +kernel, by decide +kernel⟩, List.mem_of_getElem? (i := 943) (by decide +kernel), List.mem_of_getElem? (i := 1199) (by decide +kernel), List.mem_of_getElem? (i := 1200) (by decide +kernel)⟩
theorem lw_p34 : lw_okq (⟨"BreatheOutModel", "sizeNow", "(IIZ)I"⟩, 40) := ⟨⟨by decide +kernel, by decide +kernel⟩, List.mem_of_getElem? (i := 943) (by decide +kernel), List.mem_of_getElem? (i := 1203) (by decide +kernel), List.mem_of_getElem? (i := 1204) (by decide +kernel)⟩
theorem lw_p35 : lw_okq (⟨"BreatheOutModel", "wayAlone", "(IZ)V"⟩, 40) := ⟨⟨by decide +kernel, by decide +kernel⟩, List.mem_of_getElem? (i := 943) (by decide +kernel), List.mem_of_getElem? (i := 1211) (by decide +kernel), List.mem_of_getElem? (i := 1212) (by decide +kernel)⟩
theorem lw_p36 : lw_okq (⟨"BreatheOutModel", "goesWay", "(IZI)V"⟩, 40) := ⟨⟨by decide +kernel, by decide +kernel⟩, List.mem_of_getElem? (i := 943) (by decide +kernel), List.mem_of_getElem? (i := 1215) (by decide +kernel), List.mem_of_getElem? (i := 1216) (by decide +kernel)⟩
theorem lw_p37 : lw_okq (⟨"BreatheOutModel", "goesThere", "()V"⟩, 40) := ⟨⟨by decide +kernel, by decide +kernel⟩, List.mem_of_getElem? (i := 943) (by decide +kernel), List.mem_of_getElem? (i := 1236) (by decide +kernel), List.mem_of_getElem? (i := 1237) (by decide +kernel)⟩
theorem lw_p38 : lw_okq (⟨"BreatheOutModel", "lines", "()V"⟩, 40) := ⟨⟨by decide +kernel, by decide +kernel⟩, List.mem_of_getElem? (i := 943) (by decide +kernel), List.mem_of_getElem? (i := 1240) (by decide +kernel), List.mem_of_getElem? (i := 1241) (by decide +kernel)⟩
theorem lw_p39 : lw_okq (⟨"BreatheOutModel", "pulled", "(II)I"⟩, 40) := ⟨⟨by decide +kernel, by decide +kernel⟩, List.mem_of_getElem? (i := 943) (by decide +kernel), List.mem_of_getElem? (i := 1244) (by decide +kernel), List.mem_of_getElem? (i := 1245) (by decide +kernel)⟩
theorem lw_p40 : lw_okq (⟨"BreatheOutModel", "goesThereAndBack", "()V"⟩, 40) := ⟨⟨by decide +kernel, by decide +kernel⟩, List.mem_of_getElem? (i := 943) (by decide +kernel), List.mem_of_getElem? (i := 1252) (by decide +kernel), List.mem_of_getElem? (i := 1253) (by decide +kernel)⟩
theorem lw_p41 : lw_okq (⟨"BreatheOutModel", "eachOrder", "(II)V"⟩, 40) := ⟨⟨by decide +kernel, by decide +kernel⟩, List.mem_of_getElem? (i := 943) (by decide +kernel), List.mem_of_getElem? (i := 1264) (by decide +kernel), List.mem_of_getElem? (i := 1265) (by decide +kernel)⟩
theorem lw_p42 : lw_okq (⟨"BreatheOutModel", "areAllBack", "()Z"⟩, 40) := ⟨⟨by decide +kernel, by decide +kernel⟩, List.mem_of_getElem? (i := 943) (by decide +kernel), List.mem_of_getElem? (i := 1275) (by decide +kernel), List.mem_of_getElem? (i := 1276) (by decide +kernel)⟩
theorem lw_p43 : lw_okq (⟨"BreatheOutModel", "eachDeed", "(IIIIII)V"⟩, 40) := ⟨⟨by decide +kernel, by decide +kernel⟩, List.mem_of_getElem? (i := 943) (by decide +kernel), List.mem_of_getElem? (i := 1290) (by decide +kernel), List.mem_of_getElem? (i := 1291) (by decide +kernel)⟩
theorem lw_p44 : lw_okq (⟨"BreatheOutModel", "wrongRocks", "(II)I"⟩, 40) := ⟨⟨by decide +kernel, by decide +kernel⟩, List.mem_of_getElem? (i := 943) (by decide +kernel), List.mem_of_getElem? (i := 1323) (by decide +kernel), List.mem_of_getElem? (i := 1324) (by decide +kernel)⟩
theorem lw_p45 : lw_okq (⟨"BreatheOutModel", "wrongRock", "(III)I"⟩, 40) := ⟨⟨by decide +kernel, by decide +kernel⟩, List.mem_of_getElem? (i := 943) (by decide +kernel), List.mem_of_getElem? (i := 1327) (by decide +kernel), List.mem_of_getElem? (i := 1328) (by decide +kernel)⟩
theorem lw_p46 : lw_okq (⟨"BreatheOutModel", "drawn", "(I)I"⟩, 40) := ⟨⟨by decide +kernel, by decide +kernel⟩, List.mem_of_getElem? (i := 943) (by decide +kernel), List.mem_of_getElem? (i := 1347) (by decide +kernel), List.mem_of_getElem? (i := 1348) (by decide +kernel)⟩
def lw_privs_3 : List (MethodName × Nat) := [(⟨"BreatheOutModel", "sizeOf", "(IIIZ)I"⟩, 40), (⟨"BreatheOutModel", "fitsIn", "(III)I"⟩, 40), (⟨"BreatheOutModel", "sizeNow", "(IIZ)I"⟩, 40), (⟨"BreatheOutModel", "wayAlone", "(IZ)V"⟩, 40), (⟨"BreatheOutModel", "goesWay", "(IZI)V"⟩, 40), (⟨"BreatheOutModel", "goesThere", "()V"⟩, 40), (⟨"BreatheOutModel", "lines", "()V"⟩, 40), (⟨"BreatheOutModel", "pulled", "(II)I"⟩, 40), (⟨"BreatheOutModel", "goesThereAndBack", "()V"⟩, 40), (⟨"BreatheOutModel", "eachOrder", "(II)V"⟩, 40), (⟨"BreatheOutModel", "areAllBack", "()Z"⟩, 40), (⟨"BreatheOutModel", "eachDeed", "(IIIIII)V"⟩, 40), (⟨"BreatheOutModel", "wrongRocks", "(II)I"⟩, 40), (⟨"BreatheOutModel", "wrongRock", "(III)I"⟩, 40), (⟨"BreatheOutModel", "drawn", "(I)I"⟩, 40)]
theorem lw_r3 : ∀ q ∈ lw_privs_3, lw_okq q := List.forall_mem_cons.mpr ⟨lw_p32, List.forall_mem_cons.mpr ⟨lw_p33, List.forall_mem_cons.mpr ⟨lw_p34, List.forall_mem_cons.mpr ⟨lw_p35, List.forall_mem_cons.mpr ⟨lw_p36, List.forall_mem_cons.mpr ⟨lw_p37, List.forall_mem_cons.mpr ⟨lw_p38, List.forall_mem_cons.mpr ⟨lw_p39, List.forall_mem_cons.mpr ⟨lw_p40, List.forall_mem_cons.mpr ⟨lw_p41, List.forall_mem_cons.mpr ⟨lw_p42, List.forall_mem_cons.mpr ⟨lw_p43, List.forall_mem_cons.mpr ⟨lw_p44, List.forall_mem_cons.mpr ⟨lw_p45, List.forall_mem_cons.mpr ⟨lw_p46, fun _ h => absurd h List.not_mem_nil⟩⟩⟩⟩⟩⟩⟩⟩⟩⟩⟩⟩⟩⟩⟩
def lw_privs : List (MethodName × Nat) := lw_privs_1 ++ (lw_privs_2 ++ (lw_privs_3))
def lw_tbl : List Cond := k2_sels lw_privs ++ tables_1
theorem lw_privs_ok : ∀ q ∈ lw_privs, lw_okq q := by
  show ∀ q ∈ lw_privs_1 ++ (lw_privs_2 ++ (lw_privs_3)), lw_okq q
  exact List.forall_mem_append.mpr ⟨lw_r1, List.forall_mem_append.mpr ⟨lw_r2, lw_r3⟩⟩
/-- the words that hold of the tables in every warmed state -/
def tbl : List Cond := lw_tbl.filter goodWord
theorem tbl_in {c : Cond} (h : c ∈ lw_tbl) (g : goodWord c = true) : c ∈ tbl := List.mem_filter.mpr ⟨h, g⟩
theorem tbl_at {c : Cond} (i : Nat) (h : lw_tbl[i]? = some c) (g : goodWord c = true) : c ∈ tbl := tbl_in (List.mem_of_getElem? h) g
theorem tbl_good : ∀ w ∈ tbl, (w.onTables && w.keeps) = true ∨ ∃ ty, w = .arrayClass ty := fun w h => good_of_word (List.mem_filter.mp h).2
theorem tbl_all {ws : List Cond} (h : ∀ w ∈ ws, w ∈ lw_tbl) (g : ws.all goodWord = true) : ∀ w ∈ ws, w ∈ tbl := fun w hw => tbl_in (h w hw) (List.all_eq_true.mp g w hw)
end
section
def R_Best : String := "BreatheOut$BestOrder"
def R_Bod : String := "BreatheOut$Bodies"
def R_Cav : String := "BreatheOut$Cave"
def R_Kin : String := "BreatheOut$Kinds"
def R_Leg : String := "BreatheOut$Leg"
def R_Res : String := "BreatheOut$Rescuers"
def R_She : String := "BreatheOut$Shelf"
def R_Tex : String := "BreatheOut$Text"
def R_Tri : String := "BreatheOut$Trip"
def R_Yar : String := "BreatheOut$Yards"
def R_Brt : String := "BreatheOut"
def R_Mod : String := "BreatheOutModel"
def R_Int : String := "java/lang/Integer"
def R_Mat : String := "java/lang/Math"
def R_Arr : String := "java/util/Arrays"
def R_Sys : String := "java/lang/System"
def R_Law : String := "BreatheOutLaw"
def F_Best : u_T := fun k => match k with
  | 0 => ("BreatheOut$BestOrder", "line", "[I", true)
  | 1 => ("BreatheOut$BestOrder", "returned", "I", false)
  | 2 => ("BreatheOut$BestOrder", "tried", "[I", true)
  | 3 => ("BreatheOut$BestOrder", "clock", "I", false)
  | _ => ("BreatheOut$BestOrder", "known", "Z", false)
def t_Best : Nat → FieldType := fun k => match k with
  | 0 => .array .int
  | 1 => .int
  | 2 => .array .int
  | 3 => .int
  | _ => .boolean
set_option maxRecDepth 20000 in
theorem n_Best : ∀ a, a < 5 → ∀ b, b < 5 → a ≠ b → (F_Best a).2.1 ≠ (F_Best b).2.1 := by decide +kernel
theorem t_Best_ok : ∀ k, k < 5 → parseFieldDescriptor (F_Best k).2.2.1 = some (t_Best k) := by decide +kernel
set_option maxRecDepth 100000 in
theorem i_Best : ∀ w ∈ u_ws R_Best F_Best 5, w ∈ tbl := tbl_all (by decide +kernel) (by decide +kernel)
def F_Bod : u_T := fun k => match k with
  | 0 => ("BreatheOut$Bodies", "count", "I", false)
  | 1 => ("BreatheOut$Bodies", "chest", "[I", true)
  | 2 => ("BreatheOut$Bodies", "out", "[I", true)
  | 3 => ("BreatheOut$Bodies", "fear", "[I", true)
  | 4 => ("BreatheOut$Bodies", "pull", "[I", true)
  | 5 => ("BreatheOut$Bodies", "posture", "[I", true)
  | _ => ("BreatheOut$Bodies", "line", "[I", true)
def t_Bod : Nat → FieldType := fun k => match k with
  | 0 => .int
  | 1 => .array .int
  | 2 => .array .int
  | 3 => .array .int
  | 4 => .array .int
  | 5 => .array .int
  | _ => .array .int
set_option maxRecDepth 20000 in
theorem n_Bod : ∀ a, a < 7 → ∀ b, b < 7 → a ≠ b → (F_Bod a).2.1 ≠ (F_Bod b).2.1 := by decide +kernel
theorem t_Bod_ok : ∀ k, k < 7 → parseFieldDescriptor (F_Bod k).2.2.1 = some (t_Bod k) := by decide +kernel
set_option maxRecDepth 100000 in
theorem i_Bod : ∀ w ∈ u_ws R_Bod F_Bod 7, w ∈ tbl := tbl_all (by decide +kernel) (by decide +kernel)
def F_Cav : u_T := fun k => match k with
  | 0 => ("BreatheOut$Cave", "yards", "LBreatheOut$Yards;", true)
  | 1 => ("BreatheOut$Cave", "bodies", "LBreatheOut$Bodies;", true)
  | 2 => ("BreatheOut$Cave", "rise", "I", false)
  | 3 => ("BreatheOut$Cave", "calm", "I", false)
  | 4 => ("BreatheOut$Cave", "light", "I", false)
  | _ => ("BreatheOut$Cave", "clock", "I", false)
def t_Cav : Nat → FieldType := fun k => match k with
  | 0 => .object "BreatheOut$Yards"
  | 1 => .object "BreatheOut$Bodies"
  | 2 => .int
  | 3 => .int
  | 4 => .int
  | _ => .int
set_option maxRecDepth 20000 in
theorem n_Cav : ∀ a, a < 6 → ∀ b, b < 6 → a ≠ b → (F_Cav a).2.1 ≠ (F_Cav b).2.1 := by decide +kernel
theorem t_Cav_ok : ∀ k, k < 6 → parseFieldDescriptor (F_Cav k).2.2.1 = some (t_Cav k) := by decide +kernel
set_option maxRecDepth 100000 in
theorem i_Cav : ∀ w ∈ u_ws R_Cav F_Cav 6, w ∈ tbl := tbl_all (by decide +kernel) (by decide +kernel)
def F_Leg : u_T := fun k => match k with
  | 0 => ("BreatheOut$Leg", "arrived", "I", false)
  | 1 => ("BreatheOut$Leg", "arrivals", "I", false)
  | 2 => ("BreatheOut$Leg", "stuck", "I", false)
  | 3 => ("BreatheOut$Leg", "where", "I", false)
  | 4 => ("BreatheOut$Leg", "clock", "I", false)
  | 5 => ("BreatheOut$Leg", "breaths", "I", false)
  | _ => ("BreatheOut$Leg", "times", "[I", true)
def t_Leg : Nat → FieldType := fun k => match k with
  | 0 => .int
  | 1 => .int
  | 2 => .int
  | 3 => .int
  | 4 => .int
  | 5 => .int
  | _ => .array .int
set_option maxRecDepth 20000 in
theorem n_Leg : ∀ a, a < 7 → ∀ b, b < 7 → a ≠ b → (F_Leg a).2.1 ≠ (F_Leg b).2.1 := by decide +kernel
theorem t_Leg_ok : ∀ k, k < 7 → parseFieldDescriptor (F_Leg k).2.2.1 = some (t_Leg k) := by decide +kernel
set_option maxRecDepth 100000 in
theorem i_Leg : ∀ w ∈ u_ws R_Leg F_Leg 7, w ∈ tbl := tbl_all (by decide +kernel) (by decide +kernel)
def F_Res : u_T := fun k => match k with
  | 0 => ("BreatheOut$Rescuers", "bestDeeds", "[I", true)
  | 1 => ("BreatheOut$Rescuers", "bestCount", "I", false)
  | 2 => ("BreatheOut$Rescuers", "bestMinutes", "I", false)
  | 3 => ("BreatheOut$Rescuers", "found", "Z", false)
  | 4 => ("BreatheOut$Rescuers", "deeds", "[I", true)
  | 5 => ("BreatheOut$Rescuers", "most", "I", false)
  | 6 => ("BreatheOut$Rescuers", "lackingWithoutFear", "I", false)
  | 7 => ("BreatheOut$Rescuers", "pulling", "I", false)
  | 8 => ("BreatheOut$Rescuers", "pushing", "I", false)
  | _ => ("BreatheOut$Rescuers", "calm", "I", false)
def t_Res : Nat → FieldType := fun k => match k with
  | 0 => .array .int
  | 1 => .int
  | 2 => .int
  | 3 => .boolean
  | 4 => .array .int
  | 5 => .int
  | 6 => .int
  | 7 => .int
  | 8 => .int
  | _ => .int
set_option maxRecDepth 20000 in
theorem n_Res : ∀ a, a < 10 → ∀ b, b < 10 → a ≠ b → (F_Res a).2.1 ≠ (F_Res b).2.1 := by decide +kernel
theorem t_Res_ok : ∀ k, k < 10 → parseFieldDescriptor (F_Res k).2.2.1 = some (t_Res k) := by decide +kernel
set_option maxRecDepth 100000 in
theorem i_Res : ∀ w ∈ u_ws R_Res F_Res 10, w ∈ tbl := tbl_all (by decide +kernel) (by decide +kernel)
def F_She : u_T := fun k => match k with
  | 0 => ("BreatheOut$Shelf", "holds", "I", false)
  | 1 => ("BreatheOut$Shelf", "kind", "I", false)
  | 2 => ("BreatheOut$Shelf", "figure", "I", false)
  | 3 => ("BreatheOut$Shelf", "sort", "I", false)
  | 4 => ("BreatheOut$Shelf", "length", "I", false)
  | _ => ("BreatheOut$Shelf", "cells", "[I", true)
def t_She : Nat → FieldType := fun k => match k with
  | 0 => .int
  | 1 => .int
  | 2 => .int
  | 3 => .int
  | 4 => .int
  | _ => .array .int
set_option maxRecDepth 20000 in
theorem n_She : ∀ a, a < 6 → ∀ b, b < 6 → a ≠ b → (F_She a).2.1 ≠ (F_She b).2.1 := by decide +kernel
theorem t_She_ok : ∀ k, k < 6 → parseFieldDescriptor (F_She k).2.2.1 = some (t_She k) := by decide +kernel
set_option maxRecDepth 100000 in
theorem i_She : ∀ w ∈ u_ws R_She F_She 6, w ∈ tbl := tbl_all (by decide +kernel) (by decide +kernel)
def F_Tri : u_T := fun k => match k with
  | 0 => ("BreatheOut$Trip", "there", "LBreatheOut$Leg;", true)
  | 1 => ("BreatheOut$Trip", "home", "LBreatheOut$Leg;", true)
  | _ => ("BreatheOut$Trip", "one", "[I", true)
def t_Tri : Nat → FieldType := fun k => match k with
  | 0 => .object "BreatheOut$Leg"
  | 1 => .object "BreatheOut$Leg"
  | _ => .array .int
set_option maxRecDepth 20000 in
theorem n_Tri : ∀ a, a < 3 → ∀ b, b < 3 → a ≠ b → (F_Tri a).2.1 ≠ (F_Tri b).2.1 := by decide +kernel
theorem t_Tri_ok : ∀ k, k < 3 → parseFieldDescriptor (F_Tri k).2.2.1 = some (t_Tri k) := by decide +kernel
set_option maxRecDepth 100000 in
theorem i_Tri : ∀ w ∈ u_ws R_Tri F_Tri 3, w ∈ tbl := tbl_all (by decide +kernel) (by decide +kernel)
def F_Yar : u_T := fun k => match k with
  | 0 => ("BreatheOut$Yards", "count", "I", false)
  | 1 => ("BreatheOut$Yards", "kind", "[I", true)
  | 2 => ("BreatheOut$Yards", "figure", "[I", true)
  | 3 => ("BreatheOut$Yards", "width", "[I", true)
  | 4 => ("BreatheOut$Yards", "dryRoom", "[I", true)
  | 5 => ("BreatheOut$Yards", "minutesThere", "[I", true)
  | 6 => ("BreatheOut$Yards", "minutesBack", "[I", true)
  | 7 => ("BreatheOut$Yards", "moreHeadFirst", "[I", true)
  | _ => ("BreatheOut$Yards", "moreFeetFirst", "[I", true)
def t_Yar : Nat → FieldType := fun k => match k with
  | 0 => .int
  | 1 => .array .int
  | 2 => .array .int
  | 3 => .array .int
  | 4 => .array .int
  | 5 => .array .int
  | 6 => .array .int
  | 7 => .array .int
  | _ => .array .int
set_option maxRecDepth 20000 in
theorem n_Yar : ∀ a, a < 9 → ∀ b, b < 9 → a ≠ b → (F_Yar a).2.1 ≠ (F_Yar b).2.1 := by decide +kernel
theorem t_Yar_ok : ∀ k, k < 9 → parseFieldDescriptor (F_Yar k).2.2.1 = some (t_Yar k) := by decide +kernel
set_option maxRecDepth 100000 in
theorem i_Yar : ∀ w ∈ u_ws R_Yar F_Yar 9, w ∈ tbl := tbl_all (by decide +kernel) (by decide +kernel)
def F_Brt : u_T := fun k => match k with
  | 0 => ("BreatheOut", "now", "LBreatheOut$Cave;", true)
  | 1 => ("BreatheOut", "kept", "LBreatheOut$Cave;", true)
  | 2 => ("BreatheOut", "trial", "LBreatheOut$Cave;", true)
  | 3 => ("BreatheOut", "trip", "LBreatheOut$Trip;", true)
  | 4 => ("BreatheOut", "best", "LBreatheOut$BestOrder;", true)
  | 5 => ("BreatheOut", "rescuers", "LBreatheOut$Rescuers;", true)
  | 6 => ("BreatheOut", "line", "[I", true)
  | 7 => ("BreatheOut", "shelves", "[LBreatheOut$Shelf;", true)
  | _ => ("BreatheOut", "imageTaken", "Z", false)
def t_Brt : Nat → FieldType := fun k => match k with
  | 0 => .object "BreatheOut$Cave"
  | 1 => .object "BreatheOut$Cave"
  | 2 => .object "BreatheOut$Cave"
  | 3 => .object "BreatheOut$Trip"
  | 4 => .object "BreatheOut$BestOrder"
  | 5 => .object "BreatheOut$Rescuers"
  | 6 => .array .int
  | 7 => .array (.object "BreatheOut$Shelf")
  | _ => .boolean
set_option maxRecDepth 20000 in
theorem n_Brt : ∀ a, a < 9 → ∀ b, b < 9 → a ≠ b → (F_Brt a).2.1 ≠ (F_Brt b).2.1 := by decide +kernel
theorem t_Brt_ok : ∀ k, k < 9 → parseFieldDescriptor (F_Brt k).2.2.1 = some (t_Brt k) := by decide +kernel
set_option maxRecDepth 100000 in
theorem i_Brt : ∀ w ∈ u_ws R_Brt F_Brt 9, w ∈ tbl := tbl_all (by decide +kernel) (by decide +kernel)
def F_Mod : u_T := fun k => match k with
  | 0 => ("BreatheOutModel", "s", "[I", true)
  | 1 => ("BreatheOutModel", "image", "[I", true)
  | 2 => ("BreatheOutModel", "was", "[I", true)
  | 3 => ("BreatheOutModel", "hasImage", "Z", false)
  | 4 => ("BreatheOutModel", "clock", "I", false)
  | 5 => ("BreatheOutModel", "breaths", "I", false)
  | 6 => ("BreatheOutModel", "stuckAt", "I", false)
  | 7 => ("BreatheOutModel", "away", "I", false)
  | 8 => ("BreatheOutModel", "through", "I", false)
  | 9 => ("BreatheOutModel", "stuck", "I", false)
  | 10 => ("BreatheOutModel", "where", "I", false)
  | 11 => ("BreatheOutModel", "came", "I", false)
  | 12 => ("BreatheOutModel", "stuckBack", "I", false)
  | 13 => ("BreatheOutModel", "goClock", "I", false)
  | 14 => ("BreatheOutModel", "goBreaths", "I", false)
  | 15 => ("BreatheOutModel", "backClock", "I", false)
  | 16 => ("BreatheOutModel", "throughAt", "[I", true)
  | 17 => ("BreatheOutModel", "line", "[I", true)
  | 18 => ("BreatheOutModel", "lineMany", "I", false)
  | 19 => ("BreatheOutModel", "at", "I", false)
  | 20 => ("BreatheOutModel", "rowAt", "I", false)
  | 21 => ("BreatheOutModel", "rowEnd", "I", false)
  | 22 => ("BreatheOutModel", "numbers", "[I", true)
  | 23 => ("BreatheOutModel", "bestMany", "I", false)
  | 24 => ("BreatheOutModel", "bestClock", "I", false)
  | 25 => ("BreatheOutModel", "bestOrder", "[I", true)
  | 26 => ("BreatheOutModel", "deed", "[I", true)
  | 27 => ("BreatheOutModel", "bestDeed", "[I", true)
  | 28 => ("BreatheOutModel", "bestMinutes", "I", false)
  | 29 => ("BreatheOutModel", "bestLength", "I", false)
  | 30 => ("BreatheOutModel", "strongest", "I", false)
  | 31 => ("BreatheOutModel", "weakest", "I", false)
  | 32 => ("BreatheOutModel", "seed", "I", false)
  | 33 => ("BreatheOutModel", "kept", "[I", true)
  | 34 => ("BreatheOutModel", "keptKind", "[I", true)
  | 35 => ("BreatheOutModel", "keptFigure", "[I", true)
  | 36 => ("BreatheOutModel", "sort", "[I", true)
  | 37 => ("BreatheOutModel", "size", "[I", true)
  | 38 => ("BreatheOutModel", "element", "[I", true)
  | _ => ("BreatheOutModel", "thrown", "I", false)
def t_Mod : Nat → FieldType := fun k => match k with
  | 0 => .array .int
  | 1 => .array .int
  | 2 => .array .int
  | 3 => .boolean
  | 4 => .int
  | 5 => .int
  | 6 => .int
  | 7 => .int
  | 8 => .int
  | 9 => .int
  | 10 => .int
  | 11 => .int
  | 12 => .int
  | 13 => .int
  | 14 => .int
  | 15 => .int
  | 16 => .array .int
  | 17 => .array .int
  | 18 => .int
  | 19 => .int
  | 20 => .int
  | 21 => .int
  | 22 => .array .int
  | 23 => .int
  | 24 => .int
  | 25 => .array .int
  | 26 => .array .int
  | 27 => .array .int
  | 28 => .int
  | 29 => .int
  | 30 => .int
  | 31 => .int
  | 32 => .int
  | 33 => .array .int
  | 34 => .array .int
  | 35 => .array .int
  | 36 => .array .int
  | 37 => .array .int
  | 38 => .array .int
  | _ => .int
set_option maxRecDepth 20000 in
theorem n_Mod : ∀ a, a < 40 → ∀ b, b < 40 → a ≠ b → (F_Mod a).2.1 ≠ (F_Mod b).2.1 := by decide +kernel
theorem t_Mod_ok : ∀ k, k < 40 → parseFieldDescriptor (F_Mod k).2.2.1 = some (t_Mod k) := by decide +kernel
set_option maxRecDepth 100000 in
theorem i_Mod : ∀ w ∈ u_ws R_Mod F_Mod 40, w ∈ tbl := tbl_all (by decide +kernel) (by decide +kernel)
abbrev classes : List vw_C := [(R_Best, F_Best, 5), (R_Bod, F_Bod, 7), (R_Cav, F_Cav, 6), (R_Leg, F_Leg, 7), (R_Res, F_Res, 10), (R_She, F_She, 6), (R_Tri, F_Tri, 3), (R_Yar, F_Yar, 9), (R_Brt, F_Brt, 9), (R_Mod, F_Mod, 40)]
abbrev b_Best_init : ByteArray := prog_2_method_1_code
def y_Best_init : MethodName := ⟨R_Best, "<init>", "()V"⟩
abbrev b_Best_forget : ByteArray := prog_2_method_2_code
def y_Best_forget : MethodName := ⟨R_Best, "forget", "()V"⟩
abbrev b_Best_find : ByteArray := prog_2_method_3_code
def y_Best_find : MethodName := ⟨R_Best, "find", "(LBreatheOut$Cave;LBreatheOut$Trip;)V"⟩
abbrev b_Best_weigh : ByteArray := prog_2_method_4_code
def y_Best_weigh : MethodName := ⟨R_Best, "weigh", "(LBreatheOut$Leg;)V"⟩
abbrev b_Best_goToNext : ByteArray := prog_2_method_5_code
def y_Best_goToNext : MethodName := ⟨R_Best, "goToNext", "(I)Z"⟩
abbrev b_Best_exchange : ByteArray := prog_2_method_6_code
def y_Best_exchange : MethodName := ⟨R_Best, "exchange", "(II)V"⟩
abbrev b_Bod_init : ByteArray := prog_3_method_1_code
def y_Bod_init : MethodName := ⟨R_Bod, "<init>", "()V"⟩
abbrev b_Bod_has : ByteArray := prog_3_method_2_code
def y_Bod_has : MethodName := ⟨R_Bod, "has", "(I)Z"⟩
abbrev b_Bod_add : ByteArray := prog_3_method_3_code
def y_Bod_add : MethodName := ⟨R_Bod, "add", "(IIII)Z"⟩
abbrev b_Bod_traitOf : ByteArray := prog_3_method_4_code
def y_Bod_traitOf : MethodName := ⟨R_Bod, "traitOf", "(II)I"⟩
abbrev b_Bod_alter : ByteArray := prog_3_method_5_code
def y_Bod_alter : MethodName := ⟨R_Bod, "alter", "(III)Z"⟩
abbrev b_Bod_placeOf : ByteArray := prog_3_method_6_code
def y_Bod_placeOf : MethodName := ⟨R_Bod, "placeOf", "(I)I"⟩
abbrev b_Bod_swap : ByteArray := prog_3_method_7_code
def y_Bod_swap : MethodName := ⟨R_Bod, "swap", "(II)Z"⟩
abbrev b_Bod_bulkOf : ByteArray := prog_3_method_8_code
def y_Bod_bulkOf : MethodName := ⟨R_Bod, "bulkOf", "(IIZ)I"⟩
abbrev b_Bod_strongestPullBut : ByteArray := prog_3_method_9_code
def y_Bod_strongestPullBut : MethodName := ⟨R_Bod, "strongestPullBut", "(I)I"⟩
abbrev b_Bod_weakestPullBut : ByteArray := prog_3_method_10_code
def y_Bod_weakestPullBut : MethodName := ⟨R_Bod, "weakestPullBut", "(I)I"⟩
abbrev b_Bod_become : ByteArray := prog_3_method_11_code
def y_Bod_become : MethodName := ⟨R_Bod, "become", "(LBreatheOut$Bodies;)V"⟩
abbrev b_Cav_init : ByteArray := prog_4_method_1_code
def y_Cav_init : MethodName := ⟨R_Cav, "<init>", "()V"⟩
abbrev b_Cav_hasBoth : ByteArray := prog_4_method_2_code
def y_Cav_hasBoth : MethodName := ⟨R_Cav, "hasBoth", "(II)Z"⟩
abbrev b_Cav_settingOf : ByteArray := prog_4_method_3_code
def y_Cav_settingOf : MethodName := ⟨R_Cav, "settingOf", "(I)I"⟩
abbrev b_Cav_adjust : ByteArray := prog_4_method_4_code
def y_Cav_adjust : MethodName := ⟨R_Cav, "adjust", "(II)Z"⟩
abbrev b_Cav_goOn : ByteArray := prog_4_method_5_code
def y_Cav_goOn : MethodName := ⟨R_Cav, "goOn", "(I)Z"⟩
abbrev b_Cav_waterAt : ByteArray := prog_4_method_6_code
def y_Cav_waterAt : MethodName := ⟨R_Cav, "waterAt", "(I)I"⟩
abbrev b_Cav_lackingOf : ByteArray := prog_4_method_7_code
def y_Cav_lackingOf : MethodName := ⟨R_Cav, "lackingOf", "(II)I"⟩
abbrev b_Cav_fitOf : ByteArray := prog_4_method_8_code
def y_Cav_fitOf : MethodName := ⟨R_Cav, "fitOf", "(II)I"⟩
abbrev b_Cav_become : ByteArray := prog_4_method_9_code
def y_Cav_become : MethodName := ⟨R_Cav, "become", "(LBreatheOut$Cave;)V"⟩
abbrev b_Kin_roomOf : ByteArray := prog_5_method_2_code
def y_Kin_roomOf : MethodName := ⟨R_Kin, "roomOf", "(III)I"⟩
abbrev b_Kin_moreOf : ByteArray := prog_5_method_3_code
def y_Kin_moreOf : MethodName := ⟨R_Kin, "moreOf", "(IZ)I"⟩
abbrev b_Kin_minutesOf : ByteArray := prog_5_method_4_code
def y_Kin_minutesOf : MethodName := ⟨R_Kin, "minutesOf", "(IIZ)I"⟩
abbrev b_Kin_costOf : ByteArray := prog_5_method_5_code
def y_Kin_costOf : MethodName := ⟨R_Kin, "costOf", "(II)I"⟩
abbrev b_Kin_fail : ByteArray := prog_5_method_6_code
def y_Kin_fail : MethodName := ⟨R_Kin, "fail", "(II)V"⟩
abbrev b_Leg_init : ByteArray := prog_6_method_1_code
def y_Leg_init : MethodName := ⟨R_Leg, "<init>", "()V"⟩
abbrev b_Leg_begin : ByteArray := prog_6_method_2_code
def y_Leg_begin : MethodName := ⟨R_Leg, "begin", "(I)V"⟩
abbrev b_Leg_passAll : ByteArray := prog_6_method_3_code
def y_Leg_passAll : MethodName := ⟨R_Leg, "passAll", "(LBreatheOut$Cave;[IIZI)V"⟩
abbrev b_Leg_passOne : ByteArray := prog_6_method_4_code
def y_Leg_passOne : MethodName := ⟨R_Leg, "passOne", "(LBreatheOut$Cave;IZI)V"⟩
abbrev b_Res_init : ByteArray := prog_7_method_1_code
def y_Res_init : MethodName := ⟨R_Res, "<init>", "()V"⟩
abbrev b_Res_find : ByteArray := prog_7_method_2_code
def y_Res_find : MethodName := ⟨R_Res, "find", "(LBreatheOut$Cave;III)V"⟩
abbrev b_Res_search : ByteArray := prog_7_method_3_code
def y_Res_search : MethodName := ⟨R_Res, "search", "(IIII)V"⟩
abbrev b_She_init : ByteArray := prog_8_method_1_code
def y_She_init : MethodName := ⟨R_She, "<init>", "()V"⟩
abbrev b_She_holdKind : ByteArray := prog_8_method_2_code
def y_She_holdKind : MethodName := ⟨R_She, "holdKind", "(II)V"⟩
abbrev b_She_holdRow : ByteArray := prog_8_method_3_code
def y_She_holdRow : MethodName := ⟨R_She, "holdRow", "(II)V"⟩
abbrev b_She_hasPlace : ByteArray := prog_8_method_4_code
def y_She_hasPlace : MethodName := ⟨R_She, "hasPlace", "(I)Z"⟩
abbrev b_She_hasPlaces : ByteArray := prog_8_method_5_code
def y_She_hasPlaces : MethodName := ⟨R_She, "hasPlaces", "(II)Z"⟩
abbrev b_She_write : ByteArray := prog_8_method_6_code
def y_She_write : MethodName := ⟨R_She, "write", "(II)V"⟩
abbrev b_She_isSkipped : ByteArray := prog_8_method_7_code
def y_She_isSkipped : MethodName := ⟨R_She, "isSkipped", "(I)Z"⟩
abbrev b_Tex_brokenAt : ByteArray := prog_9_method_2_code
def y_Tex_brokenAt : MethodName := ⟨R_Tex, "brokenAt", "(LBreatheOut$Shelf;)I"⟩
abbrev b_Tex_digitsBehind : ByteArray := prog_9_method_3_code
def y_Tex_digitsBehind : MethodName := ⟨R_Tex, "digitsBehind", "(I)I"⟩
abbrev b_Tex_tell : ByteArray := prog_9_method_4_code
def y_Tex_tell : MethodName := ⟨R_Tex, "tell", "(LBreatheOut$Shelf;ILBreatheOut$Cave;)Z"⟩
abbrev b_Tex_number : ByteArray := prog_9_method_5_code
def y_Tex_number : MethodName := ⟨R_Tex, "number", "(LBreatheOut$Shelf;II)I"⟩
abbrev b_Tri_init : ByteArray := prog_10_method_1_code
def y_Tri_init : MethodName := ⟨R_Tri, "<init>", "()V"⟩
abbrev b_Tri_thereAndBack : ByteArray := prog_10_method_2_code
def y_Tri_thereAndBack : MethodName := ⟨R_Tri, "thereAndBack", "(LBreatheOut$Cave;[III)Z"⟩
abbrev b_Tri_alone : ByteArray := prog_10_method_3_code
def y_Tri_alone : MethodName := ⟨R_Tri, "alone", "(LBreatheOut$Cave;IZ)LBreatheOut$Leg;"⟩
abbrev b_Tri_shutIn : ByteArray := prog_10_method_4_code
def y_Tri_shutIn : MethodName := ⟨R_Tri, "shutIn", "()I"⟩
abbrev b_Yar_init : ByteArray := prog_11_method_1_code
def y_Yar_init : MethodName := ⟨R_Yar, "<init>", "()V"⟩
abbrev b_Yar_widthIsRight : ByteArray := prog_11_method_2_code
def y_Yar_widthIsRight : MethodName := ⟨R_Yar, "widthIsRight", "(I)Z"⟩
abbrev b_Yar_has : ByteArray := prog_11_method_3_code
def y_Yar_has : MethodName := ⟨R_Yar, "has", "(I)Z"⟩
abbrev b_Yar_add : ByteArray := prog_11_method_4_code
def y_Yar_add : MethodName := ⟨R_Yar, "add", "(III)Z"⟩
abbrev b_Yar_roomAt : ByteArray := prog_11_method_5_code
def y_Yar_roomAt : MethodName := ⟨R_Yar, "roomAt", "(II)I"⟩
abbrev b_Yar_moreBy : ByteArray := prog_11_method_6_code
def y_Yar_moreBy : MethodName := ⟨R_Yar, "moreBy", "(I)[I"⟩
abbrev b_Yar_become : ByteArray := prog_11_method_7_code
def y_Yar_become : MethodName := ⟨R_Yar, "become", "(LBreatheOut$Yards;)V"⟩
abbrev b_Brt_init : ByteArray := prog_1_method_1_code
def y_Brt_init : MethodName := ⟨R_Brt, "<init>", "()V"⟩
abbrev b_Brt_cave : ByteArray := prog_1_method_2_code
def y_Brt_cave : MethodName := ⟨R_Brt, "cave", "(I)I"⟩
abbrev b_Brt_yard : ByteArray := prog_1_method_3_code
def y_Brt_yard : MethodName := ⟨R_Brt, "yard", "(II)I"⟩
abbrev b_Brt_body : ByteArray := prog_1_method_4_code
def y_Brt_body : MethodName := ⟨R_Brt, "body", "(II)I"⟩
abbrev b_Brt_lays : ByteArray := prog_1_method_5_code
def y_Brt_lays : MethodName := ⟨R_Brt, "lays", "(II)I"⟩
abbrev b_Brt_shorter : ByteArray := prog_1_method_6_code
def y_Brt_shorter : MethodName := ⟨R_Brt, "shorter", "()I"⟩
abbrev b_Brt_makes : ByteArray := prog_1_method_7_code
def y_Brt_makes : MethodName := ⟨R_Brt, "makes", "(III)I"⟩
abbrev b_Brt_change : ByteArray := prog_1_method_8_code
def y_Brt_change : MethodName := ⟨R_Brt, "change", "(II)I"⟩
abbrev b_Brt_set : ByteArray := prog_1_method_9_code
def y_Brt_set : MethodName := ⟨R_Brt, "set", "(II)I"⟩
abbrev b_Brt_waits : ByteArray := prog_1_method_10_code
def y_Brt_waits : MethodName := ⟨R_Brt, "waits", "(I)I"⟩
abbrev b_Brt_size : ByteArray := prog_1_method_11_code
def y_Brt_size : MethodName := ⟨R_Brt, "size", "(IIII)I"⟩
abbrev b_Brt_fits : ByteArray := prog_1_method_12_code
def y_Brt_fits : MethodName := ⟨R_Brt, "fits", "(II)I"⟩
abbrev b_Brt_way : ByteArray := prog_1_method_13_code
def y_Brt_way : MethodName := ⟨R_Brt, "way", "(III)I"⟩
abbrev b_Brt_posture : ByteArray := prog_1_method_14_code
def y_Brt_posture : MethodName := ⟨R_Brt, "posture", "(I)I"⟩
abbrev b_Brt_lacks : ByteArray := prog_1_method_15_code
def y_Brt_lacks : MethodName := ⟨R_Brt, "lacks", "(I)I"⟩
abbrev b_Brt_widest : ByteArray := prog_1_method_16_code
def y_Brt_widest : MethodName := ⟨R_Brt, "widest", "(I)I"⟩
abbrev b_Brt_go : ByteArray := prog_1_method_17_code
def y_Brt_go : MethodName := ⟨R_Brt, "go", "(I)I"⟩
abbrev b_Brt_back : ByteArray := prog_1_method_18_code
def y_Brt_back : MethodName := ⟨R_Brt, "back", "(I)I"⟩
abbrev b_Brt_help : ByteArray := prog_1_method_19_code
def y_Brt_help : MethodName := ⟨R_Brt, "help", "(I)I"⟩
abbrev b_Brt_order : ByteArray := prog_1_method_20_code
def y_Brt_order : MethodName := ⟨R_Brt, "order", "(I)I"⟩
abbrev b_Brt_stays : ByteArray := prog_1_method_21_code
def y_Brt_stays : MethodName := ⟨R_Brt, "stays", "()I"⟩
abbrev b_Brt_calms : ByteArray := prog_1_method_22_code
def y_Brt_calms : MethodName := ⟨R_Brt, "calms", "(I)I"⟩
abbrev b_Brt_rescue : ByteArray := prog_1_method_23_code
def y_Brt_rescue : MethodName := ⟨R_Brt, "rescue", "(IIII)I"⟩
abbrev b_Brt_turns : ByteArray := prog_1_method_24_code
def y_Brt_turns : MethodName := ⟨R_Brt, "turns", "()I"⟩
abbrev b_Brt_floods : ByteArray := prog_1_method_25_code
def y_Brt_floods : MethodName := ⟨R_Brt, "floods", "(II)I"⟩
abbrev b_Brt_haste : ByteArray := prog_1_method_26_code
def y_Brt_haste : MethodName := ⟨R_Brt, "haste", "()I"⟩
abbrev b_Brt_panic : ByteArray := prog_1_method_27_code
def y_Brt_panic : MethodName := ⟨R_Brt, "panic", "(I)J"⟩
abbrev b_Brt_firstWays : ByteArray := prog_1_method_28_code
def y_Brt_firstWays : MethodName := ⟨R_Brt, "firstWays", "()I"⟩
abbrev b_Brt_rock : ByteArray := prog_1_method_29_code
def y_Brt_rock : MethodName := ⟨R_Brt, "rock", "(III)I"⟩
abbrev b_Brt_forged : ByteArray := prog_1_method_30_code
def y_Brt_forged : MethodName := ⟨R_Brt, "forged", "(II)I"⟩
abbrev b_Brt_judge : ByteArray := prog_1_method_31_code
def y_Brt_judge : MethodName := ⟨R_Brt, "judge", "(I)I"⟩
abbrev b_Brt_parties : ByteArray := prog_1_method_32_code
def y_Brt_parties : MethodName := ⟨R_Brt, "parties", "(III)I"⟩
abbrev b_Brt_image : ByteArray := prog_1_method_33_code
def y_Brt_image : MethodName := ⟨R_Brt, "image", "()I"⟩
abbrev b_Brt_restore : ByteArray := prog_1_method_34_code
def y_Brt_restore : MethodName := ⟨R_Brt, "restore", "()I"⟩
abbrev b_Brt_count : ByteArray := prog_1_method_35_code
def y_Brt_count : MethodName := ⟨R_Brt, "count", "(I)I"⟩
abbrev b_Brt_keep : ByteArray := prog_1_method_36_code
def y_Brt_keep : MethodName := ⟨R_Brt, "keep", "(IIII)I"⟩
abbrev b_Brt_row : ByteArray := prog_1_method_37_code
def y_Brt_row : MethodName := ⟨R_Brt, "row", "(III)I"⟩
abbrev b_Brt_put : ByteArray := prog_1_method_38_code
def y_Brt_put : MethodName := ⟨R_Brt, "put", "(III)I"⟩
abbrev b_Brt_element : ByteArray := prog_1_method_39_code
def y_Brt_element : MethodName := ⟨R_Brt, "element", "(II)J"⟩
abbrev b_Brt_copy : ByteArray := prog_1_method_40_code
def y_Brt_copy : MethodName := ⟨R_Brt, "copy", "(IIIII)I"⟩
abbrev b_Brt_cost : ByteArray := prog_1_method_41_code
def y_Brt_cost : MethodName := ⟨R_Brt, "cost", "(I)I"⟩
abbrev b_Brt_toss : ByteArray := prog_1_method_42_code
def y_Brt_toss : MethodName := ⟨R_Brt, "toss", "(I)I"⟩
abbrev b_Brt_within : ByteArray := prog_1_method_43_code
def y_Brt_within : MethodName := ⟨R_Brt, "within", "(III)Z"⟩
abbrev b_Brt_isShelf : ByteArray := prog_1_method_44_code
def y_Brt_isShelf : MethodName := ⟨R_Brt, "isShelf", "(I)Z"⟩
abbrev b_Brt_sumOf : ByteArray := prog_1_method_45_code
def y_Brt_sumOf : MethodName := ⟨R_Brt, "sumOf", "([II)I"⟩
abbrev b_Brt_commonDivisor : ByteArray := prog_1_method_46_code
def y_Brt_commonDivisor : MethodName := ⟨R_Brt, "commonDivisor", "(JJ)J"⟩
abbrev b_Brt_refusalOfRow : ByteArray := prog_1_method_47_code
def y_Brt_refusalOfRow : MethodName := ⟨R_Brt, "refusalOfRow", "(I)I"⟩
abbrev b_Brt_refusalOfKind : ByteArray := prog_1_method_48_code
def y_Brt_refusalOfKind : MethodName := ⟨R_Brt, "refusalOfKind", "(I)I"⟩
abbrev b_Brt_refusalUnless : ByteArray := prog_1_method_49_code
def y_Brt_refusalUnless : MethodName := ⟨R_Brt, "refusalUnless", "(II)I"⟩
abbrev b_Brt_refusalOfRock : ByteArray := prog_1_method_50_code
def y_Brt_refusalOfRock : MethodName := ⟨R_Brt, "refusalOfRock", "(II)I"⟩
abbrev b_Brt_firstUnlike : ByteArray := prog_1_method_51_code
def y_Brt_firstUnlike : MethodName := ⟨R_Brt, "firstUnlike", "(ILBreatheOut$Shelf;)I"⟩
abbrev b_Brt_allGo : ByteArray := prog_1_method_52_code
def y_Brt_allGo : MethodName := ⟨R_Brt, "allGo", "()LBreatheOut$Leg;"⟩
abbrev b_Brt_allReturn : ByteArray := prog_1_method_53_code
def y_Brt_allReturn : MethodName := ⟨R_Brt, "allReturn", "(LBreatheOut$Cave;)Z"⟩
abbrev b_Brt_areBackInLight : ByteArray := prog_1_method_54_code
def y_Brt_areBackInLight : MethodName := ⟨R_Brt, "areBackInLight", "(I)Z"⟩
abbrev b_Brt_othersAreBack : ByteArray := prog_1_method_55_code
def y_Brt_othersAreBack : MethodName := ⟨R_Brt, "othersAreBack", "(I)Z"⟩
abbrev b_Brt_panicOf : ByteArray := prog_1_method_56_code
def y_Brt_panicOf : MethodName := ⟨R_Brt, "panicOf", "(I)J"⟩
abbrev b_Brt_pose : ByteArray := prog_1_method_57_code
def y_Brt_pose : MethodName := ⟨R_Brt, "pose", "(II)I"⟩
abbrev b_Mod_init : ByteArray := prog_13_method_1_code
def y_Mod_init : MethodName := ⟨R_Mod, "<init>", "()V"⟩
abbrev b_Mod_isIn : ByteArray := prog_13_method_2_code
def y_Mod_isIn : MethodName := ⟨R_Mod, "isIn", "(III)Z"⟩
abbrev b_Mod_least : ByteArray := prog_13_method_3_code
def y_Mod_least : MethodName := ⟨R_Mod, "least", "(II)I"⟩
abbrev b_Mod_most : ByteArray := prog_13_method_4_code
def y_Mod_most : MethodName := ⟨R_Mod, "most", "(II)I"⟩
abbrev b_Mod_copies : ByteArray := prog_13_method_5_code
def y_Mod_copies : MethodName := ⟨R_Mod, "copies", "([I[I)V"⟩
abbrev b_Mod_atYard : ByteArray := prog_13_method_6_code
def y_Mod_atYard : MethodName := ⟨R_Mod, "atYard", "(II)I"⟩
abbrev b_Mod_atBody : ByteArray := prog_13_method_7_code
def y_Mod_atBody : MethodName := ⟨R_Mod, "atBody", "(II)I"⟩
abbrev b_Mod_isYard : ByteArray := prog_13_method_8_code
def y_Mod_isYard : MethodName := ⟨R_Mod, "isYard", "(I)Z"⟩
abbrev b_Mod_isBody : ByteArray := prog_13_method_9_code
def y_Mod_isBody : MethodName := ⟨R_Mod, "isBody", "(I)Z"⟩
abbrev b_Mod_of : ByteArray := prog_13_method_10_code
def y_Mod_of : MethodName := ⟨R_Mod, "of", "(II)I"⟩
abbrev b_Mod_roomOf : ByteArray := prog_13_method_11_code
def y_Mod_roomOf : MethodName := ⟨R_Mod, "roomOf", "(II)I"⟩
abbrev b_Mod_minutesOf : ByteArray := prog_13_method_12_code
def y_Mod_minutesOf : MethodName := ⟨R_Mod, "minutesOf", "(IZ)I"⟩
abbrev b_Mod_isFeetFirst : ByteArray := prog_13_method_13_code
def y_Mod_isFeetFirst : MethodName := ⟨R_Mod, "isFeetFirst", "(I)Z"⟩
abbrev b_Mod_sizeOf : ByteArray := prog_13_method_14_code
def y_Mod_sizeOf : MethodName := ⟨R_Mod, "sizeOf", "(IIIZ)I"⟩
abbrev b_Mod_sizeNow : ByteArray := prog_13_method_15_code
def y_Mod_sizeNow : MethodName := ⟨R_Mod, "sizeNow", "(IIZ)I"⟩
abbrev b_Mod_hour : ByteArray := prog_13_method_16_code
def y_Mod_hour : MethodName := ⟨R_Mod, "hour", "()I"⟩
abbrev b_Mod_fitsIn : ByteArray := prog_13_method_17_code
def y_Mod_fitsIn : MethodName := ⟨R_Mod, "fitsIn", "(III)I"⟩
abbrev b_Mod_goesWay : ByteArray := prog_13_method_18_code
def y_Mod_goesWay : MethodName := ⟨R_Mod, "goesWay", "(IZI)V"⟩
abbrev b_Mod_wayAlone : ByteArray := prog_13_method_19_code
def y_Mod_wayAlone : MethodName := ⟨R_Mod, "wayAlone", "(IZ)V"⟩
abbrev b_Mod_lines : ByteArray := prog_13_method_20_code
def y_Mod_lines : MethodName := ⟨R_Mod, "lines", "()V"⟩
abbrev b_Mod_pulled : ByteArray := prog_13_method_21_code
def y_Mod_pulled : MethodName := ⟨R_Mod, "pulled", "(II)I"⟩
abbrev b_Mod_goesThere : ByteArray := prog_13_method_22_code
def y_Mod_goesThere : MethodName := ⟨R_Mod, "goesThere", "()V"⟩
abbrev b_Mod_goesThereAndBack : ByteArray := prog_13_method_23_code
def y_Mod_goesThereAndBack : MethodName := ⟨R_Mod, "goesThereAndBack", "()V"⟩
abbrev b_Mod_bits : ByteArray := prog_13_method_24_code
def y_Mod_bits : MethodName := ⟨R_Mod, "bits", "(I)I"⟩
abbrev b_Mod_areAllBack : ByteArray := prog_13_method_25_code
def y_Mod_areAllBack : MethodName := ⟨R_Mod, "areAllBack", "()Z"⟩
abbrev b_Mod_here : ByteArray := prog_13_method_26_code
def y_Mod_here : MethodName := ⟨R_Mod, "here", "()I"⟩
abbrev b_Mod_readsNumber : ByteArray := prog_13_method_27_code
def y_Mod_readsNumber : MethodName := ⟨R_Mod, "readsNumber", "(II)Z"⟩
abbrev b_Mod_readsStatement : ByteArray := prog_13_method_28_code
def y_Mod_readsStatement : MethodName := ⟨R_Mod, "readsStatement", "()Z"⟩
abbrev b_Mod_addsYard : ByteArray := prog_13_method_29_code
def y_Mod_addsYard : MethodName := ⟨R_Mod, "addsYard", "(III)V"⟩
abbrev b_Mod_placeOf : ByteArray := prog_13_method_30_code
def y_Mod_placeOf : MethodName := ⟨R_Mod, "placeOf", "(I)I"⟩
abbrev b_Mod_changes : ByteArray := prog_13_method_31_code
def y_Mod_changes : MethodName := ⟨R_Mod, "changes", "(II)V"⟩
abbrev b_Mod_isDone : ByteArray := prog_13_method_32_code
def y_Mod_isDone : MethodName := ⟨R_Mod, "isDone", "(I)Z"⟩
abbrev b_Mod_cave : ByteArray := prog_13_method_33_code
def y_Mod_cave : MethodName := ⟨R_Mod, "cave", "(I)I"⟩
abbrev b_Mod_yard : ByteArray := prog_13_method_34_code
def y_Mod_yard : MethodName := ⟨R_Mod, "yard", "(II)I"⟩
abbrev b_Mod_body : ByteArray := prog_13_method_35_code
def y_Mod_body : MethodName := ⟨R_Mod, "body", "(II)I"⟩
abbrev b_Mod_lays : ByteArray := prog_13_method_36_code
def y_Mod_lays : MethodName := ⟨R_Mod, "lays", "(II)I"⟩
abbrev b_Mod_shorter : ByteArray := prog_13_method_37_code
def y_Mod_shorter : MethodName := ⟨R_Mod, "shorter", "()I"⟩
abbrev b_Mod_makes : ByteArray := prog_13_method_38_code
def y_Mod_makes : MethodName := ⟨R_Mod, "makes", "(III)I"⟩
abbrev b_Mod_change : ByteArray := prog_13_method_39_code
def y_Mod_change : MethodName := ⟨R_Mod, "change", "(II)I"⟩
abbrev b_Mod_set : ByteArray := prog_13_method_40_code
def y_Mod_set : MethodName := ⟨R_Mod, "set", "(II)I"⟩
abbrev b_Mod_waits : ByteArray := prog_13_method_41_code
def y_Mod_waits : MethodName := ⟨R_Mod, "waits", "(I)I"⟩
abbrev b_Mod_size : ByteArray := prog_13_method_42_code
def y_Mod_size : MethodName := ⟨R_Mod, "size", "(IIII)I"⟩
abbrev b_Mod_fits : ByteArray := prog_13_method_43_code
def y_Mod_fits : MethodName := ⟨R_Mod, "fits", "(II)I"⟩
abbrev b_Mod_way : ByteArray := prog_13_method_44_code
def y_Mod_way : MethodName := ⟨R_Mod, "way", "(III)I"⟩
abbrev b_Mod_posture : ByteArray := prog_13_method_45_code
def y_Mod_posture : MethodName := ⟨R_Mod, "posture", "(I)I"⟩
abbrev b_Mod_lacks : ByteArray := prog_13_method_46_code
def y_Mod_lacks : MethodName := ⟨R_Mod, "lacks", "(I)I"⟩
abbrev b_Mod_widest : ByteArray := prog_13_method_47_code
def y_Mod_widest : MethodName := ⟨R_Mod, "widest", "(I)I"⟩
abbrev b_Mod_go : ByteArray := prog_13_method_48_code
def y_Mod_go : MethodName := ⟨R_Mod, "go", "(I)I"⟩
abbrev b_Mod_back : ByteArray := prog_13_method_49_code
def y_Mod_back : MethodName := ⟨R_Mod, "back", "(I)I"⟩
abbrev b_Mod_help : ByteArray := prog_13_method_50_code
def y_Mod_help : MethodName := ⟨R_Mod, "help", "(I)I"⟩
abbrev b_Mod_eachOrder : ByteArray := prog_13_method_51_code
def y_Mod_eachOrder : MethodName := ⟨R_Mod, "eachOrder", "(II)V"⟩
abbrev b_Mod_order : ByteArray := prog_13_method_52_code
def y_Mod_order : MethodName := ⟨R_Mod, "order", "(I)I"⟩
abbrev b_Mod_stays : ByteArray := prog_13_method_53_code
def y_Mod_stays : MethodName := ⟨R_Mod, "stays", "()I"⟩
abbrev b_Mod_calms : ByteArray := prog_13_method_54_code
def y_Mod_calms : MethodName := ⟨R_Mod, "calms", "(I)I"⟩
abbrev b_Mod_eachDeed : ByteArray := prog_13_method_55_code
def y_Mod_eachDeed : MethodName := ⟨R_Mod, "eachDeed", "(IIIIII)V"⟩
abbrev b_Mod_rescue : ByteArray := prog_13_method_56_code
def y_Mod_rescue : MethodName := ⟨R_Mod, "rescue", "(IIII)I"⟩
abbrev b_Mod_turns : ByteArray := prog_13_method_57_code
def y_Mod_turns : MethodName := ⟨R_Mod, "turns", "()I"⟩
abbrev b_Mod_floods : ByteArray := prog_13_method_58_code
def y_Mod_floods : MethodName := ⟨R_Mod, "floods", "(II)I"⟩
abbrev b_Mod_haste : ByteArray := prog_13_method_59_code
def y_Mod_haste : MethodName := ⟨R_Mod, "haste", "()I"⟩
abbrev b_Mod_gcd : ByteArray := prog_13_method_60_code
def y_Mod_gcd : MethodName := ⟨R_Mod, "gcd", "(JJ)J"⟩
abbrev b_Mod_panic : ByteArray := prog_13_method_61_code
def y_Mod_panic : MethodName := ⟨R_Mod, "panic", "(I)J"⟩
abbrev b_Mod_firstWays : ByteArray := prog_13_method_62_code
def y_Mod_firstWays : MethodName := ⟨R_Mod, "firstWays", "()I"⟩
abbrev b_Mod_leastOf : ByteArray := prog_13_method_63_code
def y_Mod_leastOf : MethodName := ⟨R_Mod, "leastOf", "(I)I"⟩
abbrev b_Mod_wrongRock : ByteArray := prog_13_method_64_code
def y_Mod_wrongRock : MethodName := ⟨R_Mod, "wrongRock", "(III)I"⟩
abbrev b_Mod_wrongRocks : ByteArray := prog_13_method_65_code
def y_Mod_wrongRocks : MethodName := ⟨R_Mod, "wrongRocks", "(II)I"⟩
abbrev b_Mod_rock : ByteArray := prog_13_method_66_code
def y_Mod_rock : MethodName := ⟨R_Mod, "rock", "(III)I"⟩
abbrev b_Mod_forged : ByteArray := prog_13_method_67_code
def y_Mod_forged : MethodName := ⟨R_Mod, "forged", "(II)I"⟩
abbrev b_Mod_judge : ByteArray := prog_13_method_68_code
def y_Mod_judge : MethodName := ⟨R_Mod, "judge", "(I)I"⟩
abbrev b_Mod_drawn : ByteArray := prog_13_method_69_code
def y_Mod_drawn : MethodName := ⟨R_Mod, "drawn", "(I)I"⟩
abbrev b_Mod_parties : ByteArray := prog_13_method_70_code
def y_Mod_parties : MethodName := ⟨R_Mod, "parties", "(III)I"⟩
abbrev b_Mod_image : ByteArray := prog_13_method_71_code
def y_Mod_image : MethodName := ⟨R_Mod, "image", "()I"⟩
abbrev b_Mod_restore : ByteArray := prog_13_method_72_code
def y_Mod_restore : MethodName := ⟨R_Mod, "restore", "()I"⟩
abbrev b_Mod_count : ByteArray := prog_13_method_73_code
def y_Mod_count : MethodName := ⟨R_Mod, "count", "(I)I"⟩
abbrev b_Mod_thrown : ByteArray := prog_13_method_74_code
def y_Mod_thrown : MethodName := ⟨R_Mod, "thrown", "()I"⟩
abbrev b_Mod_isShelf : ByteArray := prog_13_method_75_code
def y_Mod_isShelf : MethodName := ⟨R_Mod, "isShelf", "(I)Z"⟩
abbrev b_Mod_wrongRow : ByteArray := prog_13_method_76_code
def y_Mod_wrongRow : MethodName := ⟨R_Mod, "wrongRow", "(II)I"⟩
abbrev b_Mod_wrongKept : ByteArray := prog_13_method_77_code
def y_Mod_wrongKept : MethodName := ⟨R_Mod, "wrongKept", "(I)I"⟩
abbrev b_Mod_keep : ByteArray := prog_13_method_78_code
def y_Mod_keep : MethodName := ⟨R_Mod, "keep", "(IIII)I"⟩
abbrev b_Mod_row : ByteArray := prog_13_method_79_code
def y_Mod_row : MethodName := ⟨R_Mod, "row", "(III)I"⟩
abbrev b_Mod_put : ByteArray := prog_13_method_80_code
def y_Mod_put : MethodName := ⟨R_Mod, "put", "(III)I"⟩
abbrev b_Mod_element : ByteArray := prog_13_method_81_code
def y_Mod_element : MethodName := ⟨R_Mod, "element", "(II)J"⟩
abbrev b_Mod_copy : ByteArray := prog_13_method_82_code
def y_Mod_copy : MethodName := ⟨R_Mod, "copy", "(IIIII)I"⟩
abbrev b_Mod_costBy : ByteArray := prog_13_method_83_code
def y_Mod_costBy : MethodName := ⟨R_Mod, "costBy", "(II)I"⟩
abbrev b_Mod_cost : ByteArray := prog_13_method_84_code
def y_Mod_cost : MethodName := ⟨R_Mod, "cost", "(I)I"⟩
abbrev b_Mod_toss : ByteArray := prog_13_method_85_code
def y_Mod_toss : MethodName := ⟨R_Mod, "toss", "(I)I"⟩
abbrev b_Int_bitCount : ByteArray := prog_17_method_49_code
def y_Int_bitCount : MethodName := ⟨R_Int, "bitCount", "(I)I"⟩
abbrev b_Mat_max : ByteArray := prog_18_method_65_code
def y_Mat_max : MethodName := ⟨R_Mat, "max", "(II)I"⟩
abbrev b_Mat_min : ByteArray := prog_18_method_69_code
def y_Mat_min : MethodName := ⟨R_Mat, "min", "(II)I"⟩
abbrev b_Arr_fill : ByteArray := prog_24_method_103_code
def y_Arr_fill : MethodName := ⟨R_Arr, "fill", "([II)V"⟩
abbrev b_Law_element : ByteArray := method_3_code
def y_Law_element : MethodName := ⟨R_Law, "element", "(LBreatheOut;II[J)I"⟩
abbrev b_Law_law : ByteArray := code
def y_Law_law : MethodName := ⟨R_Law, "law", "([I)Z"⟩
end
section
/-! THE WORLD: 98 places, each a cell at the address that 'a' gives it; s p k is the int in field (or element) k of the cell at place p; references between cells are fixed by the places. -/
abbrev St : Type := Nat → Nat → Int32
def wr (s : St) (p k : Nat) (v : Int32) : St := fun q j => if q = p then (if j = k then v else s q j) else s q j
def wcp (s : St) (d e sp dp n : Nat) : St := fun q j => if q = e then va_cpy (s d) (s e) sp dp n j else s q j
def kdl : List Nat := [1,
  2, 3, 112, 112, 112, 112, 112, 112, 112, 112, 4, 106, 106, 106, 106, 106, 106,
  2, 3, 112, 112, 112, 112, 112, 112, 112, 112, 4, 106, 106, 106, 106, 106, 106,
  2, 3, 112, 112, 112, 112, 112, 112, 112, 112, 4, 106, 106, 106, 106, 106, 106,
  5, 6, 106, 6, 106, 101, 7, 106, 106, 8, 106, 106, 106, 11,
  9, 200, 9, 200, 9, 200, 9, 200, 9, 200, 9, 200, 9, 200, 9, 200,
  10, 178, 178, 178, 106, 106, 104, 106, 106, 106, 108, 108, 108, 108, 108, 900]
def kd (p : Nat) : Nat := kdl.getD p 0
def cellO (a : Nat → Nat) (s : St) (p : Nat) : Nat → Nat × List Value := fun k => match k with
  | 1 => (8, [.ref (a (p + 1)), .ref (a (p + 18)), .ref (a (p + 35)), .ref (a (p + 52)), .ref (a (p + 58)), .ref (a (p + 61)), .ref (a (p + 64)), .ref (a (p + 65)), .int (s p 8)])
  | 2 => (2, [.ref (a (p + 1)), .ref (a (p + 10)), .int (s p 2), .int (s p 3), .int (s p 4), .int (s p 5)])
  | 3 => (7, [.int (s p 0), .ref (a (p + 1)), .ref (a (p + 2)), .ref (a (p + 3)), .ref (a (p + 4)), .ref (a (p + 5)), .ref (a (p + 6)), .ref (a (p + 7)), .ref (a (p + 8))])
  | 4 => (1, [.int (s p 0), .ref (a (p + 1)), .ref (a (p + 2)), .ref (a (p + 3)), .ref (a (p + 4)), .ref (a (p + 5)), .ref (a (p + 6))])
  | 5 => (6, [.ref (a (p + 1)), .ref (a (p + 3)), .ref (a (p + 5))])
  | 6 => (3, [.int (s p 0), .int (s p 1), .int (s p 2), .int (s p 3), .int (s p 4), .int (s p 5), .ref (a (p + 1))])
  | 7 => (0, [.ref (a (p + 1)), .int (s p 1), .ref (a (p + 2)), .int (s p 3), .int (s p 4)])
  | 8 => (4, [.ref (a (p + 1)), .int (s p 1), .int (s p 2), .int (s p 3), .ref (a (p + 2)), .int (s p 5), .int (s p 6), .int (s p 7), .int (s p 8), .int (s p 9)])
  | 9 => (5, [.int (s p 0), .int (s p 1), .int (s p 2), .int (s p 3), .int (s p 4), .ref (a (p + 1))])
  | _ => (9, [.ref (a (p + 1)), .ref (a (p + 2)), .ref (a (p + 3)), .int (s p 3), .int (s p 4), .int (s p 5), .int (s p 6), .int (s p 7), .int (s p 8), .int (s p 9), .int (s p 10), .int (s p 11), .int (s p 12), .int (s p 13), .int (s p 14), .int (s p 15), .ref (a (p + 4)), .ref (a (p + 5)), .int (s p 18), .int (s p 19), .int (s p 20), .int (s p 21), .ref (a (p + 6)), .int (s p 23), .int (s p 24), .ref (a (p + 7)), .ref (a (p + 8)), .ref (a (p + 9)), .int (s p 28), .int (s p 29), .int (s p 30), .int (s p 31), .int (s p 32), .ref (a (p + 10)), .ref (a (p + 11)), .ref (a (p + 12)), .ref (a (p + 13)), .ref (a (p + 14)), .ref (a (p + 15)), .int (s p 39)])
def cellE (a : Nat → Nat) (cI cS : ClassId) (s : St) (p : Nat) : va_E :=
  if 100 ≤ kd p then .inl (cI, kd p - 100, .inl (s p)) else if kd p = 11 then .inl (cS, 8, .inr (.inr (.inr (.inr (fun i => some (a (p + 1 + 2 * i))))))) else .inr (cellO a s p (kd p))
def wl (a : Nat → Nat) (cI cS : ClassId) (s : St) : va_W := (List.range 98).map (fun p => (a p, cellE a cI cS s p))
abbrev Gx : Type := Launch × va_G × ClassId × ClassId × (Nat → Nat) × (Nat → Prop)
def gl (g : Gx) : Launch := g.1
def gD (g : Gx) : va_G := g.2.1
def gI (g : Gx) : ClassId := g.2.2.1
def gS (g : Gx) : ClassId := g.2.2.2.1
def ga (g : Gx) : Nat → Nat := g.2.2.2.2.1
def gA (g : Gx) : Nat → Prop := g.2.2.2.2.2
def gw (g : Gx) (s : St) : va_W := wl (ga g) (gI g) (gS g) s
def gty (g : Gx) : List (ClassId × FieldType) := [(gI g, .int), (gS g, .object "BreatheOut$Shelf")]
def gOk (g : Gx) : Prop := ∀ s, va_D (gA g) (gw g s)
abbrev Xx : Type := Gx × Program × Env × Room × State × MethodId × Array Value × List Frame × Method × Code × Nat
def xg (X : Xx) : Gx := X.1
def xp (X : Xx) : Program := X.2.1
def xe (X : Xx) : Env := X.2.2.1
def xR (X : Xx) : Room := X.2.2.2.1
def xs (X : Xx) : State := X.2.2.2.2.1
def xm (X : Xx) : MethodId := X.2.2.2.2.2.1
def xar (X : Xx) : Array Value := X.2.2.2.2.2.2.1
def xbe (X : Xx) : List Frame := X.2.2.2.2.2.2.2.1
def xme (X : Xx) : Method := X.2.2.2.2.2.2.2.2.1
def xc (X : Xx) : Code := X.2.2.2.2.2.2.2.2.2.1
def xn (X : Xx) : Nat := X.2.2.2.2.2.2.2.2.2.2
abbrev xa (X : Xx) (p : Nat) : Nat := ga (xg X) p
def lh (ls : Array Slot) (nL : Nat) (L : List (Option Value)) : Prop := ls.size = nL ∧ lv_wf ls ∧ ∀ (i : Nat) (v : Value), L[i]? = some (some v) → ls[i]? = some (.val v)
def Cok (X : Xx) (cc : ByteArray) (own : String) (nL : Nat) (ret : Option FieldType) (rm : Room) : Prop :=
  (xp X).tables.exec = Jvm.exec ∧ (xc X).code = cc ∧ (xc X).maxLocals = nL ∧ (xs X).vm.findClass own = some (xm X).cls ∧ (∀ w ∈ tbl, w.before (xar X) (xs X) = true) ∧ va_K (gD (xg X)) classes (gty (xg X)) (xs X) ∧ gOk (xg X) ∧ xR X = rm ∧ (xme X).locks = false ∧ (xme X).sig.returnType = ret ∧ xn X = nL
/-- the machine, at this place of this method, with these locals, this stack, this world, comes to Q -/
def V (X : Xx) (Q : State → Prop) (k n : Nat) (s : St) (pc : Nat) (L : List (Option Value)) (st : List Value) : Prop :=
  ∀ (H : Heap) (locs : List Loc) (ls : Array Slot), va_P (gD (xg X)) classes (gw (xg X) s) H → va_S (gA (xg X)) (xs X).heap H locs → lh ls (xn X) L →
    W (xp X) (gl (xg X)) (xe X) (xR X) (xs X) (xm X) (xar X) (xbe X) (xme X) (xc X) H locs k n Q (F0 (xm X) pc ls st)
def Qx (g : Gx) (post : Option Value → St → Prop) : Array Value → State → Outcome → State → Prop := fun _ st oc t =>
  (∃ (v : Option Value) (s : St), oc = .returned v ∧ post v s ∧ va_P (gD g) classes (gw g s) t.heap) ∧ va_F (gA g) st t
def xQ (X : Xx) (post : Option Value → St → Prop) : State → Prop := MQ (xbe X) (Qx (xg X) post) (xar X) (xs X) 0 0 (gA (xg X))
def Mc (g : Gx) (y : MethodName) (cc : ByteArray) (nL : Nat) (ret : Option FieldType) (rm : Room) (av : List Value) (s : St) (post : Option Value → St → Prop) : Prop :=
  Met (gl g) y (Cond.code y cc nL ret :: tbl) rm (va_Pc av (fun U => va_P (gD g) classes (gw g s) U.heap ∧ va_K (gD g) classes (gty g) U)) (Qx g post) 0 0 (gA g)
-- the world's cells
theorem wl_get (a : Nat → Nat) (cI cS : ClassId) (s : St) {p : Nat} (h : p < 98) : (wl a cI cS s)[p]? = some (a p, cellE a cI cS s p) := by
  simp [wl, h]
theorem kd_lt {p : Nat} (h : kd p ≠ 0) : p < 98 := by
  rcases Nat.lt_or_ge p 98 with q | q
  · exact q
  · exact absurd (by unfold kd; rw [List.getD_eq_getElem?_getD, List.getElem?_eq_none (by simpa [kdl] using q)]; rfl) h
theorem wl_ext {a : Nat → Nat} {cI cS : ClassId} {s : St} {p : Nat} {w : va_W} (hw : w.length = 98) (h : p < 98) (h1 : ∀ q, q < 98 → q ≠ p → w[q]? = some (a q, cellE a cI cS s q)) (h2 : w[p]? = some (a p, cellE a cI cS s p)) : w = wl a cI cS s := by
  apply List.ext_getElem?
  intro q
  rcases Nat.lt_or_ge q 98 with hq | hq
  · rw [wl_get a cI cS s hq]
    by_cases e : q = p
    · subst e; exact h2
    · exact h1 q hq e
  · rw [List.getElem?_eq_none (by omega), List.getElem?_eq_none (by simpa [wl] using hq)]
theorem cellO_off {a : Nat → Nat} {s s' : St} {p : Nat} (h : ∀ j, s' p j = s p j) (k : Nat) : cellO a s' p k = cellO a s p k := by
  unfold cellO
  split <;> simp only [h]
theorem cellE_off {a : Nat → Nat} {cI cS : ClassId} {s s' : St} {q : Nat} (h : ∀ j, s' q j = s q j) : cellE a cI cS s' q = cellE a cI cS s q := by
  unfold cellE
  rw [cellO_off h, show s' q = s q from funext h]
theorem wl_set {a : Nat → Nat} {cI cS : ClassId} {s s' : St} {p : Nat} (hp : p < 98) (h : ∀ q j, q ≠ p → s' q j = s q j) {e : va_E} (he : cellE a cI cS s' p = e) : (wl a cI cS s).set p (a p, e) = wl a cI cS s' := by
  refine wl_ext (p := p) (by simp [wl]) hp (fun q hq hn => ?_) ?_
  · rw [List.getElem?_set_ne (fun z => hn z.symm), wl_get a cI cS s hq, cellE_off (fun j => h q j hn)]
  · rw [List.getElem?_set_self (by simpa [wl] using hp), he]
theorem wr_ne {s : St} {p k : Nat} {v : Int32} {q j : Nat} (h : q ≠ p) : wr s p k v q j = s q j := by simp [wr, h]
theorem wr_at {s : St} {p k : Nat} {v : Int32} : wr s p k v p k = v := by simp [wr]
theorem wr_row {s : St} {p k : Nat} {v : Int32} : wr s p k v p = upd (s p) k v := by
  funext j
  simp [wr, upd]
theorem cellE_arr {a : Nat → Nat} {cI cS : ClassId} {s : St} {p n : Nat} (h : kd p = 100 + n) : cellE a cI cS s p = .inl (cI, n, .inl (s p)) := by
  unfold cellE
  rw [if_pos (by omega), h, show 100 + n - 100 = n by omega]
theorem cellE_obj {a : Nat → Nat} {cI cS : ClassId} {s : St} {p k : Nat} (h : kd p = k) (hk : k < 11) : cellE a cI cS s p = .inr (cellO a s p k) := by
  unfold cellE
  rw [if_neg (by omega), if_neg (by omega), h]
theorem cellE_she {a : Nat → Nat} {cI cS : ClassId} {s : St} {p : Nat} (h : kd p = 11) : cellE a cI cS s p = .inl (cS, 8, .inr (.inr (.inr (.inr (fun i => some (a (p + 1 + 2 * i))))))) := by
  unfold cellE
  rw [if_neg (by omega), if_pos h]
-- locals
def lset (L : List (Option Value)) (i : Nat) (v : Value) : List (Option Value) := match i with
  | 0 => L.set 0 (some v)
  | j + 1 => match L[j]? with
    | some (some (.long _)) => (L.set j none).set (j + 1) (some v)
    | some (some (.double _)) => (L.set j none).set (j + 1) (some v)
    | _ => L.set (j + 1) (some v)
def lset2 (L : List (Option Value)) (i : Nat) (v : Value) : List (Option Value) := (lset L i v).set (i + 1) none
def la : List Value → List (Option Value)
  | [] => []
  | v :: r => if v.category = 2 then some v :: none :: la r else some v :: la r
theorem lh_has {ls : Array Slot} {nL : Nat} {L : List (Option Value)} (h : lh ls nL L) : lv_has ls nL (L.zipIdx.filterMap (fun q => q.1.map (fun v => (q.2, v)))) := by
  refine ⟨h.1, h.2.1, fun q hq => ?_⟩
  obtain ⟨⟨o, i⟩, h1, h2⟩ := List.mem_filterMap.mp hq
  cases o with
  | none => cases h2
  | some v =>
    cases h2
    exact h.2.2 i v (List.mem_zipIdx_iff_getElem?.mp h1)
theorem lh_mem {L : List (Option Value)} {i : Nat} {v : Value} (h : L[i]? = some (some v)) : (i, v) ∈ L.zipIdx.filterMap (fun q => q.1.map (fun v => (q.2, v))) :=
  List.mem_filterMap.mpr ⟨(some v, i), List.mem_zipIdx_iff_getElem?.mpr h, rfl⟩
theorem lset_spec {L : List (Option Value)} {i : Nat} {v : Value} {j : Nat} {w : Value} (h : (lset L i v)[j]? = some (some w)) : (j = i ∧ w = v) ∨ (j ≠ i ∧ L[j]? = some (some w) ∧ ¬ (j + 1 = i ∧ w.category = 2)) := by
  by_cases e : j = i
  · left
    subst e
    refine ⟨rfl, ?_⟩
    unfold lset at h
    split at h
    · rw [List.getElem?_set] at h; simp at h; exact (h.2).symm
    · split at h <;> (rw [List.getElem?_set] at h; simp at h; exact (h.2).symm)
  · right
    refine ⟨e, ?_⟩
    unfold lset at h
    split at h
    · rw [List.getElem?_set_ne (fun z => e z.symm)] at h
      exact ⟨h, fun z => by omega⟩
    · rename_i i'
      split at h
      · rw [List.getElem?_set_ne (fun z => e z.symm), List.getElem?_set] at h
        by_cases e2 : i' = j
        · rw [if_pos e2] at h; split at h <;> cases h
        · rw [if_neg e2] at h; exact ⟨h, fun z => e2 (by omega)⟩
      · rw [List.getElem?_set_ne (fun z => e z.symm), List.getElem?_set] at h
        by_cases e2 : i' = j
        · rw [if_pos e2] at h; split at h <;> cases h
        · rw [if_neg e2] at h; exact ⟨h, fun z => e2 (by omega)⟩
      · rename_i n1 n2
        rw [List.getElem?_set_ne (fun z => e z.symm)] at h
        refine ⟨h, fun z => ?_⟩
        have e2 : j = i' := by omega
        subst e2
        cases w with
        | long x => exact n1 x h
        | double x => exact n2 x h
        | _ => exact absurd z.2 (by simp [Value.category])
theorem lh_set {ls : Array Slot} {nL : Nat} {L : List (Option Value)} {i : Nat} {v : Value} (h : lv_has ls nL ((i, v) :: (L.zipIdx.filterMap (fun q => q.1.map (fun v => (q.2, v)))).filter (fun q => !(q.1 == i) && !(q.1 + 1 == i && q.2.category == 2)))) : lh ls nL (lset L i v) := by
  refine ⟨h.1, h.2.1, fun j w hj => ?_⟩
  rcases lset_spec hj with ⟨rfl, rfl⟩ | ⟨h1, h2, h3⟩
  · exact h.2.2 _ List.mem_cons_self
  · refine h.2.2 (j, w) (List.mem_cons_of_mem _ (List.mem_filter.mpr ⟨lh_mem h2, ?_⟩))
    simp only [Bool.and_eq_true, Bool.not_eq_true', beq_eq_false_iff_ne, ne_eq, Bool.and_eq_false_iff]
    refine ⟨h1, ?_⟩
    by_cases z : j + 1 = i
    · exact Or.inr (fun c => h3 ⟨z, c⟩)
    · exact Or.inl z
theorem lh_set2 {ls : Array Slot} {nL : Nat} {L : List (Option Value)} {i : Nat} {v : Value} (h : lv_has ls nL ((i, v) :: (L.zipIdx.filterMap (fun q => q.1.map (fun v => (q.2, v)))).filter (fun q => !(q.1 == i) && (!(q.1 == i + 1) && !(q.1 + 1 == i && q.2.category == 2))))) : lh ls nL (lset2 L i v) := by
  refine ⟨h.1, h.2.1, fun j w hj => ?_⟩
  unfold lset2 at hj
  by_cases e : j = i + 1
  · subst e
    rw [List.getElem?_set] at hj
    simp at hj
  rw [List.getElem?_set_ne (fun z => e z.symm)] at hj
  rcases lset_spec hj with ⟨rfl, rfl⟩ | ⟨h1, h2, h3⟩
  · exact h.2.2 _ List.mem_cons_self
  · refine h.2.2 (j, w) (List.mem_cons_of_mem _ (List.mem_filter.mpr ⟨lh_mem h2, ?_⟩))
    simp only [Bool.and_eq_true, Bool.not_eq_true', beq_eq_false_iff_ne, ne_eq, Bool.and_eq_false_iff]
    refine ⟨h1, e, ?_⟩
    by_cases z : j + 1 = i
    · exact Or.inr (fun c => h3 ⟨z, c⟩)
    · exact Or.inl z
theorem la_args : ∀ (vs : List Value) (k i : Nat) (v : Value), (la vs)[i]? = some (some v) → (k + i, v) ∈ lv_args k vs
  | [], k, i, v, h => by simp [la] at h
  | w :: r, k, i, v, h => by
    unfold la at h
    unfold lv_args
    split at h
    · rename_i hc
      rw [if_pos hc]
      match i, h with
      | 0, h => simp at h; subst h; exact List.mem_cons_self
      | 1, h => simp at h
      | i + 2, h =>
        have := la_args r (k + 2) i v (by simpa using h)
        exact List.mem_cons_of_mem _ (by rw [show k + (i + 2) = k + 2 + i by omega]; exact this)
    · rename_i hc
      rw [if_neg hc]
      match i, h with
      | 0, h => simp at h; subst h; exact List.mem_cons_self
      | i + 1, h =>
        have := la_args r (k + 1) i v (by simpa using h)
        exact List.mem_cons_of_mem _ (by rw [show k + (i + 1) = k + 1 + i by omega]; exact this)
theorem lh_entry {vs : List Value} {n j : Nat} {ls : Array Slot} (h : lv_has ls n (lv_args 0 vs)) : lh ls n (la vs ++ List.replicate j none) := by
  refine ⟨h.1, h.2.1, fun i v hi => ?_⟩
  rw [List.getElem?_append] at hi
  split at hi
  · have := la_args vs 0 i v hi
    rw [Nat.zero_add] at this
    exact h.2.2 _ this
  · rw [List.getElem?_replicate] at hi
    split at hi <;> cases hi
theorem lh_sub {ls : Array Slot} {n : Nat} {L L' : List (Option Value)} (h : lh ls n L) (hs : ∀ (i : Nat) (v : Value), L'[i]? = some (some v) → L[i]? = some (some v)) : lh ls n L' := ⟨h.1, h.2.1, fun i v hi => h.2.2 i v (hs i v hi)⟩
/-- fewer locals known: checked by a walk of both lists -/
def lsub : List (Option Value) → List (Option Value) → Prop
  | _, [] => True
  | [], none :: r => lsub [] r
  | [], some _ :: _ => False
  | _ :: l, none :: r => lsub l r
  | x :: l, some v :: r => x = some v ∧ lsub l r
theorem lsub_at : ∀ (L L' : List (Option Value)), lsub L L' → ∀ (i : Nat) (v : Value), L'[i]? = some (some v) → L[i]? = some (some v)
  | _, [], _, i, v, h => by simp at h
  | [], none :: r, hs, 0, v, h => by simp at h
  | [], none :: r, hs, i + 1, v, h => by
    have := lsub_at [] r hs i v (by simpa using h)
    simp at this
  | [], some _ :: _, hs, _, _, _ => hs.elim
  | _ :: l, none :: r, hs, 0, v, h => by simp at h
  | _ :: l, none :: r, hs, i + 1, v, h => by
    have := lsub_at l r hs i v (by simpa using h)
    simpa using this
  | x :: l, some w :: r, hs, 0, v, h => by
    obtain ⟨rfl, -⟩ := hs
    simpa using h
  | x :: l, some w :: r, hs, i + 1, v, h => by
    have := lsub_at l r hs.2 i v (by simpa using h)
    simpa using this
end
section
/-! ONE ROW AN INSTRUCTION, over the world of places -/
section XR
variable {X : Xx} {cc : ByteArray} {own : String} {nL : Nat} {ret : Option FieldType} {rm : Room} {Q : State → Prop} {kc ks : Nat} {s : St} {pc : Nat} {L : List (Option Value)} {st : List Value}
theorem x_iconst (C : Cok X cc own nL ret rm) {n : Int} {v : Int32} (d : decode cc pc = .ok (.iconst n, 1)) (hv : Int32.ofInt n = v) (k : V X Q kc ks s (pc + 1) L (.int v :: st)) : V X Q kc ks s pc L st := fun H locs ls hP hS hl => lv_iconst C.1 C.2.1 d hv (k H locs ls hP hS hl)
theorem x_bipush (C : Cok X cc own nL ret rm) {n : Int} {v : Int32} (d : decode cc pc = .ok (.bipush n, 2)) (hv : (Int8.ofInt n).toInt32 = v) (k : V X Q kc ks s (pc + 2) L (.int v :: st)) : V X Q kc ks s pc L st := fun H locs ls hP hS hl => lv_bipush C.1 C.2.1 d hv (k H locs ls hP hS hl)
theorem x_sipush (C : Cok X cc own nL ret rm) {n : Int} {v : Int32} (d : decode cc pc = .ok (.sipush n, 3)) (hv : (Int16.ofInt n).toInt32 = v) (k : V X Q kc ks s (pc + 3) L (.int v :: st)) : V X Q kc ks s pc L st := fun H locs ls hP hS hl => lv_sipush C.1 C.2.1 d hv (k H locs ls hP hS hl)
theorem x_lconst (C : Cok X cc own nL ret rm) {n : Fin 2} {v : Int64} (d : decode cc pc = .ok (.lconst n, 1)) (hv : Int64.ofNat (n : Nat) = v) (k : V X Q kc ks s (pc + 1) L (.long v :: st)) : V X Q kc ks s pc L st := fun H locs ls hP hS hl => lv_lconst C.1 C.2.1 d hv (k H locs ls hP hS hl)
theorem x_ldc (C : Cok X cc own nL ret rm) {i : Nat} {v : Int32} (d : decode cc pc = .ok (.ldc i, 2)) (hc : Cond.constant own i v ∈ tbl) (k : V X Q kc ks s (pc + 2) L (.int v :: st)) : V X Q kc ks s pc L st := fun H locs ls hP hS hl => lv_ldc C.1 C.2.1 C.2.2.2.1 (C.2.2.2.2.1 _ hc) d (k H locs ls hP hS hl)
theorem x_ldc2 (C : Cok X cc own nL ret rm) {i : Nat} {v : Int64} (d : decode cc pc = .ok (.ldc2_w i, 3)) (hc : Cond.constantLong own i v ∈ tbl) (k : V X Q kc ks s (pc + 3) L (.long v :: st)) : V X Q kc ks s pc L st := fun H locs ls hP hS hl => lv_ldc2 C.1 C.2.1 C.2.2.2.1 (C.2.2.2.2.1 _ hc) d (k H locs ls hP hS hl)
theorem x_iload_n (C : Cok X cc own nL ret rm) {i : Fin 4} {x : Int32} (d : decode cc pc = .ok (.iload_n i, 1)) (h : L[(i : Nat)]? = some (some (.int x))) (k : V X Q kc ks s (pc + 1) L (.int x :: st)) : V X Q kc ks s pc L st := fun H locs ls hP hS hl => lv_iload_n C.1 C.2.1 d rfl (hl.2.2 _ _ h) (k H locs ls hP hS hl)
theorem x_iload (C : Cok X cc own nL ret rm) {i : Nat} {x : Int32} (d : decode cc pc = .ok (.iload i, 2)) (h : L[i]? = some (some (.int x))) (k : V X Q kc ks s (pc + 2) L (.int x :: st)) : V X Q kc ks s pc L st := fun H locs ls hP hS hl => lv_iload C.1 C.2.1 d (hl.2.2 _ _ h) (k H locs ls hP hS hl)
theorem x_lload_n (C : Cok X cc own nL ret rm) {i : Fin 4} {x : Int64} (d : decode cc pc = .ok (.lload_n i, 1)) (h : L[(i : Nat)]? = some (some (.long x))) (k : V X Q kc ks s (pc + 1) L (.long x :: st)) : V X Q kc ks s pc L st := fun H locs ls hP hS hl => lv_lload_n C.1 C.2.1 d rfl (hl.2.2 _ _ h) (k H locs ls hP hS hl)
theorem x_lload (C : Cok X cc own nL ret rm) {i : Nat} {x : Int64} (d : decode cc pc = .ok (.lload i, 2)) (h : L[i]? = some (some (.long x))) (k : V X Q kc ks s (pc + 2) L (.long x :: st)) : V X Q kc ks s pc L st := fun H locs ls hP hS hl => lv_lload C.1 C.2.1 d (hl.2.2 _ _ h) (k H locs ls hP hS hl)
theorem x_aload_n (C : Cok X cc own nL ret rm) {i : Fin 4} {x : Nat} (d : decode cc pc = .ok (.aload_n i, 1)) (h : L[(i : Nat)]? = some (some (.ref x))) (k : V X Q kc ks s (pc + 1) L (.ref x :: st)) : V X Q kc ks s pc L st := fun H locs ls hP hS hl => lv_aload_n C.1 C.2.1 d rfl (hl.2.2 _ _ h) (k H locs ls hP hS hl)
theorem x_aload (C : Cok X cc own nL ret rm) {i : Nat} {x : Nat} (d : decode cc pc = .ok (.aload i, 2)) (h : L[i]? = some (some (.ref x))) (k : V X Q kc ks s (pc + 2) L (.ref x :: st)) : V X Q kc ks s pc L st := fun H locs ls hP hS hl => lv_aload C.1 C.2.1 d (hl.2.2 _ _ h) (k H locs ls hP hS hl)
theorem x_istore_n (C : Cok X cc own nL ret rm) {i : Fin 4} {x : Int32} {L' : List (Option Value)} (d : decode cc pc = .ok (.istore_n i, 1)) (hi : (i : Nat) < nL) (hL : lset L i (.int x) = L') (k : V X Q kc ks s (pc + 1) L' st) : V X Q kc ks s pc L (.int x :: st) := fun H locs ls hP hS hl =>
  lv_istore_n C.1 C.2.1 d rfl (lh_has hl) (by rw [C.2.2.2.2.2.2.2.2.2.2]; exact hi) rfl (fun ls h => k H locs ls hP hS (by rw [← hL]; exact lh_set h))
theorem x_istore (C : Cok X cc own nL ret rm) {i : Nat} {x : Int32} {L' : List (Option Value)} (d : decode cc pc = .ok (.istore i, 2)) (hi : i < nL) (hL : lset L i (.int x) = L') (k : V X Q kc ks s (pc + 2) L' st) : V X Q kc ks s pc L (.int x :: st) := fun H locs ls hP hS hl =>
  lv_istore C.1 C.2.1 d (lh_has hl) (by rw [C.2.2.2.2.2.2.2.2.2.2]; exact hi) rfl (fun ls h => k H locs ls hP hS (by rw [← hL]; exact lh_set h))
theorem x_astore_n (C : Cok X cc own nL ret rm) {i : Fin 4} {x : Nat} {L' : List (Option Value)} (d : decode cc pc = .ok (.astore_n i, 1)) (hi : (i : Nat) < nL) (hL : lset L i (.ref x) = L') (k : V X Q kc ks s (pc + 1) L' st) : V X Q kc ks s pc L (.ref x :: st) := fun H locs ls hP hS hl =>
  lv_astore_n C.1 C.2.1 d rfl (lh_has hl) (by rw [C.2.2.2.2.2.2.2.2.2.2]; exact hi) rfl (fun ls h => k H locs ls hP hS (by rw [← hL]; exact lh_set h))
theorem x_astore (C : Cok X cc own nL ret rm) {i : Nat} {x : Nat} {L' : List (Option Value)} (d : decode cc pc = .ok (.astore i, 2)) (hi : i < nL) (hL : lset L i (.ref x) = L') (k : V X Q kc ks s (pc + 2) L' st) : V X Q kc ks s pc L (.ref x :: st) := fun H locs ls hP hS hl =>
  lv_astore C.1 C.2.1 d (lh_has hl) (by rw [C.2.2.2.2.2.2.2.2.2.2]; exact hi) rfl (fun ls h => k H locs ls hP hS (by rw [← hL]; exact lh_set h))
theorem x_lstore_n (C : Cok X cc own nL ret rm) {i : Fin 4} {x : Int64} {L' : List (Option Value)} (d : decode cc pc = .ok (.lstore_n i, 1)) (hi : (i : Nat) + 1 < nL) (hL : lset2 L i (.long x) = L') (k : V X Q kc ks s (pc + 1) L' st) : V X Q kc ks s pc L (.long x :: st) := fun H locs ls hP hS hl =>
  lv_lstore_n C.1 C.2.1 d rfl (lh_has hl) (by rw [C.2.2.2.2.2.2.2.2.2.2]; exact hi) rfl (fun ls h => k H locs ls hP hS (by rw [← hL]; exact lh_set2 h))
theorem x_lstore (C : Cok X cc own nL ret rm) {i : Nat} {x : Int64} {L' : List (Option Value)} (d : decode cc pc = .ok (.lstore i, 2)) (hi : i + 1 < nL) (hL : lset2 L i (.long x) = L') (k : V X Q kc ks s (pc + 2) L' st) : V X Q kc ks s pc L (.long x :: st) := fun H locs ls hP hS hl =>
  lv_lstore C.1 C.2.1 d (lh_has hl) (by rw [C.2.2.2.2.2.2.2.2.2.2]; exact hi) rfl (fun ls h => k H locs ls hP hS (by rw [← hL]; exact lh_set2 h))
theorem x_iinc (C : Cok X cc own nL ret rm) {i : Nat} {n : Int} {x v : Int32} {L' : List (Option Value)} (d : decode cc pc = .ok (.iinc i n, 3)) (hi : i < nL) (h : L[i]? = some (some (.int x))) (hv : x + Int32.ofInt n = v) (hL : lset L i (.int v) = L') (k : V X Q kc ks s (pc + 3) L' st) : V X Q kc ks s pc L st := fun H locs ls hP hS hl => by
  obtain ⟨j, hj⟩ := List.getElem?_of_mem (lh_mem h)
  exact lv_iinc C.1 C.2.1 d (lh_has hl) (k := j) hj hv (by rw [C.2.2.2.2.2.2.2.2.2.2]; exact hi) rfl (fun ls h => k H locs ls hP hS (by rw [← hL]; exact lh_set h))
theorem x_iadd (C : Cok X cc own nL ret rm) {x y : Int32} (d : decode cc pc = .ok (.iadd, 1)) (k : V X Q kc ks s (pc + 1) L (.int (x + y) :: st)) : V X Q kc ks s pc L (.int y :: .int x :: st) := fun H locs ls hP hS hl => lv_iadd C.1 C.2.1 d (k H locs ls hP hS hl)
theorem x_isub (C : Cok X cc own nL ret rm) {x y : Int32} (d : decode cc pc = .ok (.isub, 1)) (k : V X Q kc ks s (pc + 1) L (.int (x - y) :: st)) : V X Q kc ks s pc L (.int y :: .int x :: st) := fun H locs ls hP hS hl => lv_isub C.1 C.2.1 d (k H locs ls hP hS hl)
theorem x_imul (C : Cok X cc own nL ret rm) {x y : Int32} (d : decode cc pc = .ok (.imul, 1)) (k : V X Q kc ks s (pc + 1) L (.int (x * y) :: st)) : V X Q kc ks s pc L (.int y :: .int x :: st) := fun H locs ls hP hS hl => lv_imul C.1 C.2.1 d (k H locs ls hP hS hl)
theorem x_iand (C : Cok X cc own nL ret rm) {x y : Int32} (d : decode cc pc = .ok (.iand, 1)) (k : V X Q kc ks s (pc + 1) L (.int (x &&& y) :: st)) : V X Q kc ks s pc L (.int y :: .int x :: st) := fun H locs ls hP hS hl => lv_iand C.1 C.2.1 d (k H locs ls hP hS hl)
theorem x_ior (C : Cok X cc own nL ret rm) {x y : Int32} (d : decode cc pc = .ok (.ior, 1)) (k : V X Q kc ks s (pc + 1) L (.int (x ||| y) :: st)) : V X Q kc ks s pc L (.int y :: .int x :: st) := fun H locs ls hP hS hl => lv_ior C.1 C.2.1 d (k H locs ls hP hS hl)
theorem x_ixor (C : Cok X cc own nL ret rm) {x y : Int32} (d : decode cc pc = .ok (.ixor, 1)) (k : V X Q kc ks s (pc + 1) L (.int (x ^^^ y) :: st)) : V X Q kc ks s pc L (.int y :: .int x :: st) := fun H locs ls hP hS hl => lv_ixor C.1 C.2.1 d (k H locs ls hP hS hl)
theorem x_idiv (C : Cok X cc own nL ret rm) {x y : Int32} (d : decode cc pc = .ok (.idiv, 1)) (hn : ¬ y = 0) (k : V X Q kc ks s (pc + 1) L (.int (x / y) :: st)) : V X Q kc ks s pc L (.int y :: .int x :: st) := fun H locs ls hP hS hl => lv_idiv C.1 C.2.1 d hn (k H locs ls hP hS hl)
theorem x_irem (C : Cok X cc own nL ret rm) {x y : Int32} (d : decode cc pc = .ok (.irem, 1)) (hn : ¬ y = 0) (k : V X Q kc ks s (pc + 1) L (.int (x - x / y * y) :: st)) : V X Q kc ks s pc L (.int y :: .int x :: st) := fun H locs ls hP hS hl => lv_irem C.1 C.2.1 d hn (k H locs ls hP hS hl)
theorem x_ishl (C : Cok X cc own nL ret rm) {x y : Int32} (d : decode cc pc = .ok (.ishl, 1)) (k : V X Q kc ks s (pc + 1) L (.int (x <<< (y &&& 31)) :: st)) : V X Q kc ks s pc L (.int y :: .int x :: st) := fun H locs ls hP hS hl => lv_ishl C.1 C.2.1 d (k H locs ls hP hS hl)
theorem x_ishr (C : Cok X cc own nL ret rm) {x y : Int32} (d : decode cc pc = .ok (.ishr, 1)) (k : V X Q kc ks s (pc + 1) L (.int (x >>> (y &&& 31)) :: st)) : V X Q kc ks s pc L (.int y :: .int x :: st) := fun H locs ls hP hS hl => lv_ishr C.1 C.2.1 d (k H locs ls hP hS hl)
theorem x_iushr (C : Cok X cc own nL ret rm) {x y : Int32} (d : decode cc pc = .ok (.iushr, 1)) (k : V X Q kc ks s (pc + 1) L (.int ((x.toUInt32 >>> (y.toUInt32 &&& Int32.toUInt32 31)).toInt32) :: st)) : V X Q kc ks s pc L (.int y :: .int x :: st) := fun H locs ls hP hS hl => lv_iushr C.1 C.2.1 d rfl (k H locs ls hP hS hl)
theorem x_ladd (C : Cok X cc own nL ret rm) {x y : Int64} (d : decode cc pc = .ok (.ladd, 1)) (k : V X Q kc ks s (pc + 1) L (.long (x + y) :: st)) : V X Q kc ks s pc L (.long y :: .long x :: st) := fun H locs ls hP hS hl => lv_ladd C.1 C.2.1 d (k H locs ls hP hS hl)
theorem x_lmul (C : Cok X cc own nL ret rm) {x y : Int64} (d : decode cc pc = .ok (.lmul, 1)) (k : V X Q kc ks s (pc + 1) L (.long (x * y) :: st)) : V X Q kc ks s pc L (.long y :: .long x :: st) := fun H locs ls hP hS hl => lv_lmul C.1 C.2.1 d (k H locs ls hP hS hl)
theorem x_ldiv (C : Cok X cc own nL ret rm) {x y : Int64} (d : decode cc pc = .ok (.ldiv, 1)) (hn : ¬ y = 0) (k : V X Q kc ks s (pc + 1) L (.long (x / y) :: st)) : V X Q kc ks s pc L (.long y :: .long x :: st) := fun H locs ls hP hS hl => lv_ldiv C.1 C.2.1 d hn (k H locs ls hP hS hl)
theorem x_lrem (C : Cok X cc own nL ret rm) {x y : Int64} (d : decode cc pc = .ok (.lrem, 1)) (hn : ¬ y = 0) (k : V X Q kc ks s (pc + 1) L (.long (x - x / y * y) :: st)) : V X Q kc ks s pc L (.long y :: .long x :: st) := fun H locs ls hP hS hl => lv_lrem C.1 C.2.1 d hn (k H locs ls hP hS hl)
theorem x_i2l (C : Cok X cc own nL ret rm) {x : Int32} (d : decode cc pc = .ok (.i2l, 1)) (k : V X Q kc ks s (pc + 1) L (.long x.toInt64 :: st)) : V X Q kc ks s pc L (.int x :: st) := fun H locs ls hP hS hl => lv_i2l C.1 C.2.1 d rfl (k H locs ls hP hS hl)
theorem x_i2b (C : Cok X cc own nL ret rm) {x : Int32} (d : decode cc pc = .ok (.i2b, 1)) (k : V X Q kc ks s (pc + 1) L (.int x.toInt8.toInt32 :: st)) : V X Q kc ks s pc L (.int x :: st) := fun H locs ls hP hS hl => lv_i2b C.1 C.2.1 d rfl (k H locs ls hP hS hl)
theorem x_i2s (C : Cok X cc own nL ret rm) {x : Int32} (d : decode cc pc = .ok (.i2s, 1)) (k : V X Q kc ks s (pc + 1) L (.int x.toInt16.toInt32 :: st)) : V X Q kc ks s pc L (.int x :: st) := fun H locs ls hP hS hl => lv_i2s C.1 C.2.1 d rfl (k H locs ls hP hS hl)
theorem x_dup (C : Cok X cc own nL ret rm) {v : Value} (d : decode cc pc = .ok (.dup, 1)) (hc : v.category = 1) (k : V X Q kc ks s (pc + 1) L (v :: v :: st)) : V X Q kc ks s pc L (v :: st) := fun H locs ls hP hS hl => lv_dup C.1 C.2.1 d hc (k H locs ls hP hS hl)
theorem x_pop (C : Cok X cc own nL ret rm) {v : Value} (d : decode cc pc = .ok (.pop, 1)) (hc : v.category = 1) (k : V X Q kc ks s (pc + 1) L st) : V X Q kc ks s pc L (v :: st) := fun H locs ls hP hS hl => lv_pop C.1 C.2.1 d hc (k H locs ls hP hS hl)
theorem x_dup2 (C : Cok X cc own nL ret rm) {v w : Value} (d : decode cc pc = .ok (.dup2, 1)) (hc : v.category = 1) (hd : w.category = 1) (k : V X Q kc ks s (pc + 1) L (v :: w :: v :: w :: st)) : V X Q kc ks s pc L (v :: w :: st) := fun H locs ls hP hS hl => lv_dup2_11 C.1 C.2.1 d hc hd (k H locs ls hP hS hl)
theorem x_goto (C : Cok X cc own nL ret rm) {off : Int} {tgt : Nat} (d : decode cc pc = .ok (.goto off, 3)) (ht : (pc : Int) + off = (tgt : Int)) (k : V X Q kc ks s tgt L st) : V X Q kc ks s pc L st := fun H locs ls hP hS hl => lv_goto C.1 C.2.1 d ht (k H locs ls hP hS hl)
theorem x_nm {x : Int32} (k : ∀ y : Int32, y = x → V X Q kc ks s pc L (.int y :: st)) : V X Q kc ks s pc L (.int x :: st) := k x rfl
theorem x_nml {x : Int64} (k : ∀ y : Int64, y = x → V X Q kc ks s pc L (.long y :: st)) : V X Q kc ks s pc L (.long x :: st) := k x rfl
theorem x_sub {L' : List (Option Value)} (h : lsub L L') (k : V X Q kc ks s pc L' st) : V X Q kc ks s pc L st := fun H locs ls hP hS hl => k H locs ls hP hS (lh_sub hl (lsub_at L L' h))
end XR
end
section
section XB
variable {X : Xx} {cc : ByteArray} {own : String} {nL : Nat} {ret : Option FieldType} {rm : Room} {Q : State → Prop} {kc ks : Nat} {s : St} {pc : Nat} {L : List (Option Value)} {st : List Value}
theorem x_if_eq (C : Cok X cc own nL ret rm) {x : Int32} {off : Int} {tgt : Nat} (d : decode cc pc = .ok (.ifCond .eq off, 3)) (ht : (pc : Int) + off = (tgt : Int)) (kt : x = 0 → V X Q kc ks s tgt L st) (kf : ¬ x = 0 → V X Q kc ks s (pc + 3) L st) : V X Q kc ks s pc L (.int x :: st) := fun H locs ls hP hS hl => lv_if_eq C.1 C.2.1 d ht (fun h => kt h H locs ls hP hS hl) (fun h => kf h H locs ls hP hS hl)
theorem x_icmp_eq (C : Cok X cc own nL ret rm) {x y : Int32} {off : Int} {tgt : Nat} (d : decode cc pc = .ok (.if_icmp .eq off, 3)) (ht : (pc : Int) + off = (tgt : Int)) (kt : x = y → V X Q kc ks s tgt L st) (kf : ¬ x = y → V X Q kc ks s (pc + 3) L st) : V X Q kc ks s pc L (.int y :: .int x :: st) := fun H locs ls hP hS hl => lv_icmp_eq C.1 C.2.1 d ht (fun h => kt h H locs ls hP hS hl) (fun h => kf h H locs ls hP hS hl)
theorem x_if_ne (C : Cok X cc own nL ret rm) {x : Int32} {off : Int} {tgt : Nat} (d : decode cc pc = .ok (.ifCond .ne off, 3)) (ht : (pc : Int) + off = (tgt : Int)) (kt : ¬ x = 0 → V X Q kc ks s tgt L st) (kf : x = 0 → V X Q kc ks s (pc + 3) L st) : V X Q kc ks s pc L (.int x :: st) := fun H locs ls hP hS hl => lv_if_ne C.1 C.2.1 d ht (fun h => kt h H locs ls hP hS hl) (fun h => kf h H locs ls hP hS hl)
theorem x_icmp_ne (C : Cok X cc own nL ret rm) {x y : Int32} {off : Int} {tgt : Nat} (d : decode cc pc = .ok (.if_icmp .ne off, 3)) (ht : (pc : Int) + off = (tgt : Int)) (kt : ¬ x = y → V X Q kc ks s tgt L st) (kf : x = y → V X Q kc ks s (pc + 3) L st) : V X Q kc ks s pc L (.int y :: .int x :: st) := fun H locs ls hP hS hl => lv_icmp_ne C.1 C.2.1 d ht (fun h => kt h H locs ls hP hS hl) (fun h => kf h H locs ls hP hS hl)
theorem x_if_lt (C : Cok X cc own nL ret rm) {x : Int32} {off : Int} {tgt : Nat} (d : decode cc pc = .ok (.ifCond .lt off, 3)) (ht : (pc : Int) + off = (tgt : Int)) (kt : x < 0 → V X Q kc ks s tgt L st) (kf : ¬ x < 0 → V X Q kc ks s (pc + 3) L st) : V X Q kc ks s pc L (.int x :: st) := fun H locs ls hP hS hl => lv_if_lt C.1 C.2.1 d ht (fun h => kt h H locs ls hP hS hl) (fun h => kf h H locs ls hP hS hl)
theorem x_icmp_lt (C : Cok X cc own nL ret rm) {x y : Int32} {off : Int} {tgt : Nat} (d : decode cc pc = .ok (.if_icmp .lt off, 3)) (ht : (pc : Int) + off = (tgt : Int)) (kt : x < y → V X Q kc ks s tgt L st) (kf : ¬ x < y → V X Q kc ks s (pc + 3) L st) : V X Q kc ks s pc L (.int y :: .int x :: st) := fun H locs ls hP hS hl => lv_icmp_lt C.1 C.2.1 d ht (fun h => kt h H locs ls hP hS hl) (fun h => kf h H locs ls hP hS hl)
theorem x_if_ge (C : Cok X cc own nL ret rm) {x : Int32} {off : Int} {tgt : Nat} (d : decode cc pc = .ok (.ifCond .ge off, 3)) (ht : (pc : Int) + off = (tgt : Int)) (kt : 0 ≤ x → V X Q kc ks s tgt L st) (kf : ¬ 0 ≤ x → V X Q kc ks s (pc + 3) L st) : V X Q kc ks s pc L (.int x :: st) := fun H locs ls hP hS hl => lv_if_ge C.1 C.2.1 d ht (fun h => kt h H locs ls hP hS hl) (fun h => kf h H locs ls hP hS hl)
theorem x_icmp_ge (C : Cok X cc own nL ret rm) {x y : Int32} {off : Int} {tgt : Nat} (d : decode cc pc = .ok (.if_icmp .ge off, 3)) (ht : (pc : Int) + off = (tgt : Int)) (kt : y ≤ x → V X Q kc ks s tgt L st) (kf : ¬ y ≤ x → V X Q kc ks s (pc + 3) L st) : V X Q kc ks s pc L (.int y :: .int x :: st) := fun H locs ls hP hS hl => lv_icmp_ge C.1 C.2.1 d ht (fun h => kt h H locs ls hP hS hl) (fun h => kf h H locs ls hP hS hl)
theorem x_if_gt (C : Cok X cc own nL ret rm) {x : Int32} {off : Int} {tgt : Nat} (d : decode cc pc = .ok (.ifCond .gt off, 3)) (ht : (pc : Int) + off = (tgt : Int)) (kt : 0 < x → V X Q kc ks s tgt L st) (kf : ¬ 0 < x → V X Q kc ks s (pc + 3) L st) : V X Q kc ks s pc L (.int x :: st) := fun H locs ls hP hS hl => lv_if_gt C.1 C.2.1 d ht (fun h => kt h H locs ls hP hS hl) (fun h => kf h H locs ls hP hS hl)
theorem x_icmp_gt (C : Cok X cc own nL ret rm) {x y : Int32} {off : Int} {tgt : Nat} (d : decode cc pc = .ok (.if_icmp .gt off, 3)) (ht : (pc : Int) + off = (tgt : Int)) (kt : y < x → V X Q kc ks s tgt L st) (kf : ¬ y < x → V X Q kc ks s (pc + 3) L st) : V X Q kc ks s pc L (.int y :: .int x :: st) := fun H locs ls hP hS hl => lv_icmp_gt C.1 C.2.1 d ht (fun h => kt h H locs ls hP hS hl) (fun h => kf h H locs ls hP hS hl)
theorem x_if_le (C : Cok X cc own nL ret rm) {x : Int32} {off : Int} {tgt : Nat} (d : decode cc pc = .ok (.ifCond .le off, 3)) (ht : (pc : Int) + off = (tgt : Int)) (kt : x ≤ 0 → V X Q kc ks s tgt L st) (kf : ¬ x ≤ 0 → V X Q kc ks s (pc + 3) L st) : V X Q kc ks s pc L (.int x :: st) := fun H locs ls hP hS hl => lv_if_le C.1 C.2.1 d ht (fun h => kt h H locs ls hP hS hl) (fun h => kf h H locs ls hP hS hl)
theorem x_icmp_le (C : Cok X cc own nL ret rm) {x y : Int32} {off : Int} {tgt : Nat} (d : decode cc pc = .ok (.if_icmp .le off, 3)) (ht : (pc : Int) + off = (tgt : Int)) (kt : x ≤ y → V X Q kc ks s tgt L st) (kf : ¬ x ≤ y → V X Q kc ks s (pc + 3) L st) : V X Q kc ks s pc L (.int y :: .int x :: st) := fun H locs ls hP hS hl => lv_icmp_le C.1 C.2.1 d ht (fun h => kt h H locs ls hP hS hl) (fun h => kf h H locs ls hP hS hl)
theorem x_tswIn (C : Cok X cc own nL ret rm) {x v : Int32} {dflt lo hi off : Int} {offs : Array Int} {len tgt : Nat} (d : decode cc pc = .ok (.tableswitch dflt lo hi offs, len)) (hx : x = v) (h1 : ¬ v.toInt < lo) (h2 : ¬ hi < v.toInt) (ho : offs[(v.toInt - lo).toNat]? = some off) (ht : (pc : Int) + off = (tgt : Int)) (k : V X Q kc ks s tgt L st) : V X Q kc ks s pc L (.int x :: st) := fun H locs ls hP hS hl => by
  subst hx
  exact lv_tableIn C.1 C.2.1 d h1 h2 ho ht (k H locs ls hP hS hl)
theorem x_tswD (C : Cok X cc own nL ret rm) {x : Int32} {dflt lo hi : Int} {offs : Array Int} {len tgt : Nat} (d : decode cc pc = .ok (.tableswitch dflt lo hi offs, len)) (hall : ∀ j : Nat, (j : Int) < hi - lo + 1 → offs[j]? = some dflt ∨ ¬ x = Int32.ofInt (lo + j)) (ht : (pc : Int) + dflt = (tgt : Int)) (k : V X Q kc ks s tgt L st) : V X Q kc ks s pc L (.int x :: st) := fun H locs ls hP hS hl => by
  by_cases h1 : x.toInt < lo
  · exact lv_tableOut C.1 C.2.1 d (Or.inl h1) ht (k H locs ls hP hS hl)
  by_cases h2 : hi < x.toInt
  · exact lv_tableOut C.1 C.2.1 d (Or.inr h2) ht (k H locs ls hP hS hl)
  have e : lo + ((x.toInt - lo).toNat : Int) = x.toInt := by omega
  rcases hall (x.toInt - lo).toNat (by omega) with h | h
  · exact lv_tableIn C.1 C.2.1 d h1 h2 h ht (k H locs ls hP hS hl)
  · exact absurd (by rw [e, Int32.ofInt_toInt]) h
theorem x_lswIn (C : Cok X cc own nL ret rm) {x v : Int32} {dflt off : Int} {ps : Array (Int × Int)} {len tgt : Nat} (d : decode cc pc = .ok (.lookupswitch dflt ps, len)) (hp : (ps.toList.zip (ps.toList.drop 1)).all (fun (a, next) => a.1 < next.1) = true) (hx : x = v) (ho : Op.lookupswitch.offset ps.toList dflt v.toInt = off) (ht : (pc : Int) + off = (tgt : Int)) (k : V X Q kc ks s tgt L st) : V X Q kc ks s pc L (.int x :: st) := fun H locs ls hP hS hl => by
  subst hx
  exact lv_lookup C.1 C.2.1 d hp ho ht (k H locs ls hP hS hl)
theorem lsw_off (dflt v : Int) : ∀ ps : List (Int × Int), (∀ q ∈ ps, ¬ v = q.1) → Op.lookupswitch.offset ps dflt v = dflt
  | [], _ => rfl
  | (a, o) :: r, h => by
    rw [Op.lookupswitch.offset_cons, if_neg (fun z => h (a, o) List.mem_cons_self z.symm)]
    exact lsw_off dflt v r (fun q hq => h q (List.mem_cons_of_mem _ hq))
theorem x_lswD (C : Cok X cc own nL ret rm) {x : Int32} {dflt : Int} {ps : Array (Int × Int)} {len tgt : Nat} (d : decode cc pc = .ok (.lookupswitch dflt ps, len)) (hp : (ps.toList.zip (ps.toList.drop 1)).all (fun (a, next) => a.1 < next.1) = true) (hn : ∀ q ∈ ps.toList, ¬ x.toInt = q.1) (ht : (pc : Int) + dflt = (tgt : Int)) (k : V X Q kc ks s tgt L st) : V X Q kc ks s pc L (.int x :: st) := fun H locs ls hP hS hl =>
  lv_lookup C.1 C.2.1 d hp (lsw_off dflt x.toInt _ hn) ht (k H locs ls hP hS hl)
theorem ne_toInt {x v : Int32} (h : ¬ x = v) : ¬ x.toInt = v.toInt := fun e => h (Int32.toInt_inj.mp e)
end XB
-- cells by their kinds
theorem gw_obj {g : Gx} {s : St} {p k : Nat} (h : kd p = k) (h0 : 0 < k) (h1 : k < 11) : (gw g s)[p]? = some (ga g p, .inr (cellO (ga g) s p k)) := by
  unfold gw
  rw [wl_get _ _ _ _ (kd_lt (by omega)), cellE_obj h h1]
theorem gw_arr {g : Gx} {s : St} {p n : Nat} (h : kd p = 100 + n) : (gw g s)[p]? = some (ga g p, .inl (gI g, n, .inl (s p))) := by
  unfold gw
  rw [wl_get _ _ _ _ (kd_lt (by omega)), cellE_arr h]
theorem gw_she {g : Gx} {s : St} {p : Nat} (h : kd p = 11) : (gw g s)[p]? = some (ga g p, .inl (gS g, 8, .inr (.inr (.inr (.inr (fun i => some (ga g (p + 1 + 2 * i)))))))) := by
  unfold gw
  rw [wl_get _ _ _ _ (kd_lt (by omega)), cellE_she h]
theorem gw_put {g : Gx} {s : St} {p k j : Nat} {v : Int32} {e : Nat × List Value} (h : kd p = k) (h0 : 0 < k) (h1 : k < 11) (he : cellO (ga g) (wr s p j v) p k = e) : (gw g s).set p (ga g p, .inr e) = gw g (wr s p j v) :=
  wl_set (kd_lt (by omega)) (fun q i hq => wr_ne hq) (by rw [cellE_obj h h1, he])
theorem gw_ast {g : Gx} {s : St} {p n i : Nat} {v : Int32} (h : kd p = 100 + n) : (gw g s).set p (ga g p, .inl (gI g, n, .inl (upd (s p) i v))) = gw g (wr s p i v) :=
  wl_set (kd_lt (by omega)) (fun q i hq => wr_ne hq) (by rw [cellE_arr h, wr_row])
section XF
variable {X : Xx} {cc : ByteArray} {own : String} {nL : Nat} {ret : Option FieldType} {rm : Room} {Q : State → Prop} {kc ks : Nat} {s : St} {pc : Nat} {L : List (Option Value)} {st : List Value} {p : Nat}
theorem g_Best_0 (C : Cok X cc own nL ret rm) {i : Nat} (hk : kd p = 7) (hl : Cond.fieldLink own i "BreatheOut$BestOrder" "line" "[I" ∈ tbl) (d : decode cc pc = .ok (.getfield i, 3)) (k : V X Q kc ks s (pc + 3) L (.ref (xa X (p + 1)) :: st)) : V X Q kc ks s pc L (.ref (xa X p) :: st) := fun H locs ls hP hS hh =>
  va_get (D := gD (xg X)) (ci := 0) (v := .ref (xa X (p + 1))) (C := R_Best) (T := F_Best) (N := 5) C.1 C.2.1 C.2.2.2.2.1 i_Best C.2.2.2.1 C.2.2.2.2.2.1 hP p (gw_obj hk (by decide) (by decide)) rfl 0 (by decide) (C.2.2.2.2.1 _ hl) (fun _ h9 => h9) rfl d (k H locs ls hP hS hh)
theorem g_Best_1 (C : Cok X cc own nL ret rm) {i : Nat} (hk : kd p = 7) (hl : Cond.fieldLink own i "BreatheOut$BestOrder" "returned" "I" ∈ tbl) (d : decode cc pc = .ok (.getfield i, 3)) (k : V X Q kc ks s (pc + 3) L (.int (s p 1) :: st)) : V X Q kc ks s pc L (.ref (xa X p) :: st) := fun H locs ls hP hS hh =>
  va_get (D := gD (xg X)) (ci := 0) (v := .int (s p 1)) (C := R_Best) (T := F_Best) (N := 5) C.1 C.2.1 C.2.2.2.2.1 i_Best C.2.2.2.1 C.2.2.2.2.2.1 hP p (gw_obj hk (by decide) (by decide)) rfl 1 (by decide) (C.2.2.2.2.1 _ hl) (fun _ h9 => h9) rfl d (k H locs ls hP hS hh)
theorem p_Best_1 (C : Cok X cc own nL ret rm) {i : Nat} {v : Int32} (hk : kd p = 7) (hl : Cond.fieldLink own i "BreatheOut$BestOrder" "returned" "I" ∈ tbl) (d : decode cc pc = .ok (.putfield i, 3)) (k : V X Q kc ks (wr s p 1 v) (pc + 3) L st) : V X Q kc ks s pc L (.int v :: .ref (xa X p) :: st) := fun H locs ls hP hS hh =>
  va_put (D := gD (xg X)) (ci := 0) (v := .int v) (ty := .int) (C := R_Best) (T := F_Best) (N := 5) C.1 C.2.1 C.2.2.2.2.1 i_Best t_Best t_Best_ok n_Best C.2.2.2.1 C.2.2.2.2.2.1 hP (C.2.2.2.2.2.2.1 s) hS p (gw_obj hk (by decide) (by decide)) rfl 1 (by decide) (C.2.2.2.2.1 _ hl) (fun _ h9 => h9) rfl (by decide +kernel) rfl rfl (Nat.le_of_ble_eq_true rfl) d (fun H1 locs1 hP1 hD1 hS1 => k H1 locs1 ls (by rw [← gw_put (g := xg X) (s := s) (j := 1) (v := v) hk (by decide) (by decide) rfl]; simpa [cellO, wr] using hP1) hS1 hh)
theorem g_Best_2 (C : Cok X cc own nL ret rm) {i : Nat} (hk : kd p = 7) (hl : Cond.fieldLink own i "BreatheOut$BestOrder" "tried" "[I" ∈ tbl) (d : decode cc pc = .ok (.getfield i, 3)) (k : V X Q kc ks s (pc + 3) L (.ref (xa X (p + 2)) :: st)) : V X Q kc ks s pc L (.ref (xa X p) :: st) := fun H locs ls hP hS hh =>
  va_get (D := gD (xg X)) (ci := 0) (v := .ref (xa X (p + 2))) (C := R_Best) (T := F_Best) (N := 5) C.1 C.2.1 C.2.2.2.2.1 i_Best C.2.2.2.1 C.2.2.2.2.2.1 hP p (gw_obj hk (by decide) (by decide)) rfl 2 (by decide) (C.2.2.2.2.1 _ hl) (fun _ h9 => h9) rfl d (k H locs ls hP hS hh)
theorem g_Best_3 (C : Cok X cc own nL ret rm) {i : Nat} (hk : kd p = 7) (hl : Cond.fieldLink own i "BreatheOut$BestOrder" "clock" "I" ∈ tbl) (d : decode cc pc = .ok (.getfield i, 3)) (k : V X Q kc ks s (pc + 3) L (.int (s p 3) :: st)) : V X Q kc ks s pc L (.ref (xa X p) :: st) := fun H locs ls hP hS hh =>
  va_get (D := gD (xg X)) (ci := 0) (v := .int (s p 3)) (C := R_Best) (T := F_Best) (N := 5) C.1 C.2.1 C.2.2.2.2.1 i_Best C.2.2.2.1 C.2.2.2.2.2.1 hP p (gw_obj hk (by decide) (by decide)) rfl 3 (by decide) (C.2.2.2.2.1 _ hl) (fun _ h9 => h9) rfl d (k H locs ls hP hS hh)
theorem p_Best_3 (C : Cok X cc own nL ret rm) {i : Nat} {v : Int32} (hk : kd p = 7) (hl : Cond.fieldLink own i "BreatheOut$BestOrder" "clock" "I" ∈ tbl) (d : decode cc pc = .ok (.putfield i, 3)) (k : V X Q kc ks (wr s p 3 v) (pc + 3) L st) : V X Q kc ks s pc L (.int v :: .ref (xa X p) :: st) := fun H locs ls hP hS hh =>
  va_put (D := gD (xg X)) (ci := 0) (v := .int v) (ty := .int) (C := R_Best) (T := F_Best) (N := 5) C.1 C.2.1 C.2.2.2.2.1 i_Best t_Best t_Best_ok n_Best C.2.2.2.1 C.2.2.2.2.2.1 hP (C.2.2.2.2.2.2.1 s) hS p (gw_obj hk (by decide) (by decide)) rfl 3 (by decide) (C.2.2.2.2.1 _ hl) (fun _ h9 => h9) rfl (by decide +kernel) rfl rfl (Nat.le_of_ble_eq_true rfl) d (fun H1 locs1 hP1 hD1 hS1 => k H1 locs1 ls (by rw [← gw_put (g := xg X) (s := s) (j := 3) (v := v) hk (by decide) (by decide) rfl]; simpa [cellO, wr] using hP1) hS1 hh)
theorem g_Best_4 (C : Cok X cc own nL ret rm) {i : Nat} (hk : kd p = 7) (hl : Cond.fieldLink own i "BreatheOut$BestOrder" "known" "Z" ∈ tbl) (d : decode cc pc = .ok (.getfield i, 3)) (k : V X Q kc ks s (pc + 3) L (.int (s p 4) :: st)) : V X Q kc ks s pc L (.ref (xa X p) :: st) := fun H locs ls hP hS hh =>
  va_get (D := gD (xg X)) (ci := 0) (v := .int (s p 4)) (C := R_Best) (T := F_Best) (N := 5) C.1 C.2.1 C.2.2.2.2.1 i_Best C.2.2.2.1 C.2.2.2.2.2.1 hP p (gw_obj hk (by decide) (by decide)) rfl 4 (by decide) (C.2.2.2.2.1 _ hl) (fun _ h9 => h9) rfl d (k H locs ls hP hS hh)
theorem p_Best_4 (C : Cok X cc own nL ret rm) {i : Nat} {v : Int32} (hk : kd p = 7) (hl : Cond.fieldLink own i "BreatheOut$BestOrder" "known" "Z" ∈ tbl) (hz : narrow .boolean (.int v) = .int v ∧ fits .boolean (.int v) = true) (d : decode cc pc = .ok (.putfield i, 3)) (k : V X Q kc ks (wr s p 4 v) (pc + 3) L st) : V X Q kc ks s pc L (.int v :: .ref (xa X p) :: st) := fun H locs ls hP hS hh =>
  va_put (D := gD (xg X)) (ci := 0) (v := .int v) (ty := .boolean) (C := R_Best) (T := F_Best) (N := 5) C.1 C.2.1 C.2.2.2.2.1 i_Best t_Best t_Best_ok n_Best C.2.2.2.1 C.2.2.2.2.2.1 hP (C.2.2.2.2.2.2.1 s) hS p (gw_obj hk (by decide) (by decide)) rfl 4 (by decide) (C.2.2.2.2.1 _ hl) (fun _ h9 => h9) rfl (by decide +kernel) hz.1 hz.2 (Nat.le_of_ble_eq_true rfl) d (fun H1 locs1 hP1 hD1 hS1 => k H1 locs1 ls (by rw [← gw_put (g := xg X) (s := s) (j := 4) (v := v) hk (by decide) (by decide) rfl]; simpa [cellO, wr] using hP1) hS1 hh)
theorem g_Bod_0 (C : Cok X cc own nL ret rm) {i : Nat} (hk : kd p = 4) (hl : Cond.fieldLink own i "BreatheOut$Bodies" "count" "I" ∈ tbl) (d : decode cc pc = .ok (.getfield i, 3)) (k : V X Q kc ks s (pc + 3) L (.int (s p 0) :: st)) : V X Q kc ks s pc L (.ref (xa X p) :: st) := fun H locs ls hP hS hh =>
  va_get (D := gD (xg X)) (ci := 1) (v := .int (s p 0)) (C := R_Bod) (T := F_Bod) (N := 7) C.1 C.2.1 C.2.2.2.2.1 i_Bod C.2.2.2.1 C.2.2.2.2.2.1 hP p (gw_obj hk (by decide) (by decide)) rfl 0 (by decide) (C.2.2.2.2.1 _ hl) (fun _ h9 => h9) rfl d (k H locs ls hP hS hh)
theorem p_Bod_0 (C : Cok X cc own nL ret rm) {i : Nat} {v : Int32} (hk : kd p = 4) (hl : Cond.fieldLink own i "BreatheOut$Bodies" "count" "I" ∈ tbl) (d : decode cc pc = .ok (.putfield i, 3)) (k : V X Q kc ks (wr s p 0 v) (pc + 3) L st) : V X Q kc ks s pc L (.int v :: .ref (xa X p) :: st) := fun H locs ls hP hS hh =>
  va_put (D := gD (xg X)) (ci := 1) (v := .int v) (ty := .int) (C := R_Bod) (T := F_Bod) (N := 7) C.1 C.2.1 C.2.2.2.2.1 i_Bod t_Bod t_Bod_ok n_Bod C.2.2.2.1 C.2.2.2.2.2.1 hP (C.2.2.2.2.2.2.1 s) hS p (gw_obj hk (by decide) (by decide)) rfl 0 (by decide) (C.2.2.2.2.1 _ hl) (fun _ h9 => h9) rfl (by decide +kernel) rfl rfl (Nat.le_of_ble_eq_true rfl) d (fun H1 locs1 hP1 hD1 hS1 => k H1 locs1 ls (by rw [← gw_put (g := xg X) (s := s) (j := 0) (v := v) hk (by decide) (by decide) rfl]; simpa [cellO, wr] using hP1) hS1 hh)
theorem g_Bod_1 (C : Cok X cc own nL ret rm) {i : Nat} (hk : kd p = 4) (hl : Cond.fieldLink own i "BreatheOut$Bodies" "chest" "[I" ∈ tbl) (d : decode cc pc = .ok (.getfield i, 3)) (k : V X Q kc ks s (pc + 3) L (.ref (xa X (p + 1)) :: st)) : V X Q kc ks s pc L (.ref (xa X p) :: st) := fun H locs ls hP hS hh =>
  va_get (D := gD (xg X)) (ci := 1) (v := .ref (xa X (p + 1))) (C := R_Bod) (T := F_Bod) (N := 7) C.1 C.2.1 C.2.2.2.2.1 i_Bod C.2.2.2.1 C.2.2.2.2.2.1 hP p (gw_obj hk (by decide) (by decide)) rfl 1 (by decide) (C.2.2.2.2.1 _ hl) (fun _ h9 => h9) rfl d (k H locs ls hP hS hh)
theorem g_Bod_2 (C : Cok X cc own nL ret rm) {i : Nat} (hk : kd p = 4) (hl : Cond.fieldLink own i "BreatheOut$Bodies" "out" "[I" ∈ tbl) (d : decode cc pc = .ok (.getfield i, 3)) (k : V X Q kc ks s (pc + 3) L (.ref (xa X (p + 2)) :: st)) : V X Q kc ks s pc L (.ref (xa X p) :: st) := fun H locs ls hP hS hh =>
  va_get (D := gD (xg X)) (ci := 1) (v := .ref (xa X (p + 2))) (C := R_Bod) (T := F_Bod) (N := 7) C.1 C.2.1 C.2.2.2.2.1 i_Bod C.2.2.2.1 C.2.2.2.2.2.1 hP p (gw_obj hk (by decide) (by decide)) rfl 2 (by decide) (C.2.2.2.2.1 _ hl) (fun _ h9 => h9) rfl d (k H locs ls hP hS hh)
theorem g_Bod_3 (C : Cok X cc own nL ret rm) {i : Nat} (hk : kd p = 4) (hl : Cond.fieldLink own i "BreatheOut$Bodies" "fear" "[I" ∈ tbl) (d : decode cc pc = .ok (.getfield i, 3)) (k : V X Q kc ks s (pc + 3) L (.ref (xa X (p + 3)) :: st)) : V X Q kc ks s pc L (.ref (xa X p) :: st) := fun H locs ls hP hS hh =>
  va_get (D := gD (xg X)) (ci := 1) (v := .ref (xa X (p + 3))) (C := R_Bod) (T := F_Bod) (N := 7) C.1 C.2.1 C.2.2.2.2.1 i_Bod C.2.2.2.1 C.2.2.2.2.2.1 hP p (gw_obj hk (by decide) (by decide)) rfl 3 (by decide) (C.2.2.2.2.1 _ hl) (fun _ h9 => h9) rfl d (k H locs ls hP hS hh)
theorem g_Bod_4 (C : Cok X cc own nL ret rm) {i : Nat} (hk : kd p = 4) (hl : Cond.fieldLink own i "BreatheOut$Bodies" "pull" "[I" ∈ tbl) (d : decode cc pc = .ok (.getfield i, 3)) (k : V X Q kc ks s (pc + 3) L (.ref (xa X (p + 4)) :: st)) : V X Q kc ks s pc L (.ref (xa X p) :: st) := fun H locs ls hP hS hh =>
  va_get (D := gD (xg X)) (ci := 1) (v := .ref (xa X (p + 4))) (C := R_Bod) (T := F_Bod) (N := 7) C.1 C.2.1 C.2.2.2.2.1 i_Bod C.2.2.2.1 C.2.2.2.2.2.1 hP p (gw_obj hk (by decide) (by decide)) rfl 4 (by decide) (C.2.2.2.2.1 _ hl) (fun _ h9 => h9) rfl d (k H locs ls hP hS hh)
theorem g_Bod_5 (C : Cok X cc own nL ret rm) {i : Nat} (hk : kd p = 4) (hl : Cond.fieldLink own i "BreatheOut$Bodies" "posture" "[I" ∈ tbl) (d : decode cc pc = .ok (.getfield i, 3)) (k : V X Q kc ks s (pc + 3) L (.ref (xa X (p + 5)) :: st)) : V X Q kc ks s pc L (.ref (xa X p) :: st) := fun H locs ls hP hS hh =>
  va_get (D := gD (xg X)) (ci := 1) (v := .ref (xa X (p + 5))) (C := R_Bod) (T := F_Bod) (N := 7) C.1 C.2.1 C.2.2.2.2.1 i_Bod C.2.2.2.1 C.2.2.2.2.2.1 hP p (gw_obj hk (by decide) (by decide)) rfl 5 (by decide) (C.2.2.2.2.1 _ hl) (fun _ h9 => h9) rfl d (k H locs ls hP hS hh)
theorem g_Bod_6 (C : Cok X cc own nL ret rm) {i : Nat} (hk : kd p = 4) (hl : Cond.fieldLink own i "BreatheOut$Bodies" "line" "[I" ∈ tbl) (d : decode cc pc = .ok (.getfield i, 3)) (k : V X Q kc ks s (pc + 3) L (.ref (xa X (p + 6)) :: st)) : V X Q kc ks s pc L (.ref (xa X p) :: st) := fun H locs ls hP hS hh =>
  va_get (D := gD (xg X)) (ci := 1) (v := .ref (xa X (p + 6))) (C := R_Bod) (T := F_Bod) (N := 7) C.1 C.2.1 C.2.2.2.2.1 i_Bod C.2.2.2.1 C.2.2.2.2.2.1 hP p (gw_obj hk (by decide) (by decide)) rfl 6 (by decide) (C.2.2.2.2.1 _ hl) (fun _ h9 => h9) rfl d (k H locs ls hP hS hh)
theorem g_Cav_0 (C : Cok X cc own nL ret rm) {i : Nat} (hk : kd p = 2) (hl : Cond.fieldLink own i "BreatheOut$Cave" "yards" "LBreatheOut$Yards;" ∈ tbl) (d : decode cc pc = .ok (.getfield i, 3)) (k : V X Q kc ks s (pc + 3) L (.ref (xa X (p + 1)) :: st)) : V X Q kc ks s pc L (.ref (xa X p) :: st) := fun H locs ls hP hS hh =>
  va_get (D := gD (xg X)) (ci := 2) (v := .ref (xa X (p + 1))) (C := R_Cav) (T := F_Cav) (N := 6) C.1 C.2.1 C.2.2.2.2.1 i_Cav C.2.2.2.1 C.2.2.2.2.2.1 hP p (gw_obj hk (by decide) (by decide)) rfl 0 (by decide) (C.2.2.2.2.1 _ hl) (fun _ h9 => h9) rfl d (k H locs ls hP hS hh)
theorem g_Cav_1 (C : Cok X cc own nL ret rm) {i : Nat} (hk : kd p = 2) (hl : Cond.fieldLink own i "BreatheOut$Cave" "bodies" "LBreatheOut$Bodies;" ∈ tbl) (d : decode cc pc = .ok (.getfield i, 3)) (k : V X Q kc ks s (pc + 3) L (.ref (xa X (p + 10)) :: st)) : V X Q kc ks s pc L (.ref (xa X p) :: st) := fun H locs ls hP hS hh =>
  va_get (D := gD (xg X)) (ci := 2) (v := .ref (xa X (p + 10))) (C := R_Cav) (T := F_Cav) (N := 6) C.1 C.2.1 C.2.2.2.2.1 i_Cav C.2.2.2.1 C.2.2.2.2.2.1 hP p (gw_obj hk (by decide) (by decide)) rfl 1 (by decide) (C.2.2.2.2.1 _ hl) (fun _ h9 => h9) rfl d (k H locs ls hP hS hh)
theorem g_Cav_2 (C : Cok X cc own nL ret rm) {i : Nat} (hk : kd p = 2) (hl : Cond.fieldLink own i "BreatheOut$Cave" "rise" "I" ∈ tbl) (d : decode cc pc = .ok (.getfield i, 3)) (k : V X Q kc ks s (pc + 3) L (.int (s p 2) :: st)) : V X Q kc ks s pc L (.ref (xa X p) :: st) := fun H locs ls hP hS hh =>
  va_get (D := gD (xg X)) (ci := 2) (v := .int (s p 2)) (C := R_Cav) (T := F_Cav) (N := 6) C.1 C.2.1 C.2.2.2.2.1 i_Cav C.2.2.2.1 C.2.2.2.2.2.1 hP p (gw_obj hk (by decide) (by decide)) rfl 2 (by decide) (C.2.2.2.2.1 _ hl) (fun _ h9 => h9) rfl d (k H locs ls hP hS hh)
theorem p_Cav_2 (C : Cok X cc own nL ret rm) {i : Nat} {v : Int32} (hk : kd p = 2) (hl : Cond.fieldLink own i "BreatheOut$Cave" "rise" "I" ∈ tbl) (d : decode cc pc = .ok (.putfield i, 3)) (k : V X Q kc ks (wr s p 2 v) (pc + 3) L st) : V X Q kc ks s pc L (.int v :: .ref (xa X p) :: st) := fun H locs ls hP hS hh =>
  va_put (D := gD (xg X)) (ci := 2) (v := .int v) (ty := .int) (C := R_Cav) (T := F_Cav) (N := 6) C.1 C.2.1 C.2.2.2.2.1 i_Cav t_Cav t_Cav_ok n_Cav C.2.2.2.1 C.2.2.2.2.2.1 hP (C.2.2.2.2.2.2.1 s) hS p (gw_obj hk (by decide) (by decide)) rfl 2 (by decide) (C.2.2.2.2.1 _ hl) (fun _ h9 => h9) rfl (by decide +kernel) rfl rfl (Nat.le_of_ble_eq_true rfl) d (fun H1 locs1 hP1 hD1 hS1 => k H1 locs1 ls (by rw [← gw_put (g := xg X) (s := s) (j := 2) (v := v) hk (by decide) (by decide) rfl]; simpa [cellO, wr] using hP1) hS1 hh)
theorem g_Cav_3 (C : Cok X cc own nL ret rm) {i : Nat} (hk : kd p = 2) (hl : Cond.fieldLink own i "BreatheOut$Cave" "calm" "I" ∈ tbl) (d : decode cc pc = .ok (.getfield i, 3)) (k : V X Q kc ks s (pc + 3) L (.int (s p 3) :: st)) : V X Q kc ks s pc L (.ref (xa X p) :: st) := fun H locs ls hP hS hh =>
  va_get (D := gD (xg X)) (ci := 2) (v := .int (s p 3)) (C := R_Cav) (T := F_Cav) (N := 6) C.1 C.2.1 C.2.2.2.2.1 i_Cav C.2.2.2.1 C.2.2.2.2.2.1 hP p (gw_obj hk (by decide) (by decide)) rfl 3 (by decide) (C.2.2.2.2.1 _ hl) (fun _ h9 => h9) rfl d (k H locs ls hP hS hh)
theorem p_Cav_3 (C : Cok X cc own nL ret rm) {i : Nat} {v : Int32} (hk : kd p = 2) (hl : Cond.fieldLink own i "BreatheOut$Cave" "calm" "I" ∈ tbl) (d : decode cc pc = .ok (.putfield i, 3)) (k : V X Q kc ks (wr s p 3 v) (pc + 3) L st) : V X Q kc ks s pc L (.int v :: .ref (xa X p) :: st) := fun H locs ls hP hS hh =>
  va_put (D := gD (xg X)) (ci := 2) (v := .int v) (ty := .int) (C := R_Cav) (T := F_Cav) (N := 6) C.1 C.2.1 C.2.2.2.2.1 i_Cav t_Cav t_Cav_ok n_Cav C.2.2.2.1 C.2.2.2.2.2.1 hP (C.2.2.2.2.2.2.1 s) hS p (gw_obj hk (by decide) (by decide)) rfl 3 (by decide) (C.2.2.2.2.1 _ hl) (fun _ h9 => h9) rfl (by decide +kernel) rfl rfl (Nat.le_of_ble_eq_true rfl) d (fun H1 locs1 hP1 hD1 hS1 => k H1 locs1 ls (by rw [← gw_put (g := xg X) (s := s) (j := 3) (v := v) hk (by decide) (by decide) rfl]; simpa [cellO, wr] using hP1) hS1 hh)
theorem g_Cav_4 (C : Cok X cc own nL ret rm) {i : Nat} (hk : kd p = 2) (hl : Cond.fieldLink own i "BreatheOut$Cave" "light" "I" ∈ tbl) (d : decode cc pc = .ok (.getfield i, 3)) (k : V X Q kc ks s (pc + 3) L (.int (s p 4) :: st)) : V X Q kc ks s pc L (.ref (xa X p) :: st) := fun H locs ls hP hS hh =>
  va_get (D := gD (xg X)) (ci := 2) (v := .int (s p 4)) (C := R_Cav) (T := F_Cav) (N := 6) C.1 C.2.1 C.2.2.2.2.1 i_Cav C.2.2.2.1 C.2.2.2.2.2.1 hP p (gw_obj hk (by decide) (by decide)) rfl 4 (by decide) (C.2.2.2.2.1 _ hl) (fun _ h9 => h9) rfl d (k H locs ls hP hS hh)
theorem p_Cav_4 (C : Cok X cc own nL ret rm) {i : Nat} {v : Int32} (hk : kd p = 2) (hl : Cond.fieldLink own i "BreatheOut$Cave" "light" "I" ∈ tbl) (d : decode cc pc = .ok (.putfield i, 3)) (k : V X Q kc ks (wr s p 4 v) (pc + 3) L st) : V X Q kc ks s pc L (.int v :: .ref (xa X p) :: st) := fun H locs ls hP hS hh =>
  va_put (D := gD (xg X)) (ci := 2) (v := .int v) (ty := .int) (C := R_Cav) (T := F_Cav) (N := 6) C.1 C.2.1 C.2.2.2.2.1 i_Cav t_Cav t_Cav_ok n_Cav C.2.2.2.1 C.2.2.2.2.2.1 hP (C.2.2.2.2.2.2.1 s) hS p (gw_obj hk (by decide) (by decide)) rfl 4 (by decide) (C.2.2.2.2.1 _ hl) (fun _ h9 => h9) rfl (by decide +kernel) rfl rfl (Nat.le_of_ble_eq_true rfl) d (fun H1 locs1 hP1 hD1 hS1 => k H1 locs1 ls (by rw [← gw_put (g := xg X) (s := s) (j := 4) (v := v) hk (by decide) (by decide) rfl]; simpa [cellO, wr] using hP1) hS1 hh)
theorem g_Cav_5 (C : Cok X cc own nL ret rm) {i : Nat} (hk : kd p = 2) (hl : Cond.fieldLink own i "BreatheOut$Cave" "clock" "I" ∈ tbl) (d : decode cc pc = .ok (.getfield i, 3)) (k : V X Q kc ks s (pc + 3) L (.int (s p 5) :: st)) : V X Q kc ks s pc L (.ref (xa X p) :: st) := fun H locs ls hP hS hh =>
  va_get (D := gD (xg X)) (ci := 2) (v := .int (s p 5)) (C := R_Cav) (T := F_Cav) (N := 6) C.1 C.2.1 C.2.2.2.2.1 i_Cav C.2.2.2.1 C.2.2.2.2.2.1 hP p (gw_obj hk (by decide) (by decide)) rfl 5 (by decide) (C.2.2.2.2.1 _ hl) (fun _ h9 => h9) rfl d (k H locs ls hP hS hh)
theorem p_Cav_5 (C : Cok X cc own nL ret rm) {i : Nat} {v : Int32} (hk : kd p = 2) (hl : Cond.fieldLink own i "BreatheOut$Cave" "clock" "I" ∈ tbl) (d : decode cc pc = .ok (.putfield i, 3)) (k : V X Q kc ks (wr s p 5 v) (pc + 3) L st) : V X Q kc ks s pc L (.int v :: .ref (xa X p) :: st) := fun H locs ls hP hS hh =>
  va_put (D := gD (xg X)) (ci := 2) (v := .int v) (ty := .int) (C := R_Cav) (T := F_Cav) (N := 6) C.1 C.2.1 C.2.2.2.2.1 i_Cav t_Cav t_Cav_ok n_Cav C.2.2.2.1 C.2.2.2.2.2.1 hP (C.2.2.2.2.2.2.1 s) hS p (gw_obj hk (by decide) (by decide)) rfl 5 (by decide) (C.2.2.2.2.1 _ hl) (fun _ h9 => h9) rfl (by decide +kernel) rfl rfl (Nat.le_of_ble_eq_true rfl) d (fun H1 locs1 hP1 hD1 hS1 => k H1 locs1 ls (by rw [← gw_put (g := xg X) (s := s) (j := 5) (v := v) hk (by decide) (by decide) rfl]; simpa [cellO, wr] using hP1) hS1 hh)
theorem g_Leg_0 (C : Cok X cc own nL ret rm) {i : Nat} (hk : kd p = 6) (hl : Cond.fieldLink own i "BreatheOut$Leg" "arrived" "I" ∈ tbl) (d : decode cc pc = .ok (.getfield i, 3)) (k : V X Q kc ks s (pc + 3) L (.int (s p 0) :: st)) : V X Q kc ks s pc L (.ref (xa X p) :: st) := fun H locs ls hP hS hh =>
  va_get (D := gD (xg X)) (ci := 3) (v := .int (s p 0)) (C := R_Leg) (T := F_Leg) (N := 7) C.1 C.2.1 C.2.2.2.2.1 i_Leg C.2.2.2.1 C.2.2.2.2.2.1 hP p (gw_obj hk (by decide) (by decide)) rfl 0 (by decide) (C.2.2.2.2.1 _ hl) (fun _ h9 => h9) rfl d (k H locs ls hP hS hh)
theorem p_Leg_0 (C : Cok X cc own nL ret rm) {i : Nat} {v : Int32} (hk : kd p = 6) (hl : Cond.fieldLink own i "BreatheOut$Leg" "arrived" "I" ∈ tbl) (d : decode cc pc = .ok (.putfield i, 3)) (k : V X Q kc ks (wr s p 0 v) (pc + 3) L st) : V X Q kc ks s pc L (.int v :: .ref (xa X p) :: st) := fun H locs ls hP hS hh =>
  va_put (D := gD (xg X)) (ci := 3) (v := .int v) (ty := .int) (C := R_Leg) (T := F_Leg) (N := 7) C.1 C.2.1 C.2.2.2.2.1 i_Leg t_Leg t_Leg_ok n_Leg C.2.2.2.1 C.2.2.2.2.2.1 hP (C.2.2.2.2.2.2.1 s) hS p (gw_obj hk (by decide) (by decide)) rfl 0 (by decide) (C.2.2.2.2.1 _ hl) (fun _ h9 => h9) rfl (by decide +kernel) rfl rfl (Nat.le_of_ble_eq_true rfl) d (fun H1 locs1 hP1 hD1 hS1 => k H1 locs1 ls (by rw [← gw_put (g := xg X) (s := s) (j := 0) (v := v) hk (by decide) (by decide) rfl]; simpa [cellO, wr] using hP1) hS1 hh)
theorem g_Leg_1 (C : Cok X cc own nL ret rm) {i : Nat} (hk : kd p = 6) (hl : Cond.fieldLink own i "BreatheOut$Leg" "arrivals" "I" ∈ tbl) (d : decode cc pc = .ok (.getfield i, 3)) (k : V X Q kc ks s (pc + 3) L (.int (s p 1) :: st)) : V X Q kc ks s pc L (.ref (xa X p) :: st) := fun H locs ls hP hS hh =>
  va_get (D := gD (xg X)) (ci := 3) (v := .int (s p 1)) (C := R_Leg) (T := F_Leg) (N := 7) C.1 C.2.1 C.2.2.2.2.1 i_Leg C.2.2.2.1 C.2.2.2.2.2.1 hP p (gw_obj hk (by decide) (by decide)) rfl 1 (by decide) (C.2.2.2.2.1 _ hl) (fun _ h9 => h9) rfl d (k H locs ls hP hS hh)
theorem p_Leg_1 (C : Cok X cc own nL ret rm) {i : Nat} {v : Int32} (hk : kd p = 6) (hl : Cond.fieldLink own i "BreatheOut$Leg" "arrivals" "I" ∈ tbl) (d : decode cc pc = .ok (.putfield i, 3)) (k : V X Q kc ks (wr s p 1 v) (pc + 3) L st) : V X Q kc ks s pc L (.int v :: .ref (xa X p) :: st) := fun H locs ls hP hS hh =>
  va_put (D := gD (xg X)) (ci := 3) (v := .int v) (ty := .int) (C := R_Leg) (T := F_Leg) (N := 7) C.1 C.2.1 C.2.2.2.2.1 i_Leg t_Leg t_Leg_ok n_Leg C.2.2.2.1 C.2.2.2.2.2.1 hP (C.2.2.2.2.2.2.1 s) hS p (gw_obj hk (by decide) (by decide)) rfl 1 (by decide) (C.2.2.2.2.1 _ hl) (fun _ h9 => h9) rfl (by decide +kernel) rfl rfl (Nat.le_of_ble_eq_true rfl) d (fun H1 locs1 hP1 hD1 hS1 => k H1 locs1 ls (by rw [← gw_put (g := xg X) (s := s) (j := 1) (v := v) hk (by decide) (by decide) rfl]; simpa [cellO, wr] using hP1) hS1 hh)
theorem g_Leg_2 (C : Cok X cc own nL ret rm) {i : Nat} (hk : kd p = 6) (hl : Cond.fieldLink own i "BreatheOut$Leg" "stuck" "I" ∈ tbl) (d : decode cc pc = .ok (.getfield i, 3)) (k : V X Q kc ks s (pc + 3) L (.int (s p 2) :: st)) : V X Q kc ks s pc L (.ref (xa X p) :: st) := fun H locs ls hP hS hh =>
  va_get (D := gD (xg X)) (ci := 3) (v := .int (s p 2)) (C := R_Leg) (T := F_Leg) (N := 7) C.1 C.2.1 C.2.2.2.2.1 i_Leg C.2.2.2.1 C.2.2.2.2.2.1 hP p (gw_obj hk (by decide) (by decide)) rfl 2 (by decide) (C.2.2.2.2.1 _ hl) (fun _ h9 => h9) rfl d (k H locs ls hP hS hh)
theorem p_Leg_2 (C : Cok X cc own nL ret rm) {i : Nat} {v : Int32} (hk : kd p = 6) (hl : Cond.fieldLink own i "BreatheOut$Leg" "stuck" "I" ∈ tbl) (d : decode cc pc = .ok (.putfield i, 3)) (k : V X Q kc ks (wr s p 2 v) (pc + 3) L st) : V X Q kc ks s pc L (.int v :: .ref (xa X p) :: st) := fun H locs ls hP hS hh =>
  va_put (D := gD (xg X)) (ci := 3) (v := .int v) (ty := .int) (C := R_Leg) (T := F_Leg) (N := 7) C.1 C.2.1 C.2.2.2.2.1 i_Leg t_Leg t_Leg_ok n_Leg C.2.2.2.1 C.2.2.2.2.2.1 hP (C.2.2.2.2.2.2.1 s) hS p (gw_obj hk (by decide) (by decide)) rfl 2 (by decide) (C.2.2.2.2.1 _ hl) (fun _ h9 => h9) rfl (by decide +kernel) rfl rfl (Nat.le_of_ble_eq_true rfl) d (fun H1 locs1 hP1 hD1 hS1 => k H1 locs1 ls (by rw [← gw_put (g := xg X) (s := s) (j := 2) (v := v) hk (by decide) (by decide) rfl]; simpa [cellO, wr] using hP1) hS1 hh)
theorem g_Leg_3 (C : Cok X cc own nL ret rm) {i : Nat} (hk : kd p = 6) (hl : Cond.fieldLink own i "BreatheOut$Leg" "where" "I" ∈ tbl) (d : decode cc pc = .ok (.getfield i, 3)) (k : V X Q kc ks s (pc + 3) L (.int (s p 3) :: st)) : V X Q kc ks s pc L (.ref (xa X p) :: st) := fun H locs ls hP hS hh =>
  va_get (D := gD (xg X)) (ci := 3) (v := .int (s p 3)) (C := R_Leg) (T := F_Leg) (N := 7) C.1 C.2.1 C.2.2.2.2.1 i_Leg C.2.2.2.1 C.2.2.2.2.2.1 hP p (gw_obj hk (by decide) (by decide)) rfl 3 (by decide) (C.2.2.2.2.1 _ hl) (fun _ h9 => h9) rfl d (k H locs ls hP hS hh)
theorem p_Leg_3 (C : Cok X cc own nL ret rm) {i : Nat} {v : Int32} (hk : kd p = 6) (hl : Cond.fieldLink own i "BreatheOut$Leg" "where" "I" ∈ tbl) (d : decode cc pc = .ok (.putfield i, 3)) (k : V X Q kc ks (wr s p 3 v) (pc + 3) L st) : V X Q kc ks s pc L (.int v :: .ref (xa X p) :: st) := fun H locs ls hP hS hh =>
  va_put (D := gD (xg X)) (ci := 3) (v := .int v) (ty := .int) (C := R_Leg) (T := F_Leg) (N := 7) C.1 C.2.1 C.2.2.2.2.1 i_Leg t_Leg t_Leg_ok n_Leg C.2.2.2.1 C.2.2.2.2.2.1 hP (C.2.2.2.2.2.2.1 s) hS p (gw_obj hk (by decide) (by decide)) rfl 3 (by decide) (C.2.2.2.2.1 _ hl) (fun _ h9 => h9) rfl (by decide +kernel) rfl rfl (Nat.le_of_ble_eq_true rfl) d (fun H1 locs1 hP1 hD1 hS1 => k H1 locs1 ls (by rw [← gw_put (g := xg X) (s := s) (j := 3) (v := v) hk (by decide) (by decide) rfl]; simpa [cellO, wr] using hP1) hS1 hh)
theorem g_Leg_4 (C : Cok X cc own nL ret rm) {i : Nat} (hk : kd p = 6) (hl : Cond.fieldLink own i "BreatheOut$Leg" "clock" "I" ∈ tbl) (d : decode cc pc = .ok (.getfield i, 3)) (k : V X Q kc ks s (pc + 3) L (.int (s p 4) :: st)) : V X Q kc ks s pc L (.ref (xa X p) :: st) := fun H locs ls hP hS hh =>
  va_get (D := gD (xg X)) (ci := 3) (v := .int (s p 4)) (C := R_Leg) (T := F_Leg) (N := 7) C.1 C.2.1 C.2.2.2.2.1 i_Leg C.2.2.2.1 C.2.2.2.2.2.1 hP p (gw_obj hk (by decide) (by decide)) rfl 4 (by decide) (C.2.2.2.2.1 _ hl) (fun _ h9 => h9) rfl d (k H locs ls hP hS hh)
theorem p_Leg_4 (C : Cok X cc own nL ret rm) {i : Nat} {v : Int32} (hk : kd p = 6) (hl : Cond.fieldLink own i "BreatheOut$Leg" "clock" "I" ∈ tbl) (d : decode cc pc = .ok (.putfield i, 3)) (k : V X Q kc ks (wr s p 4 v) (pc + 3) L st) : V X Q kc ks s pc L (.int v :: .ref (xa X p) :: st) := fun H locs ls hP hS hh =>
  va_put (D := gD (xg X)) (ci := 3) (v := .int v) (ty := .int) (C := R_Leg) (T := F_Leg) (N := 7) C.1 C.2.1 C.2.2.2.2.1 i_Leg t_Leg t_Leg_ok n_Leg C.2.2.2.1 C.2.2.2.2.2.1 hP (C.2.2.2.2.2.2.1 s) hS p (gw_obj hk (by decide) (by decide)) rfl 4 (by decide) (C.2.2.2.2.1 _ hl) (fun _ h9 => h9) rfl (by decide +kernel) rfl rfl (Nat.le_of_ble_eq_true rfl) d (fun H1 locs1 hP1 hD1 hS1 => k H1 locs1 ls (by rw [← gw_put (g := xg X) (s := s) (j := 4) (v := v) hk (by decide) (by decide) rfl]; simpa [cellO, wr] using hP1) hS1 hh)
theorem g_Leg_5 (C : Cok X cc own nL ret rm) {i : Nat} (hk : kd p = 6) (hl : Cond.fieldLink own i "BreatheOut$Leg" "breaths" "I" ∈ tbl) (d : decode cc pc = .ok (.getfield i, 3)) (k : V X Q kc ks s (pc + 3) L (.int (s p 5) :: st)) : V X Q kc ks s pc L (.ref (xa X p) :: st) := fun H locs ls hP hS hh =>
  va_get (D := gD (xg X)) (ci := 3) (v := .int (s p 5)) (C := R_Leg) (T := F_Leg) (N := 7) C.1 C.2.1 C.2.2.2.2.1 i_Leg C.2.2.2.1 C.2.2.2.2.2.1 hP p (gw_obj hk (by decide) (by decide)) rfl 5 (by decide) (C.2.2.2.2.1 _ hl) (fun _ h9 => h9) rfl d (k H locs ls hP hS hh)
theorem p_Leg_5 (C : Cok X cc own nL ret rm) {i : Nat} {v : Int32} (hk : kd p = 6) (hl : Cond.fieldLink own i "BreatheOut$Leg" "breaths" "I" ∈ tbl) (d : decode cc pc = .ok (.putfield i, 3)) (k : V X Q kc ks (wr s p 5 v) (pc + 3) L st) : V X Q kc ks s pc L (.int v :: .ref (xa X p) :: st) := fun H locs ls hP hS hh =>
  va_put (D := gD (xg X)) (ci := 3) (v := .int v) (ty := .int) (C := R_Leg) (T := F_Leg) (N := 7) C.1 C.2.1 C.2.2.2.2.1 i_Leg t_Leg t_Leg_ok n_Leg C.2.2.2.1 C.2.2.2.2.2.1 hP (C.2.2.2.2.2.2.1 s) hS p (gw_obj hk (by decide) (by decide)) rfl 5 (by decide) (C.2.2.2.2.1 _ hl) (fun _ h9 => h9) rfl (by decide +kernel) rfl rfl (Nat.le_of_ble_eq_true rfl) d (fun H1 locs1 hP1 hD1 hS1 => k H1 locs1 ls (by rw [← gw_put (g := xg X) (s := s) (j := 5) (v := v) hk (by decide) (by decide) rfl]; simpa [cellO, wr] using hP1) hS1 hh)
theorem g_Leg_6 (C : Cok X cc own nL ret rm) {i : Nat} (hk : kd p = 6) (hl : Cond.fieldLink own i "BreatheOut$Leg" "times" "[I" ∈ tbl) (d : decode cc pc = .ok (.getfield i, 3)) (k : V X Q kc ks s (pc + 3) L (.ref (xa X (p + 1)) :: st)) : V X Q kc ks s pc L (.ref (xa X p) :: st) := fun H locs ls hP hS hh =>
  va_get (D := gD (xg X)) (ci := 3) (v := .ref (xa X (p + 1))) (C := R_Leg) (T := F_Leg) (N := 7) C.1 C.2.1 C.2.2.2.2.1 i_Leg C.2.2.2.1 C.2.2.2.2.2.1 hP p (gw_obj hk (by decide) (by decide)) rfl 6 (by decide) (C.2.2.2.2.1 _ hl) (fun _ h9 => h9) rfl d (k H locs ls hP hS hh)
theorem g_Res_0 (C : Cok X cc own nL ret rm) {i : Nat} (hk : kd p = 8) (hl : Cond.fieldLink own i "BreatheOut$Rescuers" "bestDeeds" "[I" ∈ tbl) (d : decode cc pc = .ok (.getfield i, 3)) (k : V X Q kc ks s (pc + 3) L (.ref (xa X (p + 1)) :: st)) : V X Q kc ks s pc L (.ref (xa X p) :: st) := fun H locs ls hP hS hh =>
  va_get (D := gD (xg X)) (ci := 4) (v := .ref (xa X (p + 1))) (C := R_Res) (T := F_Res) (N := 10) C.1 C.2.1 C.2.2.2.2.1 i_Res C.2.2.2.1 C.2.2.2.2.2.1 hP p (gw_obj hk (by decide) (by decide)) rfl 0 (by decide) (C.2.2.2.2.1 _ hl) (fun _ h9 => h9) rfl d (k H locs ls hP hS hh)
theorem g_Res_1 (C : Cok X cc own nL ret rm) {i : Nat} (hk : kd p = 8) (hl : Cond.fieldLink own i "BreatheOut$Rescuers" "bestCount" "I" ∈ tbl) (d : decode cc pc = .ok (.getfield i, 3)) (k : V X Q kc ks s (pc + 3) L (.int (s p 1) :: st)) : V X Q kc ks s pc L (.ref (xa X p) :: st) := fun H locs ls hP hS hh =>
  va_get (D := gD (xg X)) (ci := 4) (v := .int (s p 1)) (C := R_Res) (T := F_Res) (N := 10) C.1 C.2.1 C.2.2.2.2.1 i_Res C.2.2.2.1 C.2.2.2.2.2.1 hP p (gw_obj hk (by decide) (by decide)) rfl 1 (by decide) (C.2.2.2.2.1 _ hl) (fun _ h9 => h9) rfl d (k H locs ls hP hS hh)
theorem p_Res_1 (C : Cok X cc own nL ret rm) {i : Nat} {v : Int32} (hk : kd p = 8) (hl : Cond.fieldLink own i "BreatheOut$Rescuers" "bestCount" "I" ∈ tbl) (d : decode cc pc = .ok (.putfield i, 3)) (k : V X Q kc ks (wr s p 1 v) (pc + 3) L st) : V X Q kc ks s pc L (.int v :: .ref (xa X p) :: st) := fun H locs ls hP hS hh =>
  va_put (D := gD (xg X)) (ci := 4) (v := .int v) (ty := .int) (C := R_Res) (T := F_Res) (N := 10) C.1 C.2.1 C.2.2.2.2.1 i_Res t_Res t_Res_ok n_Res C.2.2.2.1 C.2.2.2.2.2.1 hP (C.2.2.2.2.2.2.1 s) hS p (gw_obj hk (by decide) (by decide)) rfl 1 (by decide) (C.2.2.2.2.1 _ hl) (fun _ h9 => h9) rfl (by decide +kernel) rfl rfl (Nat.le_of_ble_eq_true rfl) d (fun H1 locs1 hP1 hD1 hS1 => k H1 locs1 ls (by rw [← gw_put (g := xg X) (s := s) (j := 1) (v := v) hk (by decide) (by decide) rfl]; simpa [cellO, wr] using hP1) hS1 hh)
theorem g_Res_2 (C : Cok X cc own nL ret rm) {i : Nat} (hk : kd p = 8) (hl : Cond.fieldLink own i "BreatheOut$Rescuers" "bestMinutes" "I" ∈ tbl) (d : decode cc pc = .ok (.getfield i, 3)) (k : V X Q kc ks s (pc + 3) L (.int (s p 2) :: st)) : V X Q kc ks s pc L (.ref (xa X p) :: st) := fun H locs ls hP hS hh =>
  va_get (D := gD (xg X)) (ci := 4) (v := .int (s p 2)) (C := R_Res) (T := F_Res) (N := 10) C.1 C.2.1 C.2.2.2.2.1 i_Res C.2.2.2.1 C.2.2.2.2.2.1 hP p (gw_obj hk (by decide) (by decide)) rfl 2 (by decide) (C.2.2.2.2.1 _ hl) (fun _ h9 => h9) rfl d (k H locs ls hP hS hh)
theorem p_Res_2 (C : Cok X cc own nL ret rm) {i : Nat} {v : Int32} (hk : kd p = 8) (hl : Cond.fieldLink own i "BreatheOut$Rescuers" "bestMinutes" "I" ∈ tbl) (d : decode cc pc = .ok (.putfield i, 3)) (k : V X Q kc ks (wr s p 2 v) (pc + 3) L st) : V X Q kc ks s pc L (.int v :: .ref (xa X p) :: st) := fun H locs ls hP hS hh =>
  va_put (D := gD (xg X)) (ci := 4) (v := .int v) (ty := .int) (C := R_Res) (T := F_Res) (N := 10) C.1 C.2.1 C.2.2.2.2.1 i_Res t_Res t_Res_ok n_Res C.2.2.2.1 C.2.2.2.2.2.1 hP (C.2.2.2.2.2.2.1 s) hS p (gw_obj hk (by decide) (by decide)) rfl 2 (by decide) (C.2.2.2.2.1 _ hl) (fun _ h9 => h9) rfl (by decide +kernel) rfl rfl (Nat.le_of_ble_eq_true rfl) d (fun H1 locs1 hP1 hD1 hS1 => k H1 locs1 ls (by rw [← gw_put (g := xg X) (s := s) (j := 2) (v := v) hk (by decide) (by decide) rfl]; simpa [cellO, wr] using hP1) hS1 hh)
theorem g_Res_3 (C : Cok X cc own nL ret rm) {i : Nat} (hk : kd p = 8) (hl : Cond.fieldLink own i "BreatheOut$Rescuers" "found" "Z" ∈ tbl) (d : decode cc pc = .ok (.getfield i, 3)) (k : V X Q kc ks s (pc + 3) L (.int (s p 3) :: st)) : V X Q kc ks s pc L (.ref (xa X p) :: st) := fun H locs ls hP hS hh =>
  va_get (D := gD (xg X)) (ci := 4) (v := .int (s p 3)) (C := R_Res) (T := F_Res) (N := 10) C.1 C.2.1 C.2.2.2.2.1 i_Res C.2.2.2.1 C.2.2.2.2.2.1 hP p (gw_obj hk (by decide) (by decide)) rfl 3 (by decide) (C.2.2.2.2.1 _ hl) (fun _ h9 => h9) rfl d (k H locs ls hP hS hh)
theorem p_Res_3 (C : Cok X cc own nL ret rm) {i : Nat} {v : Int32} (hk : kd p = 8) (hl : Cond.fieldLink own i "BreatheOut$Rescuers" "found" "Z" ∈ tbl) (hz : narrow .boolean (.int v) = .int v ∧ fits .boolean (.int v) = true) (d : decode cc pc = .ok (.putfield i, 3)) (k : V X Q kc ks (wr s p 3 v) (pc + 3) L st) : V X Q kc ks s pc L (.int v :: .ref (xa X p) :: st) := fun H locs ls hP hS hh =>
  va_put (D := gD (xg X)) (ci := 4) (v := .int v) (ty := .boolean) (C := R_Res) (T := F_Res) (N := 10) C.1 C.2.1 C.2.2.2.2.1 i_Res t_Res t_Res_ok n_Res C.2.2.2.1 C.2.2.2.2.2.1 hP (C.2.2.2.2.2.2.1 s) hS p (gw_obj hk (by decide) (by decide)) rfl 3 (by decide) (C.2.2.2.2.1 _ hl) (fun _ h9 => h9) rfl (by decide +kernel) hz.1 hz.2 (Nat.le_of_ble_eq_true rfl) d (fun H1 locs1 hP1 hD1 hS1 => k H1 locs1 ls (by rw [← gw_put (g := xg X) (s := s) (j := 3) (v := v) hk (by decide) (by decide) rfl]; simpa [cellO, wr] using hP1) hS1 hh)
theorem g_Res_4 (C : Cok X cc own nL ret rm) {i : Nat} (hk : kd p = 8) (hl : Cond.fieldLink own i "BreatheOut$Rescuers" "deeds" "[I" ∈ tbl) (d : decode cc pc = .ok (.getfield i, 3)) (k : V X Q kc ks s (pc + 3) L (.ref (xa X (p + 2)) :: st)) : V X Q kc ks s pc L (.ref (xa X p) :: st) := fun H locs ls hP hS hh =>
  va_get (D := gD (xg X)) (ci := 4) (v := .ref (xa X (p + 2))) (C := R_Res) (T := F_Res) (N := 10) C.1 C.2.1 C.2.2.2.2.1 i_Res C.2.2.2.1 C.2.2.2.2.2.1 hP p (gw_obj hk (by decide) (by decide)) rfl 4 (by decide) (C.2.2.2.2.1 _ hl) (fun _ h9 => h9) rfl d (k H locs ls hP hS hh)
theorem g_Res_5 (C : Cok X cc own nL ret rm) {i : Nat} (hk : kd p = 8) (hl : Cond.fieldLink own i "BreatheOut$Rescuers" "most" "I" ∈ tbl) (d : decode cc pc = .ok (.getfield i, 3)) (k : V X Q kc ks s (pc + 3) L (.int (s p 5) :: st)) : V X Q kc ks s pc L (.ref (xa X p) :: st) := fun H locs ls hP hS hh =>
  va_get (D := gD (xg X)) (ci := 4) (v := .int (s p 5)) (C := R_Res) (T := F_Res) (N := 10) C.1 C.2.1 C.2.2.2.2.1 i_Res C.2.2.2.1 C.2.2.2.2.2.1 hP p (gw_obj hk (by decide) (by decide)) rfl 5 (by decide) (C.2.2.2.2.1 _ hl) (fun _ h9 => h9) rfl d (k H locs ls hP hS hh)
theorem p_Res_5 (C : Cok X cc own nL ret rm) {i : Nat} {v : Int32} (hk : kd p = 8) (hl : Cond.fieldLink own i "BreatheOut$Rescuers" "most" "I" ∈ tbl) (d : decode cc pc = .ok (.putfield i, 3)) (k : V X Q kc ks (wr s p 5 v) (pc + 3) L st) : V X Q kc ks s pc L (.int v :: .ref (xa X p) :: st) := fun H locs ls hP hS hh =>
  va_put (D := gD (xg X)) (ci := 4) (v := .int v) (ty := .int) (C := R_Res) (T := F_Res) (N := 10) C.1 C.2.1 C.2.2.2.2.1 i_Res t_Res t_Res_ok n_Res C.2.2.2.1 C.2.2.2.2.2.1 hP (C.2.2.2.2.2.2.1 s) hS p (gw_obj hk (by decide) (by decide)) rfl 5 (by decide) (C.2.2.2.2.1 _ hl) (fun _ h9 => h9) rfl (by decide +kernel) rfl rfl (Nat.le_of_ble_eq_true rfl) d (fun H1 locs1 hP1 hD1 hS1 => k H1 locs1 ls (by rw [← gw_put (g := xg X) (s := s) (j := 5) (v := v) hk (by decide) (by decide) rfl]; simpa [cellO, wr] using hP1) hS1 hh)
theorem g_Res_6 (C : Cok X cc own nL ret rm) {i : Nat} (hk : kd p = 8) (hl : Cond.fieldLink own i "BreatheOut$Rescuers" "lackingWithoutFear" "I" ∈ tbl) (d : decode cc pc = .ok (.getfield i, 3)) (k : V X Q kc ks s (pc + 3) L (.int (s p 6) :: st)) : V X Q kc ks s pc L (.ref (xa X p) :: st) := fun H locs ls hP hS hh =>
  va_get (D := gD (xg X)) (ci := 4) (v := .int (s p 6)) (C := R_Res) (T := F_Res) (N := 10) C.1 C.2.1 C.2.2.2.2.1 i_Res C.2.2.2.1 C.2.2.2.2.2.1 hP p (gw_obj hk (by decide) (by decide)) rfl 6 (by decide) (C.2.2.2.2.1 _ hl) (fun _ h9 => h9) rfl d (k H locs ls hP hS hh)
theorem p_Res_6 (C : Cok X cc own nL ret rm) {i : Nat} {v : Int32} (hk : kd p = 8) (hl : Cond.fieldLink own i "BreatheOut$Rescuers" "lackingWithoutFear" "I" ∈ tbl) (d : decode cc pc = .ok (.putfield i, 3)) (k : V X Q kc ks (wr s p 6 v) (pc + 3) L st) : V X Q kc ks s pc L (.int v :: .ref (xa X p) :: st) := fun H locs ls hP hS hh =>
  va_put (D := gD (xg X)) (ci := 4) (v := .int v) (ty := .int) (C := R_Res) (T := F_Res) (N := 10) C.1 C.2.1 C.2.2.2.2.1 i_Res t_Res t_Res_ok n_Res C.2.2.2.1 C.2.2.2.2.2.1 hP (C.2.2.2.2.2.2.1 s) hS p (gw_obj hk (by decide) (by decide)) rfl 6 (by decide) (C.2.2.2.2.1 _ hl) (fun _ h9 => h9) rfl (by decide +kernel) rfl rfl (Nat.le_of_ble_eq_true rfl) d (fun H1 locs1 hP1 hD1 hS1 => k H1 locs1 ls (by rw [← gw_put (g := xg X) (s := s) (j := 6) (v := v) hk (by decide) (by decide) rfl]; simpa [cellO, wr] using hP1) hS1 hh)
theorem g_Res_7 (C : Cok X cc own nL ret rm) {i : Nat} (hk : kd p = 8) (hl : Cond.fieldLink own i "BreatheOut$Rescuers" "pulling" "I" ∈ tbl) (d : decode cc pc = .ok (.getfield i, 3)) (k : V X Q kc ks s (pc + 3) L (.int (s p 7) :: st)) : V X Q kc ks s pc L (.ref (xa X p) :: st) := fun H locs ls hP hS hh =>
  va_get (D := gD (xg X)) (ci := 4) (v := .int (s p 7)) (C := R_Res) (T := F_Res) (N := 10) C.1 C.2.1 C.2.2.2.2.1 i_Res C.2.2.2.1 C.2.2.2.2.2.1 hP p (gw_obj hk (by decide) (by decide)) rfl 7 (by decide) (C.2.2.2.2.1 _ hl) (fun _ h9 => h9) rfl d (k H locs ls hP hS hh)
theorem p_Res_7 (C : Cok X cc own nL ret rm) {i : Nat} {v : Int32} (hk : kd p = 8) (hl : Cond.fieldLink own i "BreatheOut$Rescuers" "pulling" "I" ∈ tbl) (d : decode cc pc = .ok (.putfield i, 3)) (k : V X Q kc ks (wr s p 7 v) (pc + 3) L st) : V X Q kc ks s pc L (.int v :: .ref (xa X p) :: st) := fun H locs ls hP hS hh =>
  va_put (D := gD (xg X)) (ci := 4) (v := .int v) (ty := .int) (C := R_Res) (T := F_Res) (N := 10) C.1 C.2.1 C.2.2.2.2.1 i_Res t_Res t_Res_ok n_Res C.2.2.2.1 C.2.2.2.2.2.1 hP (C.2.2.2.2.2.2.1 s) hS p (gw_obj hk (by decide) (by decide)) rfl 7 (by decide) (C.2.2.2.2.1 _ hl) (fun _ h9 => h9) rfl (by decide +kernel) rfl rfl (Nat.le_of_ble_eq_true rfl) d (fun H1 locs1 hP1 hD1 hS1 => k H1 locs1 ls (by rw [← gw_put (g := xg X) (s := s) (j := 7) (v := v) hk (by decide) (by decide) rfl]; simpa [cellO, wr] using hP1) hS1 hh)
theorem g_Res_8 (C : Cok X cc own nL ret rm) {i : Nat} (hk : kd p = 8) (hl : Cond.fieldLink own i "BreatheOut$Rescuers" "pushing" "I" ∈ tbl) (d : decode cc pc = .ok (.getfield i, 3)) (k : V X Q kc ks s (pc + 3) L (.int (s p 8) :: st)) : V X Q kc ks s pc L (.ref (xa X p) :: st) := fun H locs ls hP hS hh =>
  va_get (D := gD (xg X)) (ci := 4) (v := .int (s p 8)) (C := R_Res) (T := F_Res) (N := 10) C.1 C.2.1 C.2.2.2.2.1 i_Res C.2.2.2.1 C.2.2.2.2.2.1 hP p (gw_obj hk (by decide) (by decide)) rfl 8 (by decide) (C.2.2.2.2.1 _ hl) (fun _ h9 => h9) rfl d (k H locs ls hP hS hh)
theorem p_Res_8 (C : Cok X cc own nL ret rm) {i : Nat} {v : Int32} (hk : kd p = 8) (hl : Cond.fieldLink own i "BreatheOut$Rescuers" "pushing" "I" ∈ tbl) (d : decode cc pc = .ok (.putfield i, 3)) (k : V X Q kc ks (wr s p 8 v) (pc + 3) L st) : V X Q kc ks s pc L (.int v :: .ref (xa X p) :: st) := fun H locs ls hP hS hh =>
  va_put (D := gD (xg X)) (ci := 4) (v := .int v) (ty := .int) (C := R_Res) (T := F_Res) (N := 10) C.1 C.2.1 C.2.2.2.2.1 i_Res t_Res t_Res_ok n_Res C.2.2.2.1 C.2.2.2.2.2.1 hP (C.2.2.2.2.2.2.1 s) hS p (gw_obj hk (by decide) (by decide)) rfl 8 (by decide) (C.2.2.2.2.1 _ hl) (fun _ h9 => h9) rfl (by decide +kernel) rfl rfl (Nat.le_of_ble_eq_true rfl) d (fun H1 locs1 hP1 hD1 hS1 => k H1 locs1 ls (by rw [← gw_put (g := xg X) (s := s) (j := 8) (v := v) hk (by decide) (by decide) rfl]; simpa [cellO, wr] using hP1) hS1 hh)
theorem g_Res_9 (C : Cok X cc own nL ret rm) {i : Nat} (hk : kd p = 8) (hl : Cond.fieldLink own i "BreatheOut$Rescuers" "calm" "I" ∈ tbl) (d : decode cc pc = .ok (.getfield i, 3)) (k : V X Q kc ks s (pc + 3) L (.int (s p 9) :: st)) : V X Q kc ks s pc L (.ref (xa X p) :: st) := fun H locs ls hP hS hh =>
  va_get (D := gD (xg X)) (ci := 4) (v := .int (s p 9)) (C := R_Res) (T := F_Res) (N := 10) C.1 C.2.1 C.2.2.2.2.1 i_Res C.2.2.2.1 C.2.2.2.2.2.1 hP p (gw_obj hk (by decide) (by decide)) rfl 9 (by decide) (C.2.2.2.2.1 _ hl) (fun _ h9 => h9) rfl d (k H locs ls hP hS hh)
theorem p_Res_9 (C : Cok X cc own nL ret rm) {i : Nat} {v : Int32} (hk : kd p = 8) (hl : Cond.fieldLink own i "BreatheOut$Rescuers" "calm" "I" ∈ tbl) (d : decode cc pc = .ok (.putfield i, 3)) (k : V X Q kc ks (wr s p 9 v) (pc + 3) L st) : V X Q kc ks s pc L (.int v :: .ref (xa X p) :: st) := fun H locs ls hP hS hh =>
  va_put (D := gD (xg X)) (ci := 4) (v := .int v) (ty := .int) (C := R_Res) (T := F_Res) (N := 10) C.1 C.2.1 C.2.2.2.2.1 i_Res t_Res t_Res_ok n_Res C.2.2.2.1 C.2.2.2.2.2.1 hP (C.2.2.2.2.2.2.1 s) hS p (gw_obj hk (by decide) (by decide)) rfl 9 (by decide) (C.2.2.2.2.1 _ hl) (fun _ h9 => h9) rfl (by decide +kernel) rfl rfl (Nat.le_of_ble_eq_true rfl) d (fun H1 locs1 hP1 hD1 hS1 => k H1 locs1 ls (by rw [← gw_put (g := xg X) (s := s) (j := 9) (v := v) hk (by decide) (by decide) rfl]; simpa [cellO, wr] using hP1) hS1 hh)
theorem g_She_0 (C : Cok X cc own nL ret rm) {i : Nat} (hk : kd p = 9) (hl : Cond.fieldLink own i "BreatheOut$Shelf" "holds" "I" ∈ tbl) (d : decode cc pc = .ok (.getfield i, 3)) (k : V X Q kc ks s (pc + 3) L (.int (s p 0) :: st)) : V X Q kc ks s pc L (.ref (xa X p) :: st) := fun H locs ls hP hS hh =>
  va_get (D := gD (xg X)) (ci := 5) (v := .int (s p 0)) (C := R_She) (T := F_She) (N := 6) C.1 C.2.1 C.2.2.2.2.1 i_She C.2.2.2.1 C.2.2.2.2.2.1 hP p (gw_obj hk (by decide) (by decide)) rfl 0 (by decide) (C.2.2.2.2.1 _ hl) (fun _ h9 => h9) rfl d (k H locs ls hP hS hh)
theorem p_She_0 (C : Cok X cc own nL ret rm) {i : Nat} {v : Int32} (hk : kd p = 9) (hl : Cond.fieldLink own i "BreatheOut$Shelf" "holds" "I" ∈ tbl) (d : decode cc pc = .ok (.putfield i, 3)) (k : V X Q kc ks (wr s p 0 v) (pc + 3) L st) : V X Q kc ks s pc L (.int v :: .ref (xa X p) :: st) := fun H locs ls hP hS hh =>
  va_put (D := gD (xg X)) (ci := 5) (v := .int v) (ty := .int) (C := R_She) (T := F_She) (N := 6) C.1 C.2.1 C.2.2.2.2.1 i_She t_She t_She_ok n_She C.2.2.2.1 C.2.2.2.2.2.1 hP (C.2.2.2.2.2.2.1 s) hS p (gw_obj hk (by decide) (by decide)) rfl 0 (by decide) (C.2.2.2.2.1 _ hl) (fun _ h9 => h9) rfl (by decide +kernel) rfl rfl (Nat.le_of_ble_eq_true rfl) d (fun H1 locs1 hP1 hD1 hS1 => k H1 locs1 ls (by rw [← gw_put (g := xg X) (s := s) (j := 0) (v := v) hk (by decide) (by decide) rfl]; simpa [cellO, wr] using hP1) hS1 hh)
theorem g_She_1 (C : Cok X cc own nL ret rm) {i : Nat} (hk : kd p = 9) (hl : Cond.fieldLink own i "BreatheOut$Shelf" "kind" "I" ∈ tbl) (d : decode cc pc = .ok (.getfield i, 3)) (k : V X Q kc ks s (pc + 3) L (.int (s p 1) :: st)) : V X Q kc ks s pc L (.ref (xa X p) :: st) := fun H locs ls hP hS hh =>
  va_get (D := gD (xg X)) (ci := 5) (v := .int (s p 1)) (C := R_She) (T := F_She) (N := 6) C.1 C.2.1 C.2.2.2.2.1 i_She C.2.2.2.1 C.2.2.2.2.2.1 hP p (gw_obj hk (by decide) (by decide)) rfl 1 (by decide) (C.2.2.2.2.1 _ hl) (fun _ h9 => h9) rfl d (k H locs ls hP hS hh)
theorem p_She_1 (C : Cok X cc own nL ret rm) {i : Nat} {v : Int32} (hk : kd p = 9) (hl : Cond.fieldLink own i "BreatheOut$Shelf" "kind" "I" ∈ tbl) (d : decode cc pc = .ok (.putfield i, 3)) (k : V X Q kc ks (wr s p 1 v) (pc + 3) L st) : V X Q kc ks s pc L (.int v :: .ref (xa X p) :: st) := fun H locs ls hP hS hh =>
  va_put (D := gD (xg X)) (ci := 5) (v := .int v) (ty := .int) (C := R_She) (T := F_She) (N := 6) C.1 C.2.1 C.2.2.2.2.1 i_She t_She t_She_ok n_She C.2.2.2.1 C.2.2.2.2.2.1 hP (C.2.2.2.2.2.2.1 s) hS p (gw_obj hk (by decide) (by decide)) rfl 1 (by decide) (C.2.2.2.2.1 _ hl) (fun _ h9 => h9) rfl (by decide +kernel) rfl rfl (Nat.le_of_ble_eq_true rfl) d (fun H1 locs1 hP1 hD1 hS1 => k H1 locs1 ls (by rw [← gw_put (g := xg X) (s := s) (j := 1) (v := v) hk (by decide) (by decide) rfl]; simpa [cellO, wr] using hP1) hS1 hh)
theorem g_She_2 (C : Cok X cc own nL ret rm) {i : Nat} (hk : kd p = 9) (hl : Cond.fieldLink own i "BreatheOut$Shelf" "figure" "I" ∈ tbl) (d : decode cc pc = .ok (.getfield i, 3)) (k : V X Q kc ks s (pc + 3) L (.int (s p 2) :: st)) : V X Q kc ks s pc L (.ref (xa X p) :: st) := fun H locs ls hP hS hh =>
  va_get (D := gD (xg X)) (ci := 5) (v := .int (s p 2)) (C := R_She) (T := F_She) (N := 6) C.1 C.2.1 C.2.2.2.2.1 i_She C.2.2.2.1 C.2.2.2.2.2.1 hP p (gw_obj hk (by decide) (by decide)) rfl 2 (by decide) (C.2.2.2.2.1 _ hl) (fun _ h9 => h9) rfl d (k H locs ls hP hS hh)
theorem p_She_2 (C : Cok X cc own nL ret rm) {i : Nat} {v : Int32} (hk : kd p = 9) (hl : Cond.fieldLink own i "BreatheOut$Shelf" "figure" "I" ∈ tbl) (d : decode cc pc = .ok (.putfield i, 3)) (k : V X Q kc ks (wr s p 2 v) (pc + 3) L st) : V X Q kc ks s pc L (.int v :: .ref (xa X p) :: st) := fun H locs ls hP hS hh =>
  va_put (D := gD (xg X)) (ci := 5) (v := .int v) (ty := .int) (C := R_She) (T := F_She) (N := 6) C.1 C.2.1 C.2.2.2.2.1 i_She t_She t_She_ok n_She C.2.2.2.1 C.2.2.2.2.2.1 hP (C.2.2.2.2.2.2.1 s) hS p (gw_obj hk (by decide) (by decide)) rfl 2 (by decide) (C.2.2.2.2.1 _ hl) (fun _ h9 => h9) rfl (by decide +kernel) rfl rfl (Nat.le_of_ble_eq_true rfl) d (fun H1 locs1 hP1 hD1 hS1 => k H1 locs1 ls (by rw [← gw_put (g := xg X) (s := s) (j := 2) (v := v) hk (by decide) (by decide) rfl]; simpa [cellO, wr] using hP1) hS1 hh)
theorem g_She_3 (C : Cok X cc own nL ret rm) {i : Nat} (hk : kd p = 9) (hl : Cond.fieldLink own i "BreatheOut$Shelf" "sort" "I" ∈ tbl) (d : decode cc pc = .ok (.getfield i, 3)) (k : V X Q kc ks s (pc + 3) L (.int (s p 3) :: st)) : V X Q kc ks s pc L (.ref (xa X p) :: st) := fun H locs ls hP hS hh =>
  va_get (D := gD (xg X)) (ci := 5) (v := .int (s p 3)) (C := R_She) (T := F_She) (N := 6) C.1 C.2.1 C.2.2.2.2.1 i_She C.2.2.2.1 C.2.2.2.2.2.1 hP p (gw_obj hk (by decide) (by decide)) rfl 3 (by decide) (C.2.2.2.2.1 _ hl) (fun _ h9 => h9) rfl d (k H locs ls hP hS hh)
theorem p_She_3 (C : Cok X cc own nL ret rm) {i : Nat} {v : Int32} (hk : kd p = 9) (hl : Cond.fieldLink own i "BreatheOut$Shelf" "sort" "I" ∈ tbl) (d : decode cc pc = .ok (.putfield i, 3)) (k : V X Q kc ks (wr s p 3 v) (pc + 3) L st) : V X Q kc ks s pc L (.int v :: .ref (xa X p) :: st) := fun H locs ls hP hS hh =>
  va_put (D := gD (xg X)) (ci := 5) (v := .int v) (ty := .int) (C := R_She) (T := F_She) (N := 6) C.1 C.2.1 C.2.2.2.2.1 i_She t_She t_She_ok n_She C.2.2.2.1 C.2.2.2.2.2.1 hP (C.2.2.2.2.2.2.1 s) hS p (gw_obj hk (by decide) (by decide)) rfl 3 (by decide) (C.2.2.2.2.1 _ hl) (fun _ h9 => h9) rfl (by decide +kernel) rfl rfl (Nat.le_of_ble_eq_true rfl) d (fun H1 locs1 hP1 hD1 hS1 => k H1 locs1 ls (by rw [← gw_put (g := xg X) (s := s) (j := 3) (v := v) hk (by decide) (by decide) rfl]; simpa [cellO, wr] using hP1) hS1 hh)
theorem g_She_4 (C : Cok X cc own nL ret rm) {i : Nat} (hk : kd p = 9) (hl : Cond.fieldLink own i "BreatheOut$Shelf" "length" "I" ∈ tbl) (d : decode cc pc = .ok (.getfield i, 3)) (k : V X Q kc ks s (pc + 3) L (.int (s p 4) :: st)) : V X Q kc ks s pc L (.ref (xa X p) :: st) := fun H locs ls hP hS hh =>
  va_get (D := gD (xg X)) (ci := 5) (v := .int (s p 4)) (C := R_She) (T := F_She) (N := 6) C.1 C.2.1 C.2.2.2.2.1 i_She C.2.2.2.1 C.2.2.2.2.2.1 hP p (gw_obj hk (by decide) (by decide)) rfl 4 (by decide) (C.2.2.2.2.1 _ hl) (fun _ h9 => h9) rfl d (k H locs ls hP hS hh)
theorem p_She_4 (C : Cok X cc own nL ret rm) {i : Nat} {v : Int32} (hk : kd p = 9) (hl : Cond.fieldLink own i "BreatheOut$Shelf" "length" "I" ∈ tbl) (d : decode cc pc = .ok (.putfield i, 3)) (k : V X Q kc ks (wr s p 4 v) (pc + 3) L st) : V X Q kc ks s pc L (.int v :: .ref (xa X p) :: st) := fun H locs ls hP hS hh =>
  va_put (D := gD (xg X)) (ci := 5) (v := .int v) (ty := .int) (C := R_She) (T := F_She) (N := 6) C.1 C.2.1 C.2.2.2.2.1 i_She t_She t_She_ok n_She C.2.2.2.1 C.2.2.2.2.2.1 hP (C.2.2.2.2.2.2.1 s) hS p (gw_obj hk (by decide) (by decide)) rfl 4 (by decide) (C.2.2.2.2.1 _ hl) (fun _ h9 => h9) rfl (by decide +kernel) rfl rfl (Nat.le_of_ble_eq_true rfl) d (fun H1 locs1 hP1 hD1 hS1 => k H1 locs1 ls (by rw [← gw_put (g := xg X) (s := s) (j := 4) (v := v) hk (by decide) (by decide) rfl]; simpa [cellO, wr] using hP1) hS1 hh)
theorem g_She_5 (C : Cok X cc own nL ret rm) {i : Nat} (hk : kd p = 9) (hl : Cond.fieldLink own i "BreatheOut$Shelf" "cells" "[I" ∈ tbl) (d : decode cc pc = .ok (.getfield i, 3)) (k : V X Q kc ks s (pc + 3) L (.ref (xa X (p + 1)) :: st)) : V X Q kc ks s pc L (.ref (xa X p) :: st) := fun H locs ls hP hS hh =>
  va_get (D := gD (xg X)) (ci := 5) (v := .ref (xa X (p + 1))) (C := R_She) (T := F_She) (N := 6) C.1 C.2.1 C.2.2.2.2.1 i_She C.2.2.2.1 C.2.2.2.2.2.1 hP p (gw_obj hk (by decide) (by decide)) rfl 5 (by decide) (C.2.2.2.2.1 _ hl) (fun _ h9 => h9) rfl d (k H locs ls hP hS hh)
theorem g_Tri_0 (C : Cok X cc own nL ret rm) {i : Nat} (hk : kd p = 5) (hl : Cond.fieldLink own i "BreatheOut$Trip" "there" "LBreatheOut$Leg;" ∈ tbl) (d : decode cc pc = .ok (.getfield i, 3)) (k : V X Q kc ks s (pc + 3) L (.ref (xa X (p + 1)) :: st)) : V X Q kc ks s pc L (.ref (xa X p) :: st) := fun H locs ls hP hS hh =>
  va_get (D := gD (xg X)) (ci := 6) (v := .ref (xa X (p + 1))) (C := R_Tri) (T := F_Tri) (N := 3) C.1 C.2.1 C.2.2.2.2.1 i_Tri C.2.2.2.1 C.2.2.2.2.2.1 hP p (gw_obj hk (by decide) (by decide)) rfl 0 (by decide) (C.2.2.2.2.1 _ hl) (fun _ h9 => h9) rfl d (k H locs ls hP hS hh)
theorem g_Tri_1 (C : Cok X cc own nL ret rm) {i : Nat} (hk : kd p = 5) (hl : Cond.fieldLink own i "BreatheOut$Trip" "home" "LBreatheOut$Leg;" ∈ tbl) (d : decode cc pc = .ok (.getfield i, 3)) (k : V X Q kc ks s (pc + 3) L (.ref (xa X (p + 3)) :: st)) : V X Q kc ks s pc L (.ref (xa X p) :: st) := fun H locs ls hP hS hh =>
  va_get (D := gD (xg X)) (ci := 6) (v := .ref (xa X (p + 3))) (C := R_Tri) (T := F_Tri) (N := 3) C.1 C.2.1 C.2.2.2.2.1 i_Tri C.2.2.2.1 C.2.2.2.2.2.1 hP p (gw_obj hk (by decide) (by decide)) rfl 1 (by decide) (C.2.2.2.2.1 _ hl) (fun _ h9 => h9) rfl d (k H locs ls hP hS hh)
theorem g_Tri_2 (C : Cok X cc own nL ret rm) {i : Nat} (hk : kd p = 5) (hl : Cond.fieldLink own i "BreatheOut$Trip" "one" "[I" ∈ tbl) (d : decode cc pc = .ok (.getfield i, 3)) (k : V X Q kc ks s (pc + 3) L (.ref (xa X (p + 5)) :: st)) : V X Q kc ks s pc L (.ref (xa X p) :: st) := fun H locs ls hP hS hh =>
  va_get (D := gD (xg X)) (ci := 6) (v := .ref (xa X (p + 5))) (C := R_Tri) (T := F_Tri) (N := 3) C.1 C.2.1 C.2.2.2.2.1 i_Tri C.2.2.2.1 C.2.2.2.2.2.1 hP p (gw_obj hk (by decide) (by decide)) rfl 2 (by decide) (C.2.2.2.2.1 _ hl) (fun _ h9 => h9) rfl d (k H locs ls hP hS hh)
theorem g_Yar_0 (C : Cok X cc own nL ret rm) {i : Nat} (hk : kd p = 3) (hl : Cond.fieldLink own i "BreatheOut$Yards" "count" "I" ∈ tbl) (d : decode cc pc = .ok (.getfield i, 3)) (k : V X Q kc ks s (pc + 3) L (.int (s p 0) :: st)) : V X Q kc ks s pc L (.ref (xa X p) :: st) := fun H locs ls hP hS hh =>
  va_get (D := gD (xg X)) (ci := 7) (v := .int (s p 0)) (C := R_Yar) (T := F_Yar) (N := 9) C.1 C.2.1 C.2.2.2.2.1 i_Yar C.2.2.2.1 C.2.2.2.2.2.1 hP p (gw_obj hk (by decide) (by decide)) rfl 0 (by decide) (C.2.2.2.2.1 _ hl) (fun _ h9 => h9) rfl d (k H locs ls hP hS hh)
theorem p_Yar_0 (C : Cok X cc own nL ret rm) {i : Nat} {v : Int32} (hk : kd p = 3) (hl : Cond.fieldLink own i "BreatheOut$Yards" "count" "I" ∈ tbl) (d : decode cc pc = .ok (.putfield i, 3)) (k : V X Q kc ks (wr s p 0 v) (pc + 3) L st) : V X Q kc ks s pc L (.int v :: .ref (xa X p) :: st) := fun H locs ls hP hS hh =>
  va_put (D := gD (xg X)) (ci := 7) (v := .int v) (ty := .int) (C := R_Yar) (T := F_Yar) (N := 9) C.1 C.2.1 C.2.2.2.2.1 i_Yar t_Yar t_Yar_ok n_Yar C.2.2.2.1 C.2.2.2.2.2.1 hP (C.2.2.2.2.2.2.1 s) hS p (gw_obj hk (by decide) (by decide)) rfl 0 (by decide) (C.2.2.2.2.1 _ hl) (fun _ h9 => h9) rfl (by decide +kernel) rfl rfl (Nat.le_of_ble_eq_true rfl) d (fun H1 locs1 hP1 hD1 hS1 => k H1 locs1 ls (by rw [← gw_put (g := xg X) (s := s) (j := 0) (v := v) hk (by decide) (by decide) rfl]; simpa [cellO, wr] using hP1) hS1 hh)
theorem g_Yar_1 (C : Cok X cc own nL ret rm) {i : Nat} (hk : kd p = 3) (hl : Cond.fieldLink own i "BreatheOut$Yards" "kind" "[I" ∈ tbl) (d : decode cc pc = .ok (.getfield i, 3)) (k : V X Q kc ks s (pc + 3) L (.ref (xa X (p + 1)) :: st)) : V X Q kc ks s pc L (.ref (xa X p) :: st) := fun H locs ls hP hS hh =>
  va_get (D := gD (xg X)) (ci := 7) (v := .ref (xa X (p + 1))) (C := R_Yar) (T := F_Yar) (N := 9) C.1 C.2.1 C.2.2.2.2.1 i_Yar C.2.2.2.1 C.2.2.2.2.2.1 hP p (gw_obj hk (by decide) (by decide)) rfl 1 (by decide) (C.2.2.2.2.1 _ hl) (fun _ h9 => h9) rfl d (k H locs ls hP hS hh)
theorem g_Yar_2 (C : Cok X cc own nL ret rm) {i : Nat} (hk : kd p = 3) (hl : Cond.fieldLink own i "BreatheOut$Yards" "figure" "[I" ∈ tbl) (d : decode cc pc = .ok (.getfield i, 3)) (k : V X Q kc ks s (pc + 3) L (.ref (xa X (p + 2)) :: st)) : V X Q kc ks s pc L (.ref (xa X p) :: st) := fun H locs ls hP hS hh =>
  va_get (D := gD (xg X)) (ci := 7) (v := .ref (xa X (p + 2))) (C := R_Yar) (T := F_Yar) (N := 9) C.1 C.2.1 C.2.2.2.2.1 i_Yar C.2.2.2.1 C.2.2.2.2.2.1 hP p (gw_obj hk (by decide) (by decide)) rfl 2 (by decide) (C.2.2.2.2.1 _ hl) (fun _ h9 => h9) rfl d (k H locs ls hP hS hh)
theorem g_Yar_3 (C : Cok X cc own nL ret rm) {i : Nat} (hk : kd p = 3) (hl : Cond.fieldLink own i "BreatheOut$Yards" "width" "[I" ∈ tbl) (d : decode cc pc = .ok (.getfield i, 3)) (k : V X Q kc ks s (pc + 3) L (.ref (xa X (p + 3)) :: st)) : V X Q kc ks s pc L (.ref (xa X p) :: st) := fun H locs ls hP hS hh =>
  va_get (D := gD (xg X)) (ci := 7) (v := .ref (xa X (p + 3))) (C := R_Yar) (T := F_Yar) (N := 9) C.1 C.2.1 C.2.2.2.2.1 i_Yar C.2.2.2.1 C.2.2.2.2.2.1 hP p (gw_obj hk (by decide) (by decide)) rfl 3 (by decide) (C.2.2.2.2.1 _ hl) (fun _ h9 => h9) rfl d (k H locs ls hP hS hh)
theorem g_Yar_4 (C : Cok X cc own nL ret rm) {i : Nat} (hk : kd p = 3) (hl : Cond.fieldLink own i "BreatheOut$Yards" "dryRoom" "[I" ∈ tbl) (d : decode cc pc = .ok (.getfield i, 3)) (k : V X Q kc ks s (pc + 3) L (.ref (xa X (p + 4)) :: st)) : V X Q kc ks s pc L (.ref (xa X p) :: st) := fun H locs ls hP hS hh =>
  va_get (D := gD (xg X)) (ci := 7) (v := .ref (xa X (p + 4))) (C := R_Yar) (T := F_Yar) (N := 9) C.1 C.2.1 C.2.2.2.2.1 i_Yar C.2.2.2.1 C.2.2.2.2.2.1 hP p (gw_obj hk (by decide) (by decide)) rfl 4 (by decide) (C.2.2.2.2.1 _ hl) (fun _ h9 => h9) rfl d (k H locs ls hP hS hh)
theorem g_Yar_5 (C : Cok X cc own nL ret rm) {i : Nat} (hk : kd p = 3) (hl : Cond.fieldLink own i "BreatheOut$Yards" "minutesThere" "[I" ∈ tbl) (d : decode cc pc = .ok (.getfield i, 3)) (k : V X Q kc ks s (pc + 3) L (.ref (xa X (p + 5)) :: st)) : V X Q kc ks s pc L (.ref (xa X p) :: st) := fun H locs ls hP hS hh =>
  va_get (D := gD (xg X)) (ci := 7) (v := .ref (xa X (p + 5))) (C := R_Yar) (T := F_Yar) (N := 9) C.1 C.2.1 C.2.2.2.2.1 i_Yar C.2.2.2.1 C.2.2.2.2.2.1 hP p (gw_obj hk (by decide) (by decide)) rfl 5 (by decide) (C.2.2.2.2.1 _ hl) (fun _ h9 => h9) rfl d (k H locs ls hP hS hh)
theorem g_Yar_6 (C : Cok X cc own nL ret rm) {i : Nat} (hk : kd p = 3) (hl : Cond.fieldLink own i "BreatheOut$Yards" "minutesBack" "[I" ∈ tbl) (d : decode cc pc = .ok (.getfield i, 3)) (k : V X Q kc ks s (pc + 3) L (.ref (xa X (p + 6)) :: st)) : V X Q kc ks s pc L (.ref (xa X p) :: st) := fun H locs ls hP hS hh =>
  va_get (D := gD (xg X)) (ci := 7) (v := .ref (xa X (p + 6))) (C := R_Yar) (T := F_Yar) (N := 9) C.1 C.2.1 C.2.2.2.2.1 i_Yar C.2.2.2.1 C.2.2.2.2.2.1 hP p (gw_obj hk (by decide) (by decide)) rfl 6 (by decide) (C.2.2.2.2.1 _ hl) (fun _ h9 => h9) rfl d (k H locs ls hP hS hh)
theorem g_Yar_7 (C : Cok X cc own nL ret rm) {i : Nat} (hk : kd p = 3) (hl : Cond.fieldLink own i "BreatheOut$Yards" "moreHeadFirst" "[I" ∈ tbl) (d : decode cc pc = .ok (.getfield i, 3)) (k : V X Q kc ks s (pc + 3) L (.ref (xa X (p + 7)) :: st)) : V X Q kc ks s pc L (.ref (xa X p) :: st) := fun H locs ls hP hS hh =>
  va_get (D := gD (xg X)) (ci := 7) (v := .ref (xa X (p + 7))) (C := R_Yar) (T := F_Yar) (N := 9) C.1 C.2.1 C.2.2.2.2.1 i_Yar C.2.2.2.1 C.2.2.2.2.2.1 hP p (gw_obj hk (by decide) (by decide)) rfl 7 (by decide) (C.2.2.2.2.1 _ hl) (fun _ h9 => h9) rfl d (k H locs ls hP hS hh)
theorem g_Yar_8 (C : Cok X cc own nL ret rm) {i : Nat} (hk : kd p = 3) (hl : Cond.fieldLink own i "BreatheOut$Yards" "moreFeetFirst" "[I" ∈ tbl) (d : decode cc pc = .ok (.getfield i, 3)) (k : V X Q kc ks s (pc + 3) L (.ref (xa X (p + 8)) :: st)) : V X Q kc ks s pc L (.ref (xa X p) :: st) := fun H locs ls hP hS hh =>
  va_get (D := gD (xg X)) (ci := 7) (v := .ref (xa X (p + 8))) (C := R_Yar) (T := F_Yar) (N := 9) C.1 C.2.1 C.2.2.2.2.1 i_Yar C.2.2.2.1 C.2.2.2.2.2.1 hP p (gw_obj hk (by decide) (by decide)) rfl 8 (by decide) (C.2.2.2.2.1 _ hl) (fun _ h9 => h9) rfl d (k H locs ls hP hS hh)
theorem g_Brt_0 (C : Cok X cc own nL ret rm) {i : Nat} (hk : kd p = 1) (hl : Cond.fieldLink own i "BreatheOut" "now" "LBreatheOut$Cave;" ∈ tbl) (d : decode cc pc = .ok (.getfield i, 3)) (k : V X Q kc ks s (pc + 3) L (.ref (xa X (p + 1)) :: st)) : V X Q kc ks s pc L (.ref (xa X p) :: st) := fun H locs ls hP hS hh =>
  va_get (D := gD (xg X)) (ci := 8) (v := .ref (xa X (p + 1))) (C := R_Brt) (T := F_Brt) (N := 9) C.1 C.2.1 C.2.2.2.2.1 i_Brt C.2.2.2.1 C.2.2.2.2.2.1 hP p (gw_obj hk (by decide) (by decide)) rfl 0 (by decide) (C.2.2.2.2.1 _ hl) (fun _ h9 => h9) rfl d (k H locs ls hP hS hh)
theorem g_Brt_1 (C : Cok X cc own nL ret rm) {i : Nat} (hk : kd p = 1) (hl : Cond.fieldLink own i "BreatheOut" "kept" "LBreatheOut$Cave;" ∈ tbl) (d : decode cc pc = .ok (.getfield i, 3)) (k : V X Q kc ks s (pc + 3) L (.ref (xa X (p + 18)) :: st)) : V X Q kc ks s pc L (.ref (xa X p) :: st) := fun H locs ls hP hS hh =>
  va_get (D := gD (xg X)) (ci := 8) (v := .ref (xa X (p + 18))) (C := R_Brt) (T := F_Brt) (N := 9) C.1 C.2.1 C.2.2.2.2.1 i_Brt C.2.2.2.1 C.2.2.2.2.2.1 hP p (gw_obj hk (by decide) (by decide)) rfl 1 (by decide) (C.2.2.2.2.1 _ hl) (fun _ h9 => h9) rfl d (k H locs ls hP hS hh)
theorem g_Brt_2 (C : Cok X cc own nL ret rm) {i : Nat} (hk : kd p = 1) (hl : Cond.fieldLink own i "BreatheOut" "trial" "LBreatheOut$Cave;" ∈ tbl) (d : decode cc pc = .ok (.getfield i, 3)) (k : V X Q kc ks s (pc + 3) L (.ref (xa X (p + 35)) :: st)) : V X Q kc ks s pc L (.ref (xa X p) :: st) := fun H locs ls hP hS hh =>
  va_get (D := gD (xg X)) (ci := 8) (v := .ref (xa X (p + 35))) (C := R_Brt) (T := F_Brt) (N := 9) C.1 C.2.1 C.2.2.2.2.1 i_Brt C.2.2.2.1 C.2.2.2.2.2.1 hP p (gw_obj hk (by decide) (by decide)) rfl 2 (by decide) (C.2.2.2.2.1 _ hl) (fun _ h9 => h9) rfl d (k H locs ls hP hS hh)
theorem g_Brt_3 (C : Cok X cc own nL ret rm) {i : Nat} (hk : kd p = 1) (hl : Cond.fieldLink own i "BreatheOut" "trip" "LBreatheOut$Trip;" ∈ tbl) (d : decode cc pc = .ok (.getfield i, 3)) (k : V X Q kc ks s (pc + 3) L (.ref (xa X (p + 52)) :: st)) : V X Q kc ks s pc L (.ref (xa X p) :: st) := fun H locs ls hP hS hh =>
  va_get (D := gD (xg X)) (ci := 8) (v := .ref (xa X (p + 52))) (C := R_Brt) (T := F_Brt) (N := 9) C.1 C.2.1 C.2.2.2.2.1 i_Brt C.2.2.2.1 C.2.2.2.2.2.1 hP p (gw_obj hk (by decide) (by decide)) rfl 3 (by decide) (C.2.2.2.2.1 _ hl) (fun _ h9 => h9) rfl d (k H locs ls hP hS hh)
theorem g_Brt_4 (C : Cok X cc own nL ret rm) {i : Nat} (hk : kd p = 1) (hl : Cond.fieldLink own i "BreatheOut" "best" "LBreatheOut$BestOrder;" ∈ tbl) (d : decode cc pc = .ok (.getfield i, 3)) (k : V X Q kc ks s (pc + 3) L (.ref (xa X (p + 58)) :: st)) : V X Q kc ks s pc L (.ref (xa X p) :: st) := fun H locs ls hP hS hh =>
  va_get (D := gD (xg X)) (ci := 8) (v := .ref (xa X (p + 58))) (C := R_Brt) (T := F_Brt) (N := 9) C.1 C.2.1 C.2.2.2.2.1 i_Brt C.2.2.2.1 C.2.2.2.2.2.1 hP p (gw_obj hk (by decide) (by decide)) rfl 4 (by decide) (C.2.2.2.2.1 _ hl) (fun _ h9 => h9) rfl d (k H locs ls hP hS hh)
theorem g_Brt_5 (C : Cok X cc own nL ret rm) {i : Nat} (hk : kd p = 1) (hl : Cond.fieldLink own i "BreatheOut" "rescuers" "LBreatheOut$Rescuers;" ∈ tbl) (d : decode cc pc = .ok (.getfield i, 3)) (k : V X Q kc ks s (pc + 3) L (.ref (xa X (p + 61)) :: st)) : V X Q kc ks s pc L (.ref (xa X p) :: st) := fun H locs ls hP hS hh =>
  va_get (D := gD (xg X)) (ci := 8) (v := .ref (xa X (p + 61))) (C := R_Brt) (T := F_Brt) (N := 9) C.1 C.2.1 C.2.2.2.2.1 i_Brt C.2.2.2.1 C.2.2.2.2.2.1 hP p (gw_obj hk (by decide) (by decide)) rfl 5 (by decide) (C.2.2.2.2.1 _ hl) (fun _ h9 => h9) rfl d (k H locs ls hP hS hh)
theorem g_Brt_6 (C : Cok X cc own nL ret rm) {i : Nat} (hk : kd p = 1) (hl : Cond.fieldLink own i "BreatheOut" "line" "[I" ∈ tbl) (d : decode cc pc = .ok (.getfield i, 3)) (k : V X Q kc ks s (pc + 3) L (.ref (xa X (p + 64)) :: st)) : V X Q kc ks s pc L (.ref (xa X p) :: st) := fun H locs ls hP hS hh =>
  va_get (D := gD (xg X)) (ci := 8) (v := .ref (xa X (p + 64))) (C := R_Brt) (T := F_Brt) (N := 9) C.1 C.2.1 C.2.2.2.2.1 i_Brt C.2.2.2.1 C.2.2.2.2.2.1 hP p (gw_obj hk (by decide) (by decide)) rfl 6 (by decide) (C.2.2.2.2.1 _ hl) (fun _ h9 => h9) rfl d (k H locs ls hP hS hh)
theorem g_Brt_7 (C : Cok X cc own nL ret rm) {i : Nat} (hk : kd p = 1) (hl : Cond.fieldLink own i "BreatheOut" "shelves" "[LBreatheOut$Shelf;" ∈ tbl) (d : decode cc pc = .ok (.getfield i, 3)) (k : V X Q kc ks s (pc + 3) L (.ref (xa X (p + 65)) :: st)) : V X Q kc ks s pc L (.ref (xa X p) :: st) := fun H locs ls hP hS hh =>
  va_get (D := gD (xg X)) (ci := 8) (v := .ref (xa X (p + 65))) (C := R_Brt) (T := F_Brt) (N := 9) C.1 C.2.1 C.2.2.2.2.1 i_Brt C.2.2.2.1 C.2.2.2.2.2.1 hP p (gw_obj hk (by decide) (by decide)) rfl 7 (by decide) (C.2.2.2.2.1 _ hl) (fun _ h9 => h9) rfl d (k H locs ls hP hS hh)
theorem g_Brt_8 (C : Cok X cc own nL ret rm) {i : Nat} (hk : kd p = 1) (hl : Cond.fieldLink own i "BreatheOut" "imageTaken" "Z" ∈ tbl) (d : decode cc pc = .ok (.getfield i, 3)) (k : V X Q kc ks s (pc + 3) L (.int (s p 8) :: st)) : V X Q kc ks s pc L (.ref (xa X p) :: st) := fun H locs ls hP hS hh =>
  va_get (D := gD (xg X)) (ci := 8) (v := .int (s p 8)) (C := R_Brt) (T := F_Brt) (N := 9) C.1 C.2.1 C.2.2.2.2.1 i_Brt C.2.2.2.1 C.2.2.2.2.2.1 hP p (gw_obj hk (by decide) (by decide)) rfl 8 (by decide) (C.2.2.2.2.1 _ hl) (fun _ h9 => h9) rfl d (k H locs ls hP hS hh)
theorem p_Brt_8 (C : Cok X cc own nL ret rm) {i : Nat} {v : Int32} (hk : kd p = 1) (hl : Cond.fieldLink own i "BreatheOut" "imageTaken" "Z" ∈ tbl) (hz : narrow .boolean (.int v) = .int v ∧ fits .boolean (.int v) = true) (d : decode cc pc = .ok (.putfield i, 3)) (k : V X Q kc ks (wr s p 8 v) (pc + 3) L st) : V X Q kc ks s pc L (.int v :: .ref (xa X p) :: st) := fun H locs ls hP hS hh =>
  va_put (D := gD (xg X)) (ci := 8) (v := .int v) (ty := .boolean) (C := R_Brt) (T := F_Brt) (N := 9) C.1 C.2.1 C.2.2.2.2.1 i_Brt t_Brt t_Brt_ok n_Brt C.2.2.2.1 C.2.2.2.2.2.1 hP (C.2.2.2.2.2.2.1 s) hS p (gw_obj hk (by decide) (by decide)) rfl 8 (by decide) (C.2.2.2.2.1 _ hl) (fun _ h9 => h9) rfl (by decide +kernel) hz.1 hz.2 (Nat.le_of_ble_eq_true rfl) d (fun H1 locs1 hP1 hD1 hS1 => k H1 locs1 ls (by rw [← gw_put (g := xg X) (s := s) (j := 8) (v := v) hk (by decide) (by decide) rfl]; simpa [cellO, wr] using hP1) hS1 hh)
theorem g_Mod_0 (C : Cok X cc own nL ret rm) {i : Nat} (hk : kd p = 10) (hl : Cond.fieldLink own i "BreatheOutModel" "s" "[I" ∈ tbl) (d : decode cc pc = .ok (.getfield i, 3)) (k : V X Q kc ks s (pc + 3) L (.ref (xa X (p + 1)) :: st)) : V X Q kc ks s pc L (.ref (xa X p) :: st) := fun H locs ls hP hS hh =>
  va_get (D := gD (xg X)) (ci := 9) (v := .ref (xa X (p + 1))) (C := R_Mod) (T := F_Mod) (N := 40) C.1 C.2.1 C.2.2.2.2.1 i_Mod C.2.2.2.1 C.2.2.2.2.2.1 hP p (gw_obj hk (by decide) (by decide)) rfl 0 (by decide) (C.2.2.2.2.1 _ hl) (fun _ h9 => h9) rfl d (k H locs ls hP hS hh)
theorem g_Mod_1 (C : Cok X cc own nL ret rm) {i : Nat} (hk : kd p = 10) (hl : Cond.fieldLink own i "BreatheOutModel" "image" "[I" ∈ tbl) (d : decode cc pc = .ok (.getfield i, 3)) (k : V X Q kc ks s (pc + 3) L (.ref (xa X (p + 2)) :: st)) : V X Q kc ks s pc L (.ref (xa X p) :: st) := fun H locs ls hP hS hh =>
  va_get (D := gD (xg X)) (ci := 9) (v := .ref (xa X (p + 2))) (C := R_Mod) (T := F_Mod) (N := 40) C.1 C.2.1 C.2.2.2.2.1 i_Mod C.2.2.2.1 C.2.2.2.2.2.1 hP p (gw_obj hk (by decide) (by decide)) rfl 1 (by decide) (C.2.2.2.2.1 _ hl) (fun _ h9 => h9) rfl d (k H locs ls hP hS hh)
theorem g_Mod_2 (C : Cok X cc own nL ret rm) {i : Nat} (hk : kd p = 10) (hl : Cond.fieldLink own i "BreatheOutModel" "was" "[I" ∈ tbl) (d : decode cc pc = .ok (.getfield i, 3)) (k : V X Q kc ks s (pc + 3) L (.ref (xa X (p + 3)) :: st)) : V X Q kc ks s pc L (.ref (xa X p) :: st) := fun H locs ls hP hS hh =>
  va_get (D := gD (xg X)) (ci := 9) (v := .ref (xa X (p + 3))) (C := R_Mod) (T := F_Mod) (N := 40) C.1 C.2.1 C.2.2.2.2.1 i_Mod C.2.2.2.1 C.2.2.2.2.2.1 hP p (gw_obj hk (by decide) (by decide)) rfl 2 (by decide) (C.2.2.2.2.1 _ hl) (fun _ h9 => h9) rfl d (k H locs ls hP hS hh)
theorem g_Mod_3 (C : Cok X cc own nL ret rm) {i : Nat} (hk : kd p = 10) (hl : Cond.fieldLink own i "BreatheOutModel" "hasImage" "Z" ∈ tbl) (d : decode cc pc = .ok (.getfield i, 3)) (k : V X Q kc ks s (pc + 3) L (.int (s p 3) :: st)) : V X Q kc ks s pc L (.ref (xa X p) :: st) := fun H locs ls hP hS hh =>
  va_get (D := gD (xg X)) (ci := 9) (v := .int (s p 3)) (C := R_Mod) (T := F_Mod) (N := 40) C.1 C.2.1 C.2.2.2.2.1 i_Mod C.2.2.2.1 C.2.2.2.2.2.1 hP p (gw_obj hk (by decide) (by decide)) rfl 3 (by decide) (C.2.2.2.2.1 _ hl) (fun _ h9 => h9) rfl d (k H locs ls hP hS hh)
theorem p_Mod_3 (C : Cok X cc own nL ret rm) {i : Nat} {v : Int32} (hk : kd p = 10) (hl : Cond.fieldLink own i "BreatheOutModel" "hasImage" "Z" ∈ tbl) (hz : narrow .boolean (.int v) = .int v ∧ fits .boolean (.int v) = true) (d : decode cc pc = .ok (.putfield i, 3)) (k : V X Q kc ks (wr s p 3 v) (pc + 3) L st) : V X Q kc ks s pc L (.int v :: .ref (xa X p) :: st) := fun H locs ls hP hS hh =>
  va_put (D := gD (xg X)) (ci := 9) (v := .int v) (ty := .boolean) (C := R_Mod) (T := F_Mod) (N := 40) C.1 C.2.1 C.2.2.2.2.1 i_Mod t_Mod t_Mod_ok n_Mod C.2.2.2.1 C.2.2.2.2.2.1 hP (C.2.2.2.2.2.2.1 s) hS p (gw_obj hk (by decide) (by decide)) rfl 3 (by decide) (C.2.2.2.2.1 _ hl) (fun _ h9 => h9) rfl (by decide +kernel) hz.1 hz.2 (Nat.le_of_ble_eq_true rfl) d (fun H1 locs1 hP1 hD1 hS1 => k H1 locs1 ls (by rw [← gw_put (g := xg X) (s := s) (j := 3) (v := v) hk (by decide) (by decide) rfl]; simpa [cellO, wr] using hP1) hS1 hh)
theorem g_Mod_4 (C : Cok X cc own nL ret rm) {i : Nat} (hk : kd p = 10) (hl : Cond.fieldLink own i "BreatheOutModel" "clock" "I" ∈ tbl) (d : decode cc pc = .ok (.getfield i, 3)) (k : V X Q kc ks s (pc + 3) L (.int (s p 4) :: st)) : V X Q kc ks s pc L (.ref (xa X p) :: st) := fun H locs ls hP hS hh =>
  va_get (D := gD (xg X)) (ci := 9) (v := .int (s p 4)) (C := R_Mod) (T := F_Mod) (N := 40) C.1 C.2.1 C.2.2.2.2.1 i_Mod C.2.2.2.1 C.2.2.2.2.2.1 hP p (gw_obj hk (by decide) (by decide)) rfl 4 (by decide) (C.2.2.2.2.1 _ hl) (fun _ h9 => h9) rfl d (k H locs ls hP hS hh)
theorem p_Mod_4 (C : Cok X cc own nL ret rm) {i : Nat} {v : Int32} (hk : kd p = 10) (hl : Cond.fieldLink own i "BreatheOutModel" "clock" "I" ∈ tbl) (d : decode cc pc = .ok (.putfield i, 3)) (k : V X Q kc ks (wr s p 4 v) (pc + 3) L st) : V X Q kc ks s pc L (.int v :: .ref (xa X p) :: st) := fun H locs ls hP hS hh =>
  va_put (D := gD (xg X)) (ci := 9) (v := .int v) (ty := .int) (C := R_Mod) (T := F_Mod) (N := 40) C.1 C.2.1 C.2.2.2.2.1 i_Mod t_Mod t_Mod_ok n_Mod C.2.2.2.1 C.2.2.2.2.2.1 hP (C.2.2.2.2.2.2.1 s) hS p (gw_obj hk (by decide) (by decide)) rfl 4 (by decide) (C.2.2.2.2.1 _ hl) (fun _ h9 => h9) rfl (by decide +kernel) rfl rfl (Nat.le_of_ble_eq_true rfl) d (fun H1 locs1 hP1 hD1 hS1 => k H1 locs1 ls (by rw [← gw_put (g := xg X) (s := s) (j := 4) (v := v) hk (by decide) (by decide) rfl]; simpa [cellO, wr] using hP1) hS1 hh)
theorem g_Mod_5 (C : Cok X cc own nL ret rm) {i : Nat} (hk : kd p = 10) (hl : Cond.fieldLink own i "BreatheOutModel" "breaths" "I" ∈ tbl) (d : decode cc pc = .ok (.getfield i, 3)) (k : V X Q kc ks s (pc + 3) L (.int (s p 5) :: st)) : V X Q kc ks s pc L (.ref (xa X p) :: st) := fun H locs ls hP hS hh =>
  va_get (D := gD (xg X)) (ci := 9) (v := .int (s p 5)) (C := R_Mod) (T := F_Mod) (N := 40) C.1 C.2.1 C.2.2.2.2.1 i_Mod C.2.2.2.1 C.2.2.2.2.2.1 hP p (gw_obj hk (by decide) (by decide)) rfl 5 (by decide) (C.2.2.2.2.1 _ hl) (fun _ h9 => h9) rfl d (k H locs ls hP hS hh)
theorem p_Mod_5 (C : Cok X cc own nL ret rm) {i : Nat} {v : Int32} (hk : kd p = 10) (hl : Cond.fieldLink own i "BreatheOutModel" "breaths" "I" ∈ tbl) (d : decode cc pc = .ok (.putfield i, 3)) (k : V X Q kc ks (wr s p 5 v) (pc + 3) L st) : V X Q kc ks s pc L (.int v :: .ref (xa X p) :: st) := fun H locs ls hP hS hh =>
  va_put (D := gD (xg X)) (ci := 9) (v := .int v) (ty := .int) (C := R_Mod) (T := F_Mod) (N := 40) C.1 C.2.1 C.2.2.2.2.1 i_Mod t_Mod t_Mod_ok n_Mod C.2.2.2.1 C.2.2.2.2.2.1 hP (C.2.2.2.2.2.2.1 s) hS p (gw_obj hk (by decide) (by decide)) rfl 5 (by decide) (C.2.2.2.2.1 _ hl) (fun _ h9 => h9) rfl (by decide +kernel) rfl rfl (Nat.le_of_ble_eq_true rfl) d (fun H1 locs1 hP1 hD1 hS1 => k H1 locs1 ls (by rw [← gw_put (g := xg X) (s := s) (j := 5) (v := v) hk (by decide) (by decide) rfl]; simpa [cellO, wr] using hP1) hS1 hh)
theorem g_Mod_6 (C : Cok X cc own nL ret rm) {i : Nat} (hk : kd p = 10) (hl : Cond.fieldLink own i "BreatheOutModel" "stuckAt" "I" ∈ tbl) (d : decode cc pc = .ok (.getfield i, 3)) (k : V X Q kc ks s (pc + 3) L (.int (s p 6) :: st)) : V X Q kc ks s pc L (.ref (xa X p) :: st) := fun H locs ls hP hS hh =>
  va_get (D := gD (xg X)) (ci := 9) (v := .int (s p 6)) (C := R_Mod) (T := F_Mod) (N := 40) C.1 C.2.1 C.2.2.2.2.1 i_Mod C.2.2.2.1 C.2.2.2.2.2.1 hP p (gw_obj hk (by decide) (by decide)) rfl 6 (by decide) (C.2.2.2.2.1 _ hl) (fun _ h9 => h9) rfl d (k H locs ls hP hS hh)
theorem p_Mod_6 (C : Cok X cc own nL ret rm) {i : Nat} {v : Int32} (hk : kd p = 10) (hl : Cond.fieldLink own i "BreatheOutModel" "stuckAt" "I" ∈ tbl) (d : decode cc pc = .ok (.putfield i, 3)) (k : V X Q kc ks (wr s p 6 v) (pc + 3) L st) : V X Q kc ks s pc L (.int v :: .ref (xa X p) :: st) := fun H locs ls hP hS hh =>
  va_put (D := gD (xg X)) (ci := 9) (v := .int v) (ty := .int) (C := R_Mod) (T := F_Mod) (N := 40) C.1 C.2.1 C.2.2.2.2.1 i_Mod t_Mod t_Mod_ok n_Mod C.2.2.2.1 C.2.2.2.2.2.1 hP (C.2.2.2.2.2.2.1 s) hS p (gw_obj hk (by decide) (by decide)) rfl 6 (by decide) (C.2.2.2.2.1 _ hl) (fun _ h9 => h9) rfl (by decide +kernel) rfl rfl (Nat.le_of_ble_eq_true rfl) d (fun H1 locs1 hP1 hD1 hS1 => k H1 locs1 ls (by rw [← gw_put (g := xg X) (s := s) (j := 6) (v := v) hk (by decide) (by decide) rfl]; simpa [cellO, wr] using hP1) hS1 hh)
theorem g_Mod_7 (C : Cok X cc own nL ret rm) {i : Nat} (hk : kd p = 10) (hl : Cond.fieldLink own i "BreatheOutModel" "away" "I" ∈ tbl) (d : decode cc pc = .ok (.getfield i, 3)) (k : V X Q kc ks s (pc + 3) L (.int (s p 7) :: st)) : V X Q kc ks s pc L (.ref (xa X p) :: st) := fun H locs ls hP hS hh =>
  va_get (D := gD (xg X)) (ci := 9) (v := .int (s p 7)) (C := R_Mod) (T := F_Mod) (N := 40) C.1 C.2.1 C.2.2.2.2.1 i_Mod C.2.2.2.1 C.2.2.2.2.2.1 hP p (gw_obj hk (by decide) (by decide)) rfl 7 (by decide) (C.2.2.2.2.1 _ hl) (fun _ h9 => h9) rfl d (k H locs ls hP hS hh)
theorem p_Mod_7 (C : Cok X cc own nL ret rm) {i : Nat} {v : Int32} (hk : kd p = 10) (hl : Cond.fieldLink own i "BreatheOutModel" "away" "I" ∈ tbl) (d : decode cc pc = .ok (.putfield i, 3)) (k : V X Q kc ks (wr s p 7 v) (pc + 3) L st) : V X Q kc ks s pc L (.int v :: .ref (xa X p) :: st) := fun H locs ls hP hS hh =>
  va_put (D := gD (xg X)) (ci := 9) (v := .int v) (ty := .int) (C := R_Mod) (T := F_Mod) (N := 40) C.1 C.2.1 C.2.2.2.2.1 i_Mod t_Mod t_Mod_ok n_Mod C.2.2.2.1 C.2.2.2.2.2.1 hP (C.2.2.2.2.2.2.1 s) hS p (gw_obj hk (by decide) (by decide)) rfl 7 (by decide) (C.2.2.2.2.1 _ hl) (fun _ h9 => h9) rfl (by decide +kernel) rfl rfl (Nat.le_of_ble_eq_true rfl) d (fun H1 locs1 hP1 hD1 hS1 => k H1 locs1 ls (by rw [← gw_put (g := xg X) (s := s) (j := 7) (v := v) hk (by decide) (by decide) rfl]; simpa [cellO, wr] using hP1) hS1 hh)
theorem g_Mod_8 (C : Cok X cc own nL ret rm) {i : Nat} (hk : kd p = 10) (hl : Cond.fieldLink own i "BreatheOutModel" "through" "I" ∈ tbl) (d : decode cc pc = .ok (.getfield i, 3)) (k : V X Q kc ks s (pc + 3) L (.int (s p 8) :: st)) : V X Q kc ks s pc L (.ref (xa X p) :: st) := fun H locs ls hP hS hh =>
  va_get (D := gD (xg X)) (ci := 9) (v := .int (s p 8)) (C := R_Mod) (T := F_Mod) (N := 40) C.1 C.2.1 C.2.2.2.2.1 i_Mod C.2.2.2.1 C.2.2.2.2.2.1 hP p (gw_obj hk (by decide) (by decide)) rfl 8 (by decide) (C.2.2.2.2.1 _ hl) (fun _ h9 => h9) rfl d (k H locs ls hP hS hh)
theorem p_Mod_8 (C : Cok X cc own nL ret rm) {i : Nat} {v : Int32} (hk : kd p = 10) (hl : Cond.fieldLink own i "BreatheOutModel" "through" "I" ∈ tbl) (d : decode cc pc = .ok (.putfield i, 3)) (k : V X Q kc ks (wr s p 8 v) (pc + 3) L st) : V X Q kc ks s pc L (.int v :: .ref (xa X p) :: st) := fun H locs ls hP hS hh =>
  va_put (D := gD (xg X)) (ci := 9) (v := .int v) (ty := .int) (C := R_Mod) (T := F_Mod) (N := 40) C.1 C.2.1 C.2.2.2.2.1 i_Mod t_Mod t_Mod_ok n_Mod C.2.2.2.1 C.2.2.2.2.2.1 hP (C.2.2.2.2.2.2.1 s) hS p (gw_obj hk (by decide) (by decide)) rfl 8 (by decide) (C.2.2.2.2.1 _ hl) (fun _ h9 => h9) rfl (by decide +kernel) rfl rfl (Nat.le_of_ble_eq_true rfl) d (fun H1 locs1 hP1 hD1 hS1 => k H1 locs1 ls (by rw [← gw_put (g := xg X) (s := s) (j := 8) (v := v) hk (by decide) (by decide) rfl]; simpa [cellO, wr] using hP1) hS1 hh)
theorem g_Mod_9 (C : Cok X cc own nL ret rm) {i : Nat} (hk : kd p = 10) (hl : Cond.fieldLink own i "BreatheOutModel" "stuck" "I" ∈ tbl) (d : decode cc pc = .ok (.getfield i, 3)) (k : V X Q kc ks s (pc + 3) L (.int (s p 9) :: st)) : V X Q kc ks s pc L (.ref (xa X p) :: st) := fun H locs ls hP hS hh =>
  va_get (D := gD (xg X)) (ci := 9) (v := .int (s p 9)) (C := R_Mod) (T := F_Mod) (N := 40) C.1 C.2.1 C.2.2.2.2.1 i_Mod C.2.2.2.1 C.2.2.2.2.2.1 hP p (gw_obj hk (by decide) (by decide)) rfl 9 (by decide) (C.2.2.2.2.1 _ hl) (fun _ h9 => h9) rfl d (k H locs ls hP hS hh)
theorem p_Mod_9 (C : Cok X cc own nL ret rm) {i : Nat} {v : Int32} (hk : kd p = 10) (hl : Cond.fieldLink own i "BreatheOutModel" "stuck" "I" ∈ tbl) (d : decode cc pc = .ok (.putfield i, 3)) (k : V X Q kc ks (wr s p 9 v) (pc + 3) L st) : V X Q kc ks s pc L (.int v :: .ref (xa X p) :: st) := fun H locs ls hP hS hh =>
  va_put (D := gD (xg X)) (ci := 9) (v := .int v) (ty := .int) (C := R_Mod) (T := F_Mod) (N := 40) C.1 C.2.1 C.2.2.2.2.1 i_Mod t_Mod t_Mod_ok n_Mod C.2.2.2.1 C.2.2.2.2.2.1 hP (C.2.2.2.2.2.2.1 s) hS p (gw_obj hk (by decide) (by decide)) rfl 9 (by decide) (C.2.2.2.2.1 _ hl) (fun _ h9 => h9) rfl (by decide +kernel) rfl rfl (Nat.le_of_ble_eq_true rfl) d (fun H1 locs1 hP1 hD1 hS1 => k H1 locs1 ls (by rw [← gw_put (g := xg X) (s := s) (j := 9) (v := v) hk (by decide) (by decide) rfl]; simpa [cellO, wr] using hP1) hS1 hh)
theorem g_Mod_10 (C : Cok X cc own nL ret rm) {i : Nat} (hk : kd p = 10) (hl : Cond.fieldLink own i "BreatheOutModel" "where" "I" ∈ tbl) (d : decode cc pc = .ok (.getfield i, 3)) (k : V X Q kc ks s (pc + 3) L (.int (s p 10) :: st)) : V X Q kc ks s pc L (.ref (xa X p) :: st) := fun H locs ls hP hS hh =>
  va_get (D := gD (xg X)) (ci := 9) (v := .int (s p 10)) (C := R_Mod) (T := F_Mod) (N := 40) C.1 C.2.1 C.2.2.2.2.1 i_Mod C.2.2.2.1 C.2.2.2.2.2.1 hP p (gw_obj hk (by decide) (by decide)) rfl 10 (by decide) (C.2.2.2.2.1 _ hl) (fun _ h9 => h9) rfl d (k H locs ls hP hS hh)
theorem p_Mod_10 (C : Cok X cc own nL ret rm) {i : Nat} {v : Int32} (hk : kd p = 10) (hl : Cond.fieldLink own i "BreatheOutModel" "where" "I" ∈ tbl) (d : decode cc pc = .ok (.putfield i, 3)) (k : V X Q kc ks (wr s p 10 v) (pc + 3) L st) : V X Q kc ks s pc L (.int v :: .ref (xa X p) :: st) := fun H locs ls hP hS hh =>
  va_put (D := gD (xg X)) (ci := 9) (v := .int v) (ty := .int) (C := R_Mod) (T := F_Mod) (N := 40) C.1 C.2.1 C.2.2.2.2.1 i_Mod t_Mod t_Mod_ok n_Mod C.2.2.2.1 C.2.2.2.2.2.1 hP (C.2.2.2.2.2.2.1 s) hS p (gw_obj hk (by decide) (by decide)) rfl 10 (by decide) (C.2.2.2.2.1 _ hl) (fun _ h9 => h9) rfl (by decide +kernel) rfl rfl (Nat.le_of_ble_eq_true rfl) d (fun H1 locs1 hP1 hD1 hS1 => k H1 locs1 ls (by rw [← gw_put (g := xg X) (s := s) (j := 10) (v := v) hk (by decide) (by decide) rfl]; simpa [cellO, wr] using hP1) hS1 hh)
theorem g_Mod_11 (C : Cok X cc own nL ret rm) {i : Nat} (hk : kd p = 10) (hl : Cond.fieldLink own i "BreatheOutModel" "came" "I" ∈ tbl) (d : decode cc pc = .ok (.getfield i, 3)) (k : V X Q kc ks s (pc + 3) L (.int (s p 11) :: st)) : V X Q kc ks s pc L (.ref (xa X p) :: st) := fun H locs ls hP hS hh =>
  va_get (D := gD (xg X)) (ci := 9) (v := .int (s p 11)) (C := R_Mod) (T := F_Mod) (N := 40) C.1 C.2.1 C.2.2.2.2.1 i_Mod C.2.2.2.1 C.2.2.2.2.2.1 hP p (gw_obj hk (by decide) (by decide)) rfl 11 (by decide) (C.2.2.2.2.1 _ hl) (fun _ h9 => h9) rfl d (k H locs ls hP hS hh)
theorem p_Mod_11 (C : Cok X cc own nL ret rm) {i : Nat} {v : Int32} (hk : kd p = 10) (hl : Cond.fieldLink own i "BreatheOutModel" "came" "I" ∈ tbl) (d : decode cc pc = .ok (.putfield i, 3)) (k : V X Q kc ks (wr s p 11 v) (pc + 3) L st) : V X Q kc ks s pc L (.int v :: .ref (xa X p) :: st) := fun H locs ls hP hS hh =>
  va_put (D := gD (xg X)) (ci := 9) (v := .int v) (ty := .int) (C := R_Mod) (T := F_Mod) (N := 40) C.1 C.2.1 C.2.2.2.2.1 i_Mod t_Mod t_Mod_ok n_Mod C.2.2.2.1 C.2.2.2.2.2.1 hP (C.2.2.2.2.2.2.1 s) hS p (gw_obj hk (by decide) (by decide)) rfl 11 (by decide) (C.2.2.2.2.1 _ hl) (fun _ h9 => h9) rfl (by decide +kernel) rfl rfl (Nat.le_of_ble_eq_true rfl) d (fun H1 locs1 hP1 hD1 hS1 => k H1 locs1 ls (by rw [← gw_put (g := xg X) (s := s) (j := 11) (v := v) hk (by decide) (by decide) rfl]; simpa [cellO, wr] using hP1) hS1 hh)
theorem g_Mod_12 (C : Cok X cc own nL ret rm) {i : Nat} (hk : kd p = 10) (hl : Cond.fieldLink own i "BreatheOutModel" "stuckBack" "I" ∈ tbl) (d : decode cc pc = .ok (.getfield i, 3)) (k : V X Q kc ks s (pc + 3) L (.int (s p 12) :: st)) : V X Q kc ks s pc L (.ref (xa X p) :: st) := fun H locs ls hP hS hh =>
  va_get (D := gD (xg X)) (ci := 9) (v := .int (s p 12)) (C := R_Mod) (T := F_Mod) (N := 40) C.1 C.2.1 C.2.2.2.2.1 i_Mod C.2.2.2.1 C.2.2.2.2.2.1 hP p (gw_obj hk (by decide) (by decide)) rfl 12 (by decide) (C.2.2.2.2.1 _ hl) (fun _ h9 => h9) rfl d (k H locs ls hP hS hh)
theorem p_Mod_12 (C : Cok X cc own nL ret rm) {i : Nat} {v : Int32} (hk : kd p = 10) (hl : Cond.fieldLink own i "BreatheOutModel" "stuckBack" "I" ∈ tbl) (d : decode cc pc = .ok (.putfield i, 3)) (k : V X Q kc ks (wr s p 12 v) (pc + 3) L st) : V X Q kc ks s pc L (.int v :: .ref (xa X p) :: st) := fun H locs ls hP hS hh =>
  va_put (D := gD (xg X)) (ci := 9) (v := .int v) (ty := .int) (C := R_Mod) (T := F_Mod) (N := 40) C.1 C.2.1 C.2.2.2.2.1 i_Mod t_Mod t_Mod_ok n_Mod C.2.2.2.1 C.2.2.2.2.2.1 hP (C.2.2.2.2.2.2.1 s) hS p (gw_obj hk (by decide) (by decide)) rfl 12 (by decide) (C.2.2.2.2.1 _ hl) (fun _ h9 => h9) rfl (by decide +kernel) rfl rfl (Nat.le_of_ble_eq_true rfl) d (fun H1 locs1 hP1 hD1 hS1 => k H1 locs1 ls (by rw [← gw_put (g := xg X) (s := s) (j := 12) (v := v) hk (by decide) (by decide) rfl]; simpa [cellO, wr] using hP1) hS1 hh)
theorem g_Mod_13 (C : Cok X cc own nL ret rm) {i : Nat} (hk : kd p = 10) (hl : Cond.fieldLink own i "BreatheOutModel" "goClock" "I" ∈ tbl) (d : decode cc pc = .ok (.getfield i, 3)) (k : V X Q kc ks s (pc + 3) L (.int (s p 13) :: st)) : V X Q kc ks s pc L (.ref (xa X p) :: st) := fun H locs ls hP hS hh =>
  va_get (D := gD (xg X)) (ci := 9) (v := .int (s p 13)) (C := R_Mod) (T := F_Mod) (N := 40) C.1 C.2.1 C.2.2.2.2.1 i_Mod C.2.2.2.1 C.2.2.2.2.2.1 hP p (gw_obj hk (by decide) (by decide)) rfl 13 (by decide) (C.2.2.2.2.1 _ hl) (fun _ h9 => h9) rfl d (k H locs ls hP hS hh)
theorem p_Mod_13 (C : Cok X cc own nL ret rm) {i : Nat} {v : Int32} (hk : kd p = 10) (hl : Cond.fieldLink own i "BreatheOutModel" "goClock" "I" ∈ tbl) (d : decode cc pc = .ok (.putfield i, 3)) (k : V X Q kc ks (wr s p 13 v) (pc + 3) L st) : V X Q kc ks s pc L (.int v :: .ref (xa X p) :: st) := fun H locs ls hP hS hh =>
  va_put (D := gD (xg X)) (ci := 9) (v := .int v) (ty := .int) (C := R_Mod) (T := F_Mod) (N := 40) C.1 C.2.1 C.2.2.2.2.1 i_Mod t_Mod t_Mod_ok n_Mod C.2.2.2.1 C.2.2.2.2.2.1 hP (C.2.2.2.2.2.2.1 s) hS p (gw_obj hk (by decide) (by decide)) rfl 13 (by decide) (C.2.2.2.2.1 _ hl) (fun _ h9 => h9) rfl (by decide +kernel) rfl rfl (Nat.le_of_ble_eq_true rfl) d (fun H1 locs1 hP1 hD1 hS1 => k H1 locs1 ls (by rw [← gw_put (g := xg X) (s := s) (j := 13) (v := v) hk (by decide) (by decide) rfl]; simpa [cellO, wr] using hP1) hS1 hh)
theorem g_Mod_14 (C : Cok X cc own nL ret rm) {i : Nat} (hk : kd p = 10) (hl : Cond.fieldLink own i "BreatheOutModel" "goBreaths" "I" ∈ tbl) (d : decode cc pc = .ok (.getfield i, 3)) (k : V X Q kc ks s (pc + 3) L (.int (s p 14) :: st)) : V X Q kc ks s pc L (.ref (xa X p) :: st) := fun H locs ls hP hS hh =>
  va_get (D := gD (xg X)) (ci := 9) (v := .int (s p 14)) (C := R_Mod) (T := F_Mod) (N := 40) C.1 C.2.1 C.2.2.2.2.1 i_Mod C.2.2.2.1 C.2.2.2.2.2.1 hP p (gw_obj hk (by decide) (by decide)) rfl 14 (by decide) (C.2.2.2.2.1 _ hl) (fun _ h9 => h9) rfl d (k H locs ls hP hS hh)
theorem p_Mod_14 (C : Cok X cc own nL ret rm) {i : Nat} {v : Int32} (hk : kd p = 10) (hl : Cond.fieldLink own i "BreatheOutModel" "goBreaths" "I" ∈ tbl) (d : decode cc pc = .ok (.putfield i, 3)) (k : V X Q kc ks (wr s p 14 v) (pc + 3) L st) : V X Q kc ks s pc L (.int v :: .ref (xa X p) :: st) := fun H locs ls hP hS hh =>
  va_put (D := gD (xg X)) (ci := 9) (v := .int v) (ty := .int) (C := R_Mod) (T := F_Mod) (N := 40) C.1 C.2.1 C.2.2.2.2.1 i_Mod t_Mod t_Mod_ok n_Mod C.2.2.2.1 C.2.2.2.2.2.1 hP (C.2.2.2.2.2.2.1 s) hS p (gw_obj hk (by decide) (by decide)) rfl 14 (by decide) (C.2.2.2.2.1 _ hl) (fun _ h9 => h9) rfl (by decide +kernel) rfl rfl (Nat.le_of_ble_eq_true rfl) d (fun H1 locs1 hP1 hD1 hS1 => k H1 locs1 ls (by rw [← gw_put (g := xg X) (s := s) (j := 14) (v := v) hk (by decide) (by decide) rfl]; simpa [cellO, wr] using hP1) hS1 hh)
theorem g_Mod_15 (C : Cok X cc own nL ret rm) {i : Nat} (hk : kd p = 10) (hl : Cond.fieldLink own i "BreatheOutModel" "backClock" "I" ∈ tbl) (d : decode cc pc = .ok (.getfield i, 3)) (k : V X Q kc ks s (pc + 3) L (.int (s p 15) :: st)) : V X Q kc ks s pc L (.ref (xa X p) :: st) := fun H locs ls hP hS hh =>
  va_get (D := gD (xg X)) (ci := 9) (v := .int (s p 15)) (C := R_Mod) (T := F_Mod) (N := 40) C.1 C.2.1 C.2.2.2.2.1 i_Mod C.2.2.2.1 C.2.2.2.2.2.1 hP p (gw_obj hk (by decide) (by decide)) rfl 15 (by decide) (C.2.2.2.2.1 _ hl) (fun _ h9 => h9) rfl d (k H locs ls hP hS hh)
theorem p_Mod_15 (C : Cok X cc own nL ret rm) {i : Nat} {v : Int32} (hk : kd p = 10) (hl : Cond.fieldLink own i "BreatheOutModel" "backClock" "I" ∈ tbl) (d : decode cc pc = .ok (.putfield i, 3)) (k : V X Q kc ks (wr s p 15 v) (pc + 3) L st) : V X Q kc ks s pc L (.int v :: .ref (xa X p) :: st) := fun H locs ls hP hS hh =>
  va_put (D := gD (xg X)) (ci := 9) (v := .int v) (ty := .int) (C := R_Mod) (T := F_Mod) (N := 40) C.1 C.2.1 C.2.2.2.2.1 i_Mod t_Mod t_Mod_ok n_Mod C.2.2.2.1 C.2.2.2.2.2.1 hP (C.2.2.2.2.2.2.1 s) hS p (gw_obj hk (by decide) (by decide)) rfl 15 (by decide) (C.2.2.2.2.1 _ hl) (fun _ h9 => h9) rfl (by decide +kernel) rfl rfl (Nat.le_of_ble_eq_true rfl) d (fun H1 locs1 hP1 hD1 hS1 => k H1 locs1 ls (by rw [← gw_put (g := xg X) (s := s) (j := 15) (v := v) hk (by decide) (by decide) rfl]; simpa [cellO, wr] using hP1) hS1 hh)
theorem g_Mod_16 (C : Cok X cc own nL ret rm) {i : Nat} (hk : kd p = 10) (hl : Cond.fieldLink own i "BreatheOutModel" "throughAt" "[I" ∈ tbl) (d : decode cc pc = .ok (.getfield i, 3)) (k : V X Q kc ks s (pc + 3) L (.ref (xa X (p + 4)) :: st)) : V X Q kc ks s pc L (.ref (xa X p) :: st) := fun H locs ls hP hS hh =>
  va_get (D := gD (xg X)) (ci := 9) (v := .ref (xa X (p + 4))) (C := R_Mod) (T := F_Mod) (N := 40) C.1 C.2.1 C.2.2.2.2.1 i_Mod C.2.2.2.1 C.2.2.2.2.2.1 hP p (gw_obj hk (by decide) (by decide)) rfl 16 (by decide) (C.2.2.2.2.1 _ hl) (fun _ h9 => h9) rfl d (k H locs ls hP hS hh)
theorem g_Mod_17 (C : Cok X cc own nL ret rm) {i : Nat} (hk : kd p = 10) (hl : Cond.fieldLink own i "BreatheOutModel" "line" "[I" ∈ tbl) (d : decode cc pc = .ok (.getfield i, 3)) (k : V X Q kc ks s (pc + 3) L (.ref (xa X (p + 5)) :: st)) : V X Q kc ks s pc L (.ref (xa X p) :: st) := fun H locs ls hP hS hh =>
  va_get (D := gD (xg X)) (ci := 9) (v := .ref (xa X (p + 5))) (C := R_Mod) (T := F_Mod) (N := 40) C.1 C.2.1 C.2.2.2.2.1 i_Mod C.2.2.2.1 C.2.2.2.2.2.1 hP p (gw_obj hk (by decide) (by decide)) rfl 17 (by decide) (C.2.2.2.2.1 _ hl) (fun _ h9 => h9) rfl d (k H locs ls hP hS hh)
theorem g_Mod_18 (C : Cok X cc own nL ret rm) {i : Nat} (hk : kd p = 10) (hl : Cond.fieldLink own i "BreatheOutModel" "lineMany" "I" ∈ tbl) (d : decode cc pc = .ok (.getfield i, 3)) (k : V X Q kc ks s (pc + 3) L (.int (s p 18) :: st)) : V X Q kc ks s pc L (.ref (xa X p) :: st) := fun H locs ls hP hS hh =>
  va_get (D := gD (xg X)) (ci := 9) (v := .int (s p 18)) (C := R_Mod) (T := F_Mod) (N := 40) C.1 C.2.1 C.2.2.2.2.1 i_Mod C.2.2.2.1 C.2.2.2.2.2.1 hP p (gw_obj hk (by decide) (by decide)) rfl 18 (by decide) (C.2.2.2.2.1 _ hl) (fun _ h9 => h9) rfl d (k H locs ls hP hS hh)
theorem p_Mod_18 (C : Cok X cc own nL ret rm) {i : Nat} {v : Int32} (hk : kd p = 10) (hl : Cond.fieldLink own i "BreatheOutModel" "lineMany" "I" ∈ tbl) (d : decode cc pc = .ok (.putfield i, 3)) (k : V X Q kc ks (wr s p 18 v) (pc + 3) L st) : V X Q kc ks s pc L (.int v :: .ref (xa X p) :: st) := fun H locs ls hP hS hh =>
  va_put (D := gD (xg X)) (ci := 9) (v := .int v) (ty := .int) (C := R_Mod) (T := F_Mod) (N := 40) C.1 C.2.1 C.2.2.2.2.1 i_Mod t_Mod t_Mod_ok n_Mod C.2.2.2.1 C.2.2.2.2.2.1 hP (C.2.2.2.2.2.2.1 s) hS p (gw_obj hk (by decide) (by decide)) rfl 18 (by decide) (C.2.2.2.2.1 _ hl) (fun _ h9 => h9) rfl (by decide +kernel) rfl rfl (Nat.le_of_ble_eq_true rfl) d (fun H1 locs1 hP1 hD1 hS1 => k H1 locs1 ls (by rw [← gw_put (g := xg X) (s := s) (j := 18) (v := v) hk (by decide) (by decide) rfl]; simpa [cellO, wr] using hP1) hS1 hh)
theorem g_Mod_19 (C : Cok X cc own nL ret rm) {i : Nat} (hk : kd p = 10) (hl : Cond.fieldLink own i "BreatheOutModel" "at" "I" ∈ tbl) (d : decode cc pc = .ok (.getfield i, 3)) (k : V X Q kc ks s (pc + 3) L (.int (s p 19) :: st)) : V X Q kc ks s pc L (.ref (xa X p) :: st) := fun H locs ls hP hS hh =>
  va_get (D := gD (xg X)) (ci := 9) (v := .int (s p 19)) (C := R_Mod) (T := F_Mod) (N := 40) C.1 C.2.1 C.2.2.2.2.1 i_Mod C.2.2.2.1 C.2.2.2.2.2.1 hP p (gw_obj hk (by decide) (by decide)) rfl 19 (by decide) (C.2.2.2.2.1 _ hl) (fun _ h9 => h9) rfl d (k H locs ls hP hS hh)
theorem p_Mod_19 (C : Cok X cc own nL ret rm) {i : Nat} {v : Int32} (hk : kd p = 10) (hl : Cond.fieldLink own i "BreatheOutModel" "at" "I" ∈ tbl) (d : decode cc pc = .ok (.putfield i, 3)) (k : V X Q kc ks (wr s p 19 v) (pc + 3) L st) : V X Q kc ks s pc L (.int v :: .ref (xa X p) :: st) := fun H locs ls hP hS hh =>
  va_put (D := gD (xg X)) (ci := 9) (v := .int v) (ty := .int) (C := R_Mod) (T := F_Mod) (N := 40) C.1 C.2.1 C.2.2.2.2.1 i_Mod t_Mod t_Mod_ok n_Mod C.2.2.2.1 C.2.2.2.2.2.1 hP (C.2.2.2.2.2.2.1 s) hS p (gw_obj hk (by decide) (by decide)) rfl 19 (by decide) (C.2.2.2.2.1 _ hl) (fun _ h9 => h9) rfl (by decide +kernel) rfl rfl (Nat.le_of_ble_eq_true rfl) d (fun H1 locs1 hP1 hD1 hS1 => k H1 locs1 ls (by rw [← gw_put (g := xg X) (s := s) (j := 19) (v := v) hk (by decide) (by decide) rfl]; simpa [cellO, wr] using hP1) hS1 hh)
theorem g_Mod_20 (C : Cok X cc own nL ret rm) {i : Nat} (hk : kd p = 10) (hl : Cond.fieldLink own i "BreatheOutModel" "rowAt" "I" ∈ tbl) (d : decode cc pc = .ok (.getfield i, 3)) (k : V X Q kc ks s (pc + 3) L (.int (s p 20) :: st)) : V X Q kc ks s pc L (.ref (xa X p) :: st) := fun H locs ls hP hS hh =>
  va_get (D := gD (xg X)) (ci := 9) (v := .int (s p 20)) (C := R_Mod) (T := F_Mod) (N := 40) C.1 C.2.1 C.2.2.2.2.1 i_Mod C.2.2.2.1 C.2.2.2.2.2.1 hP p (gw_obj hk (by decide) (by decide)) rfl 20 (by decide) (C.2.2.2.2.1 _ hl) (fun _ h9 => h9) rfl d (k H locs ls hP hS hh)
theorem p_Mod_20 (C : Cok X cc own nL ret rm) {i : Nat} {v : Int32} (hk : kd p = 10) (hl : Cond.fieldLink own i "BreatheOutModel" "rowAt" "I" ∈ tbl) (d : decode cc pc = .ok (.putfield i, 3)) (k : V X Q kc ks (wr s p 20 v) (pc + 3) L st) : V X Q kc ks s pc L (.int v :: .ref (xa X p) :: st) := fun H locs ls hP hS hh =>
  va_put (D := gD (xg X)) (ci := 9) (v := .int v) (ty := .int) (C := R_Mod) (T := F_Mod) (N := 40) C.1 C.2.1 C.2.2.2.2.1 i_Mod t_Mod t_Mod_ok n_Mod C.2.2.2.1 C.2.2.2.2.2.1 hP (C.2.2.2.2.2.2.1 s) hS p (gw_obj hk (by decide) (by decide)) rfl 20 (by decide) (C.2.2.2.2.1 _ hl) (fun _ h9 => h9) rfl (by decide +kernel) rfl rfl (Nat.le_of_ble_eq_true rfl) d (fun H1 locs1 hP1 hD1 hS1 => k H1 locs1 ls (by rw [← gw_put (g := xg X) (s := s) (j := 20) (v := v) hk (by decide) (by decide) rfl]; simpa [cellO, wr] using hP1) hS1 hh)
theorem g_Mod_21 (C : Cok X cc own nL ret rm) {i : Nat} (hk : kd p = 10) (hl : Cond.fieldLink own i "BreatheOutModel" "rowEnd" "I" ∈ tbl) (d : decode cc pc = .ok (.getfield i, 3)) (k : V X Q kc ks s (pc + 3) L (.int (s p 21) :: st)) : V X Q kc ks s pc L (.ref (xa X p) :: st) := fun H locs ls hP hS hh =>
  va_get (D := gD (xg X)) (ci := 9) (v := .int (s p 21)) (C := R_Mod) (T := F_Mod) (N := 40) C.1 C.2.1 C.2.2.2.2.1 i_Mod C.2.2.2.1 C.2.2.2.2.2.1 hP p (gw_obj hk (by decide) (by decide)) rfl 21 (by decide) (C.2.2.2.2.1 _ hl) (fun _ h9 => h9) rfl d (k H locs ls hP hS hh)
theorem p_Mod_21 (C : Cok X cc own nL ret rm) {i : Nat} {v : Int32} (hk : kd p = 10) (hl : Cond.fieldLink own i "BreatheOutModel" "rowEnd" "I" ∈ tbl) (d : decode cc pc = .ok (.putfield i, 3)) (k : V X Q kc ks (wr s p 21 v) (pc + 3) L st) : V X Q kc ks s pc L (.int v :: .ref (xa X p) :: st) := fun H locs ls hP hS hh =>
  va_put (D := gD (xg X)) (ci := 9) (v := .int v) (ty := .int) (C := R_Mod) (T := F_Mod) (N := 40) C.1 C.2.1 C.2.2.2.2.1 i_Mod t_Mod t_Mod_ok n_Mod C.2.2.2.1 C.2.2.2.2.2.1 hP (C.2.2.2.2.2.2.1 s) hS p (gw_obj hk (by decide) (by decide)) rfl 21 (by decide) (C.2.2.2.2.1 _ hl) (fun _ h9 => h9) rfl (by decide +kernel) rfl rfl (Nat.le_of_ble_eq_true rfl) d (fun H1 locs1 hP1 hD1 hS1 => k H1 locs1 ls (by rw [← gw_put (g := xg X) (s := s) (j := 21) (v := v) hk (by decide) (by decide) rfl]; simpa [cellO, wr] using hP1) hS1 hh)
theorem g_Mod_22 (C : Cok X cc own nL ret rm) {i : Nat} (hk : kd p = 10) (hl : Cond.fieldLink own i "BreatheOutModel" "numbers" "[I" ∈ tbl) (d : decode cc pc = .ok (.getfield i, 3)) (k : V X Q kc ks s (pc + 3) L (.ref (xa X (p + 6)) :: st)) : V X Q kc ks s pc L (.ref (xa X p) :: st) := fun H locs ls hP hS hh =>
  va_get (D := gD (xg X)) (ci := 9) (v := .ref (xa X (p + 6))) (C := R_Mod) (T := F_Mod) (N := 40) C.1 C.2.1 C.2.2.2.2.1 i_Mod C.2.2.2.1 C.2.2.2.2.2.1 hP p (gw_obj hk (by decide) (by decide)) rfl 22 (by decide) (C.2.2.2.2.1 _ hl) (fun _ h9 => h9) rfl d (k H locs ls hP hS hh)
theorem g_Mod_23 (C : Cok X cc own nL ret rm) {i : Nat} (hk : kd p = 10) (hl : Cond.fieldLink own i "BreatheOutModel" "bestMany" "I" ∈ tbl) (d : decode cc pc = .ok (.getfield i, 3)) (k : V X Q kc ks s (pc + 3) L (.int (s p 23) :: st)) : V X Q kc ks s pc L (.ref (xa X p) :: st) := fun H locs ls hP hS hh =>
  va_get (D := gD (xg X)) (ci := 9) (v := .int (s p 23)) (C := R_Mod) (T := F_Mod) (N := 40) C.1 C.2.1 C.2.2.2.2.1 i_Mod C.2.2.2.1 C.2.2.2.2.2.1 hP p (gw_obj hk (by decide) (by decide)) rfl 23 (by decide) (C.2.2.2.2.1 _ hl) (fun _ h9 => h9) rfl d (k H locs ls hP hS hh)
theorem p_Mod_23 (C : Cok X cc own nL ret rm) {i : Nat} {v : Int32} (hk : kd p = 10) (hl : Cond.fieldLink own i "BreatheOutModel" "bestMany" "I" ∈ tbl) (d : decode cc pc = .ok (.putfield i, 3)) (k : V X Q kc ks (wr s p 23 v) (pc + 3) L st) : V X Q kc ks s pc L (.int v :: .ref (xa X p) :: st) := fun H locs ls hP hS hh =>
  va_put (D := gD (xg X)) (ci := 9) (v := .int v) (ty := .int) (C := R_Mod) (T := F_Mod) (N := 40) C.1 C.2.1 C.2.2.2.2.1 i_Mod t_Mod t_Mod_ok n_Mod C.2.2.2.1 C.2.2.2.2.2.1 hP (C.2.2.2.2.2.2.1 s) hS p (gw_obj hk (by decide) (by decide)) rfl 23 (by decide) (C.2.2.2.2.1 _ hl) (fun _ h9 => h9) rfl (by decide +kernel) rfl rfl (Nat.le_of_ble_eq_true rfl) d (fun H1 locs1 hP1 hD1 hS1 => k H1 locs1 ls (by rw [← gw_put (g := xg X) (s := s) (j := 23) (v := v) hk (by decide) (by decide) rfl]; simpa [cellO, wr] using hP1) hS1 hh)
theorem g_Mod_24 (C : Cok X cc own nL ret rm) {i : Nat} (hk : kd p = 10) (hl : Cond.fieldLink own i "BreatheOutModel" "bestClock" "I" ∈ tbl) (d : decode cc pc = .ok (.getfield i, 3)) (k : V X Q kc ks s (pc + 3) L (.int (s p 24) :: st)) : V X Q kc ks s pc L (.ref (xa X p) :: st) := fun H locs ls hP hS hh =>
  va_get (D := gD (xg X)) (ci := 9) (v := .int (s p 24)) (C := R_Mod) (T := F_Mod) (N := 40) C.1 C.2.1 C.2.2.2.2.1 i_Mod C.2.2.2.1 C.2.2.2.2.2.1 hP p (gw_obj hk (by decide) (by decide)) rfl 24 (by decide) (C.2.2.2.2.1 _ hl) (fun _ h9 => h9) rfl d (k H locs ls hP hS hh)
theorem p_Mod_24 (C : Cok X cc own nL ret rm) {i : Nat} {v : Int32} (hk : kd p = 10) (hl : Cond.fieldLink own i "BreatheOutModel" "bestClock" "I" ∈ tbl) (d : decode cc pc = .ok (.putfield i, 3)) (k : V X Q kc ks (wr s p 24 v) (pc + 3) L st) : V X Q kc ks s pc L (.int v :: .ref (xa X p) :: st) := fun H locs ls hP hS hh =>
  va_put (D := gD (xg X)) (ci := 9) (v := .int v) (ty := .int) (C := R_Mod) (T := F_Mod) (N := 40) C.1 C.2.1 C.2.2.2.2.1 i_Mod t_Mod t_Mod_ok n_Mod C.2.2.2.1 C.2.2.2.2.2.1 hP (C.2.2.2.2.2.2.1 s) hS p (gw_obj hk (by decide) (by decide)) rfl 24 (by decide) (C.2.2.2.2.1 _ hl) (fun _ h9 => h9) rfl (by decide +kernel) rfl rfl (Nat.le_of_ble_eq_true rfl) d (fun H1 locs1 hP1 hD1 hS1 => k H1 locs1 ls (by rw [← gw_put (g := xg X) (s := s) (j := 24) (v := v) hk (by decide) (by decide) rfl]; simpa [cellO, wr] using hP1) hS1 hh)
theorem g_Mod_25 (C : Cok X cc own nL ret rm) {i : Nat} (hk : kd p = 10) (hl : Cond.fieldLink own i "BreatheOutModel" "bestOrder" "[I" ∈ tbl) (d : decode cc pc = .ok (.getfield i, 3)) (k : V X Q kc ks s (pc + 3) L (.ref (xa X (p + 7)) :: st)) : V X Q kc ks s pc L (.ref (xa X p) :: st) := fun H locs ls hP hS hh =>
  va_get (D := gD (xg X)) (ci := 9) (v := .ref (xa X (p + 7))) (C := R_Mod) (T := F_Mod) (N := 40) C.1 C.2.1 C.2.2.2.2.1 i_Mod C.2.2.2.1 C.2.2.2.2.2.1 hP p (gw_obj hk (by decide) (by decide)) rfl 25 (by decide) (C.2.2.2.2.1 _ hl) (fun _ h9 => h9) rfl d (k H locs ls hP hS hh)
theorem g_Mod_26 (C : Cok X cc own nL ret rm) {i : Nat} (hk : kd p = 10) (hl : Cond.fieldLink own i "BreatheOutModel" "deed" "[I" ∈ tbl) (d : decode cc pc = .ok (.getfield i, 3)) (k : V X Q kc ks s (pc + 3) L (.ref (xa X (p + 8)) :: st)) : V X Q kc ks s pc L (.ref (xa X p) :: st) := fun H locs ls hP hS hh =>
  va_get (D := gD (xg X)) (ci := 9) (v := .ref (xa X (p + 8))) (C := R_Mod) (T := F_Mod) (N := 40) C.1 C.2.1 C.2.2.2.2.1 i_Mod C.2.2.2.1 C.2.2.2.2.2.1 hP p (gw_obj hk (by decide) (by decide)) rfl 26 (by decide) (C.2.2.2.2.1 _ hl) (fun _ h9 => h9) rfl d (k H locs ls hP hS hh)
theorem g_Mod_27 (C : Cok X cc own nL ret rm) {i : Nat} (hk : kd p = 10) (hl : Cond.fieldLink own i "BreatheOutModel" "bestDeed" "[I" ∈ tbl) (d : decode cc pc = .ok (.getfield i, 3)) (k : V X Q kc ks s (pc + 3) L (.ref (xa X (p + 9)) :: st)) : V X Q kc ks s pc L (.ref (xa X p) :: st) := fun H locs ls hP hS hh =>
  va_get (D := gD (xg X)) (ci := 9) (v := .ref (xa X (p + 9))) (C := R_Mod) (T := F_Mod) (N := 40) C.1 C.2.1 C.2.2.2.2.1 i_Mod C.2.2.2.1 C.2.2.2.2.2.1 hP p (gw_obj hk (by decide) (by decide)) rfl 27 (by decide) (C.2.2.2.2.1 _ hl) (fun _ h9 => h9) rfl d (k H locs ls hP hS hh)
theorem g_Mod_28 (C : Cok X cc own nL ret rm) {i : Nat} (hk : kd p = 10) (hl : Cond.fieldLink own i "BreatheOutModel" "bestMinutes" "I" ∈ tbl) (d : decode cc pc = .ok (.getfield i, 3)) (k : V X Q kc ks s (pc + 3) L (.int (s p 28) :: st)) : V X Q kc ks s pc L (.ref (xa X p) :: st) := fun H locs ls hP hS hh =>
  va_get (D := gD (xg X)) (ci := 9) (v := .int (s p 28)) (C := R_Mod) (T := F_Mod) (N := 40) C.1 C.2.1 C.2.2.2.2.1 i_Mod C.2.2.2.1 C.2.2.2.2.2.1 hP p (gw_obj hk (by decide) (by decide)) rfl 28 (by decide) (C.2.2.2.2.1 _ hl) (fun _ h9 => h9) rfl d (k H locs ls hP hS hh)
theorem p_Mod_28 (C : Cok X cc own nL ret rm) {i : Nat} {v : Int32} (hk : kd p = 10) (hl : Cond.fieldLink own i "BreatheOutModel" "bestMinutes" "I" ∈ tbl) (d : decode cc pc = .ok (.putfield i, 3)) (k : V X Q kc ks (wr s p 28 v) (pc + 3) L st) : V X Q kc ks s pc L (.int v :: .ref (xa X p) :: st) := fun H locs ls hP hS hh =>
  va_put (D := gD (xg X)) (ci := 9) (v := .int v) (ty := .int) (C := R_Mod) (T := F_Mod) (N := 40) C.1 C.2.1 C.2.2.2.2.1 i_Mod t_Mod t_Mod_ok n_Mod C.2.2.2.1 C.2.2.2.2.2.1 hP (C.2.2.2.2.2.2.1 s) hS p (gw_obj hk (by decide) (by decide)) rfl 28 (by decide) (C.2.2.2.2.1 _ hl) (fun _ h9 => h9) rfl (by decide +kernel) rfl rfl (Nat.le_of_ble_eq_true rfl) d (fun H1 locs1 hP1 hD1 hS1 => k H1 locs1 ls (by rw [← gw_put (g := xg X) (s := s) (j := 28) (v := v) hk (by decide) (by decide) rfl]; simpa [cellO, wr] using hP1) hS1 hh)
theorem g_Mod_29 (C : Cok X cc own nL ret rm) {i : Nat} (hk : kd p = 10) (hl : Cond.fieldLink own i "BreatheOutModel" "bestLength" "I" ∈ tbl) (d : decode cc pc = .ok (.getfield i, 3)) (k : V X Q kc ks s (pc + 3) L (.int (s p 29) :: st)) : V X Q kc ks s pc L (.ref (xa X p) :: st) := fun H locs ls hP hS hh =>
  va_get (D := gD (xg X)) (ci := 9) (v := .int (s p 29)) (C := R_Mod) (T := F_Mod) (N := 40) C.1 C.2.1 C.2.2.2.2.1 i_Mod C.2.2.2.1 C.2.2.2.2.2.1 hP p (gw_obj hk (by decide) (by decide)) rfl 29 (by decide) (C.2.2.2.2.1 _ hl) (fun _ h9 => h9) rfl d (k H locs ls hP hS hh)
theorem p_Mod_29 (C : Cok X cc own nL ret rm) {i : Nat} {v : Int32} (hk : kd p = 10) (hl : Cond.fieldLink own i "BreatheOutModel" "bestLength" "I" ∈ tbl) (d : decode cc pc = .ok (.putfield i, 3)) (k : V X Q kc ks (wr s p 29 v) (pc + 3) L st) : V X Q kc ks s pc L (.int v :: .ref (xa X p) :: st) := fun H locs ls hP hS hh =>
  va_put (D := gD (xg X)) (ci := 9) (v := .int v) (ty := .int) (C := R_Mod) (T := F_Mod) (N := 40) C.1 C.2.1 C.2.2.2.2.1 i_Mod t_Mod t_Mod_ok n_Mod C.2.2.2.1 C.2.2.2.2.2.1 hP (C.2.2.2.2.2.2.1 s) hS p (gw_obj hk (by decide) (by decide)) rfl 29 (by decide) (C.2.2.2.2.1 _ hl) (fun _ h9 => h9) rfl (by decide +kernel) rfl rfl (Nat.le_of_ble_eq_true rfl) d (fun H1 locs1 hP1 hD1 hS1 => k H1 locs1 ls (by rw [← gw_put (g := xg X) (s := s) (j := 29) (v := v) hk (by decide) (by decide) rfl]; simpa [cellO, wr] using hP1) hS1 hh)
theorem g_Mod_30 (C : Cok X cc own nL ret rm) {i : Nat} (hk : kd p = 10) (hl : Cond.fieldLink own i "BreatheOutModel" "strongest" "I" ∈ tbl) (d : decode cc pc = .ok (.getfield i, 3)) (k : V X Q kc ks s (pc + 3) L (.int (s p 30) :: st)) : V X Q kc ks s pc L (.ref (xa X p) :: st) := fun H locs ls hP hS hh =>
  va_get (D := gD (xg X)) (ci := 9) (v := .int (s p 30)) (C := R_Mod) (T := F_Mod) (N := 40) C.1 C.2.1 C.2.2.2.2.1 i_Mod C.2.2.2.1 C.2.2.2.2.2.1 hP p (gw_obj hk (by decide) (by decide)) rfl 30 (by decide) (C.2.2.2.2.1 _ hl) (fun _ h9 => h9) rfl d (k H locs ls hP hS hh)
theorem p_Mod_30 (C : Cok X cc own nL ret rm) {i : Nat} {v : Int32} (hk : kd p = 10) (hl : Cond.fieldLink own i "BreatheOutModel" "strongest" "I" ∈ tbl) (d : decode cc pc = .ok (.putfield i, 3)) (k : V X Q kc ks (wr s p 30 v) (pc + 3) L st) : V X Q kc ks s pc L (.int v :: .ref (xa X p) :: st) := fun H locs ls hP hS hh =>
  va_put (D := gD (xg X)) (ci := 9) (v := .int v) (ty := .int) (C := R_Mod) (T := F_Mod) (N := 40) C.1 C.2.1 C.2.2.2.2.1 i_Mod t_Mod t_Mod_ok n_Mod C.2.2.2.1 C.2.2.2.2.2.1 hP (C.2.2.2.2.2.2.1 s) hS p (gw_obj hk (by decide) (by decide)) rfl 30 (by decide) (C.2.2.2.2.1 _ hl) (fun _ h9 => h9) rfl (by decide +kernel) rfl rfl (Nat.le_of_ble_eq_true rfl) d (fun H1 locs1 hP1 hD1 hS1 => k H1 locs1 ls (by rw [← gw_put (g := xg X) (s := s) (j := 30) (v := v) hk (by decide) (by decide) rfl]; simpa [cellO, wr] using hP1) hS1 hh)
theorem g_Mod_31 (C : Cok X cc own nL ret rm) {i : Nat} (hk : kd p = 10) (hl : Cond.fieldLink own i "BreatheOutModel" "weakest" "I" ∈ tbl) (d : decode cc pc = .ok (.getfield i, 3)) (k : V X Q kc ks s (pc + 3) L (.int (s p 31) :: st)) : V X Q kc ks s pc L (.ref (xa X p) :: st) := fun H locs ls hP hS hh =>
  va_get (D := gD (xg X)) (ci := 9) (v := .int (s p 31)) (C := R_Mod) (T := F_Mod) (N := 40) C.1 C.2.1 C.2.2.2.2.1 i_Mod C.2.2.2.1 C.2.2.2.2.2.1 hP p (gw_obj hk (by decide) (by decide)) rfl 31 (by decide) (C.2.2.2.2.1 _ hl) (fun _ h9 => h9) rfl d (k H locs ls hP hS hh)
theorem p_Mod_31 (C : Cok X cc own nL ret rm) {i : Nat} {v : Int32} (hk : kd p = 10) (hl : Cond.fieldLink own i "BreatheOutModel" "weakest" "I" ∈ tbl) (d : decode cc pc = .ok (.putfield i, 3)) (k : V X Q kc ks (wr s p 31 v) (pc + 3) L st) : V X Q kc ks s pc L (.int v :: .ref (xa X p) :: st) := fun H locs ls hP hS hh =>
  va_put (D := gD (xg X)) (ci := 9) (v := .int v) (ty := .int) (C := R_Mod) (T := F_Mod) (N := 40) C.1 C.2.1 C.2.2.2.2.1 i_Mod t_Mod t_Mod_ok n_Mod C.2.2.2.1 C.2.2.2.2.2.1 hP (C.2.2.2.2.2.2.1 s) hS p (gw_obj hk (by decide) (by decide)) rfl 31 (by decide) (C.2.2.2.2.1 _ hl) (fun _ h9 => h9) rfl (by decide +kernel) rfl rfl (Nat.le_of_ble_eq_true rfl) d (fun H1 locs1 hP1 hD1 hS1 => k H1 locs1 ls (by rw [← gw_put (g := xg X) (s := s) (j := 31) (v := v) hk (by decide) (by decide) rfl]; simpa [cellO, wr] using hP1) hS1 hh)
theorem g_Mod_32 (C : Cok X cc own nL ret rm) {i : Nat} (hk : kd p = 10) (hl : Cond.fieldLink own i "BreatheOutModel" "seed" "I" ∈ tbl) (d : decode cc pc = .ok (.getfield i, 3)) (k : V X Q kc ks s (pc + 3) L (.int (s p 32) :: st)) : V X Q kc ks s pc L (.ref (xa X p) :: st) := fun H locs ls hP hS hh =>
  va_get (D := gD (xg X)) (ci := 9) (v := .int (s p 32)) (C := R_Mod) (T := F_Mod) (N := 40) C.1 C.2.1 C.2.2.2.2.1 i_Mod C.2.2.2.1 C.2.2.2.2.2.1 hP p (gw_obj hk (by decide) (by decide)) rfl 32 (by decide) (C.2.2.2.2.1 _ hl) (fun _ h9 => h9) rfl d (k H locs ls hP hS hh)
theorem p_Mod_32 (C : Cok X cc own nL ret rm) {i : Nat} {v : Int32} (hk : kd p = 10) (hl : Cond.fieldLink own i "BreatheOutModel" "seed" "I" ∈ tbl) (d : decode cc pc = .ok (.putfield i, 3)) (k : V X Q kc ks (wr s p 32 v) (pc + 3) L st) : V X Q kc ks s pc L (.int v :: .ref (xa X p) :: st) := fun H locs ls hP hS hh =>
  va_put (D := gD (xg X)) (ci := 9) (v := .int v) (ty := .int) (C := R_Mod) (T := F_Mod) (N := 40) C.1 C.2.1 C.2.2.2.2.1 i_Mod t_Mod t_Mod_ok n_Mod C.2.2.2.1 C.2.2.2.2.2.1 hP (C.2.2.2.2.2.2.1 s) hS p (gw_obj hk (by decide) (by decide)) rfl 32 (by decide) (C.2.2.2.2.1 _ hl) (fun _ h9 => h9) rfl (by decide +kernel) rfl rfl (Nat.le_of_ble_eq_true rfl) d (fun H1 locs1 hP1 hD1 hS1 => k H1 locs1 ls (by rw [← gw_put (g := xg X) (s := s) (j := 32) (v := v) hk (by decide) (by decide) rfl]; simpa [cellO, wr] using hP1) hS1 hh)
theorem g_Mod_33 (C : Cok X cc own nL ret rm) {i : Nat} (hk : kd p = 10) (hl : Cond.fieldLink own i "BreatheOutModel" "kept" "[I" ∈ tbl) (d : decode cc pc = .ok (.getfield i, 3)) (k : V X Q kc ks s (pc + 3) L (.ref (xa X (p + 10)) :: st)) : V X Q kc ks s pc L (.ref (xa X p) :: st) := fun H locs ls hP hS hh =>
  va_get (D := gD (xg X)) (ci := 9) (v := .ref (xa X (p + 10))) (C := R_Mod) (T := F_Mod) (N := 40) C.1 C.2.1 C.2.2.2.2.1 i_Mod C.2.2.2.1 C.2.2.2.2.2.1 hP p (gw_obj hk (by decide) (by decide)) rfl 33 (by decide) (C.2.2.2.2.1 _ hl) (fun _ h9 => h9) rfl d (k H locs ls hP hS hh)
theorem g_Mod_34 (C : Cok X cc own nL ret rm) {i : Nat} (hk : kd p = 10) (hl : Cond.fieldLink own i "BreatheOutModel" "keptKind" "[I" ∈ tbl) (d : decode cc pc = .ok (.getfield i, 3)) (k : V X Q kc ks s (pc + 3) L (.ref (xa X (p + 11)) :: st)) : V X Q kc ks s pc L (.ref (xa X p) :: st) := fun H locs ls hP hS hh =>
  va_get (D := gD (xg X)) (ci := 9) (v := .ref (xa X (p + 11))) (C := R_Mod) (T := F_Mod) (N := 40) C.1 C.2.1 C.2.2.2.2.1 i_Mod C.2.2.2.1 C.2.2.2.2.2.1 hP p (gw_obj hk (by decide) (by decide)) rfl 34 (by decide) (C.2.2.2.2.1 _ hl) (fun _ h9 => h9) rfl d (k H locs ls hP hS hh)
theorem g_Mod_35 (C : Cok X cc own nL ret rm) {i : Nat} (hk : kd p = 10) (hl : Cond.fieldLink own i "BreatheOutModel" "keptFigure" "[I" ∈ tbl) (d : decode cc pc = .ok (.getfield i, 3)) (k : V X Q kc ks s (pc + 3) L (.ref (xa X (p + 12)) :: st)) : V X Q kc ks s pc L (.ref (xa X p) :: st) := fun H locs ls hP hS hh =>
  va_get (D := gD (xg X)) (ci := 9) (v := .ref (xa X (p + 12))) (C := R_Mod) (T := F_Mod) (N := 40) C.1 C.2.1 C.2.2.2.2.1 i_Mod C.2.2.2.1 C.2.2.2.2.2.1 hP p (gw_obj hk (by decide) (by decide)) rfl 35 (by decide) (C.2.2.2.2.1 _ hl) (fun _ h9 => h9) rfl d (k H locs ls hP hS hh)
theorem g_Mod_36 (C : Cok X cc own nL ret rm) {i : Nat} (hk : kd p = 10) (hl : Cond.fieldLink own i "BreatheOutModel" "sort" "[I" ∈ tbl) (d : decode cc pc = .ok (.getfield i, 3)) (k : V X Q kc ks s (pc + 3) L (.ref (xa X (p + 13)) :: st)) : V X Q kc ks s pc L (.ref (xa X p) :: st) := fun H locs ls hP hS hh =>
  va_get (D := gD (xg X)) (ci := 9) (v := .ref (xa X (p + 13))) (C := R_Mod) (T := F_Mod) (N := 40) C.1 C.2.1 C.2.2.2.2.1 i_Mod C.2.2.2.1 C.2.2.2.2.2.1 hP p (gw_obj hk (by decide) (by decide)) rfl 36 (by decide) (C.2.2.2.2.1 _ hl) (fun _ h9 => h9) rfl d (k H locs ls hP hS hh)
theorem g_Mod_37 (C : Cok X cc own nL ret rm) {i : Nat} (hk : kd p = 10) (hl : Cond.fieldLink own i "BreatheOutModel" "size" "[I" ∈ tbl) (d : decode cc pc = .ok (.getfield i, 3)) (k : V X Q kc ks s (pc + 3) L (.ref (xa X (p + 14)) :: st)) : V X Q kc ks s pc L (.ref (xa X p) :: st) := fun H locs ls hP hS hh =>
  va_get (D := gD (xg X)) (ci := 9) (v := .ref (xa X (p + 14))) (C := R_Mod) (T := F_Mod) (N := 40) C.1 C.2.1 C.2.2.2.2.1 i_Mod C.2.2.2.1 C.2.2.2.2.2.1 hP p (gw_obj hk (by decide) (by decide)) rfl 37 (by decide) (C.2.2.2.2.1 _ hl) (fun _ h9 => h9) rfl d (k H locs ls hP hS hh)
theorem g_Mod_38 (C : Cok X cc own nL ret rm) {i : Nat} (hk : kd p = 10) (hl : Cond.fieldLink own i "BreatheOutModel" "element" "[I" ∈ tbl) (d : decode cc pc = .ok (.getfield i, 3)) (k : V X Q kc ks s (pc + 3) L (.ref (xa X (p + 15)) :: st)) : V X Q kc ks s pc L (.ref (xa X p) :: st) := fun H locs ls hP hS hh =>
  va_get (D := gD (xg X)) (ci := 9) (v := .ref (xa X (p + 15))) (C := R_Mod) (T := F_Mod) (N := 40) C.1 C.2.1 C.2.2.2.2.1 i_Mod C.2.2.2.1 C.2.2.2.2.2.1 hP p (gw_obj hk (by decide) (by decide)) rfl 38 (by decide) (C.2.2.2.2.1 _ hl) (fun _ h9 => h9) rfl d (k H locs ls hP hS hh)
theorem g_Mod_39 (C : Cok X cc own nL ret rm) {i : Nat} (hk : kd p = 10) (hl : Cond.fieldLink own i "BreatheOutModel" "thrown" "I" ∈ tbl) (d : decode cc pc = .ok (.getfield i, 3)) (k : V X Q kc ks s (pc + 3) L (.int (s p 39) :: st)) : V X Q kc ks s pc L (.ref (xa X p) :: st) := fun H locs ls hP hS hh =>
  va_get (D := gD (xg X)) (ci := 9) (v := .int (s p 39)) (C := R_Mod) (T := F_Mod) (N := 40) C.1 C.2.1 C.2.2.2.2.1 i_Mod C.2.2.2.1 C.2.2.2.2.2.1 hP p (gw_obj hk (by decide) (by decide)) rfl 39 (by decide) (C.2.2.2.2.1 _ hl) (fun _ h9 => h9) rfl d (k H locs ls hP hS hh)
theorem p_Mod_39 (C : Cok X cc own nL ret rm) {i : Nat} {v : Int32} (hk : kd p = 10) (hl : Cond.fieldLink own i "BreatheOutModel" "thrown" "I" ∈ tbl) (d : decode cc pc = .ok (.putfield i, 3)) (k : V X Q kc ks (wr s p 39 v) (pc + 3) L st) : V X Q kc ks s pc L (.int v :: .ref (xa X p) :: st) := fun H locs ls hP hS hh =>
  va_put (D := gD (xg X)) (ci := 9) (v := .int v) (ty := .int) (C := R_Mod) (T := F_Mod) (N := 40) C.1 C.2.1 C.2.2.2.2.1 i_Mod t_Mod t_Mod_ok n_Mod C.2.2.2.1 C.2.2.2.2.2.1 hP (C.2.2.2.2.2.2.1 s) hS p (gw_obj hk (by decide) (by decide)) rfl 39 (by decide) (C.2.2.2.2.1 _ hl) (fun _ h9 => h9) rfl (by decide +kernel) rfl rfl (Nat.le_of_ble_eq_true rfl) d (fun H1 locs1 hP1 hD1 hS1 => k H1 locs1 ls (by rw [← gw_put (g := xg X) (s := s) (j := 39) (v := v) hk (by decide) (by decide) rfl]; simpa [cellO, wr] using hP1) hS1 hh)
def shp (i : Int32) : Nat := 66 + 2 * i.toNatClampNeg
theorem shp_kd {i : Int32} (h : vp_in i 8) : kd (shp i) = 9 := by
  have : i.toNatClampNeg < 8 := Nat.not_le.mp fun q => h (Or.inr q)
  unfold shp
  generalize i.toNatClampNeg = j at this ⊢
  match j, this with
  | 0, _ => rfl
  | 1, _ => rfl
  | 2, _ => rfl
  | 3, _ => rfl
  | 4, _ => rfl
  | 5, _ => rfl
  | 6, _ => rfl
  | 7, _ => rfl
  | j + 8, h => omega
theorem x_iald (C : Cok X cc own nL ret rm) {n : Nat} {i : Int32} (hk : kd p = 100 + n) (hi : vp_in i n) (d : decode cc pc = .ok (.iaload, 1)) (k : V X Q kc ks s (pc + 1) L (.int (s p i.toNatClampNeg) :: st)) : V X Q kc ks s pc L (.int i :: .ref (xa X p) :: st) := fun H locs ls hP hS hh =>
  va_iald C.1 C.2.1 C.2.2.2.2.2.1 hP p 0 (gw_arr hk) rfl hi d (k H locs ls hP hS hh)
theorem x_iast (C : Cok X cc own nL ret rm) {n : Nat} {i x : Int32} (hk : kd p = 100 + n) (hi : vp_in i n) (d : decode cc pc = .ok (.iastore, 1)) (k : V X Q kc ks (wr s p i.toNatClampNeg x) (pc + 1) L st) : V X Q kc ks s pc L (.int x :: .int i :: .ref (xa X p) :: st) := fun H locs ls hP hS hh =>
  va_iast C.1 C.2.1 C.2.2.2.2.2.1 hP (C.2.2.2.2.2.2.1 s) hS p 0 (gw_arr hk) rfl hi d (fun H1 locs1 hP1 hD1 hS1 => k H1 locs1 ls (by rw [← gw_ast hk]; exact hP1) hS1 hh)
theorem x_alen (C : Cok X cc own nL ret rm) {n : Nat} (hk : kd p = 100 + n) (d : decode cc pc = .ok (.arraylength, 1)) (k : V X Q kc ks s (pc + 1) L (.int (nI n) :: st)) : V X Q kc ks s pc L (.ref (xa X p) :: st) := fun H locs ls hP hS hh =>
  va_alen C.1 C.2.1 C.2.2.2.2.2.1 hP p 0 (gw_arr hk) (ty := .int) rfl rfl d (k H locs ls hP hS hh)
theorem x_aald (C : Cok X cc own nL ret rm) {i : Int32} (hi : vp_in i 8) (d : decode cc pc = .ok (.aaload, 1)) (k : V X Q kc ks s (pc + 1) L (.ref (xa X (shp i)) :: st)) : V X Q kc ks s pc L (.int i :: .ref (xa X 65) :: st) := fun H locs ls hP hS hh =>
  va_aldq C.1 C.2.1 C.2.2.2.2.2.1 hP 65 1 (gw_she (p := 65) rfl) rfl hi d (k H locs ls hP hS hh)
end XF
-- ends
section XE
variable {X : Xx} {cc : ByteArray} {own : String} {nL : Nat} {rm : Room} {s : St} {pc : Nat} {L : List (Option Value)} {post : Option Value → St → Prop}
def bi (b : Bool) : Int32 := if b then 1 else 0
theorem bi_ok (b : Bool) : narrow .boolean (.int (bi b)) = .int (bi b) ∧ fits .boolean (.int (bi b)) = true := by cases b <;> exact ⟨rfl, rfl⟩
theorem x_ireturn (C : Cok X cc own nL (some .int) rm) {v : Int32} (d : decode cc pc = .ok (.ireturn, 1)) (h : post (some (.int v)) s) : V X (xQ X post) 0 0 s pc L [.int v] := fun H locs ls hP hS hl =>
  W.iret C.1 C.2.1 C.2.2.2.2.2.2.2.2.2.1 (fun t ht hW => ⟨⟨_, s, rfl, h, by rw [ht]; exact hP⟩, hS.F ht⟩) hS.2.2 d C.2.2.2.2.2.2.2.2.1
theorem x_zreturn (C : Cok X cc own nL (some .boolean) rm) {b : Bool} (d : decode cc pc = .ok (.ireturn, 1)) (h : post (some (.int (bi b))) s) : V X (xQ X post) 0 0 s pc L [.int (bi b)] := fun H locs ls hP hS hl =>
  W.zret C.1 C.2.1 C.2.2.2.2.2.2.2.2.2.1 (bi_ok b).1 (fun t ht hW => ⟨⟨_, s, rfl, h, by rw [ht]; exact hP⟩, hS.F ht⟩) hS.2.2 d C.2.2.2.2.2.2.2.2.1
theorem x_lreturn (C : Cok X cc own nL (some .long) rm) {v : Int64} (d : decode cc pc = .ok (.lreturn, 1)) (h : post (some (.long v)) s) : V X (xQ X post) 0 0 s pc L [.long v] := fun H locs ls hP hS hl =>
  W.lret C.1 C.2.1 C.2.2.2.2.2.2.2.2.2.1 (fun t ht hW => ⟨⟨_, s, rfl, h, by rw [ht]; exact hP⟩, hS.F ht⟩) hS.2.2 d C.2.2.2.2.2.2.2.2.1
theorem x_return (C : Cok X cc own nL none rm) (d : decode cc pc = .ok (.return_, 1)) (h : post none s) : V X (xQ X post) 0 0 s pc L [] := fun H locs ls hP hS hl =>
  W.vret C.1 C.2.1 C.2.2.2.2.2.2.2.2.2.1 (fun t ht hW => ⟨⟨_, s, rfl, h, by rw [ht]; exact hP⟩, hS.F ht⟩) hS.2.2 d C.2.2.2.2.2.2.2.2.1
theorem x_areturn {rt : FieldType} (C : Cok X cc own nL (some rt) rm) (hrt : (∃ n, rt = .object n) ∨ ∃ t, rt = .array t) {v : Nat} (d : decode cc pc = .ok (.areturn, 1)) (h : post (some (.ref v)) s) : V X (xQ X post) 0 0 s pc L [.ref v] := fun H locs ls hP hS hl =>
  W.aret C.1 C.2.1 C.2.2.2.2.2.2.2.2.2.1 hrt (Or.inr ⟨_, rfl⟩) (fun t ht hW => ⟨⟨_, s, rfl, h, by rw [ht]; exact hP⟩, hS.F ht⟩) hS.2.2 d C.2.2.2.2.2.2.2.2.1
end XE
-- calls
def CwV (y : MethodName) (cc : ByteArray) (nL : Nat) (ret : Option FieldType) (n : Nat) : Prop := Cond.instanceMethod y ∈ tbl ∧ Cond.selects y.cls y y ∈ tbl ∧ Cond.initialized y.cls ∈ tbl ∧ Cond.code y cc nL ret ∈ tbl ∧ y.cls ≠ "java/lang/invoke/MethodHandle" ∧ y.cls ≠ "java/lang/invoke/VarHandle" ∧ (parseMethodDescriptor y.desc).map (fun d => d.parameters.length) = some n
def CwS (y : MethodName) (cc : ByteArray) (nL : Nat) (ret : Option FieldType) (n : Nat) : Prop := Cond.static y ∈ tbl ∧ Cond.initialized y.cls ∈ tbl ∧ Cond.code y cc nL ret ∈ tbl ∧ y.cls ≠ "java/lang/invoke/MethodHandle" ∧ y.cls ≠ "java/lang/invoke/VarHandle" ∧ (parseMethodDescriptor y.desc).map (fun d => d.parameters.length) = some n
/-- the callee's room in the caller's -/
def Rin (r R : Room) (nL : Nat) : Prop := r.cells = 0 ∧ r.slots = 0 ∧ r.frames + 1 ≤ R.frames ∧ 8 + (nL + 11) + r.locals ≤ R.locals
theorem good_code {c : Cond} (h : c ∈ tbl) : GoodIn tbl (c :: tbl) := fun w hw => by
  rcases List.mem_cons.mp hw with rfl | hw
  · exact ⟨h, tbl_good _ h⟩
  · exact ⟨hw, tbl_good _ hw⟩
theorem mc_blind {g : Gx} {av : List Value} {s : St} : FrameBlind (va_Pc av (fun U => va_P (gD g) classes (gw g s) U.heap ∧ va_K (gD g) classes (gty g) U)) := fun a U g mk q => by
  obtain ⟨q0, qP, qK⟩ := q
  exact ⟨q0, qP, va_K.moved (u := U) (U := U.calling g mk a) (Vm.Alike.refl U.vm) qK⟩
section XC
variable {X : Xx} {cc cy : ByteArray} {own : String} {nL ny n i : Nat} {ret ry : Option FieldType} {rm r : Room} {Q : State → Prop} {kc ks : Nat} {s : St} {pc : Nat} {L : List (Option Value)} {st As rest : List Value} {p : Nat} {y : MethodName} {post : Option Value → St → Prop}
theorem x_after {avs : Array Value} {H : Heap} {locs : List Loc} {ls : Array Slot} (hr : va_Run (xp X) (gl (xg X)) (xe X) (xR X) (xs X) (xm X) (xar X) (xbe X) (xme X) (xc X) H locs kc ks 0 0 (F0 (xm X) pc ls st) rest (Qx (xg X) post avs) (gA (xg X))) (hS : va_S (gA (xg X)) (xs X).heap H locs) (hl : lh ls (xn X) L) (k : ∀ v s', post v s' → V X Q kc ks s' (pc + 3) L (v.toList ++ rest)) : W (xp X) (gl (xg X)) (xe X) (xR X) (xs X) (xm X) (xar X) (xbe X) (xme X) (xc X) H locs kc ks Q (F0 (xm X) pc ls st) := by
  intro T hT XX
  obtain ⟨v, st₀, t, T', L1, h0, X', hL, e1, e2, ⟨⟨v1, u, hv, hp, hb⟩, hz, hk⟩, go⟩ := hr T hT XX
  cases hv
  rw [h0] at hz hk
  obtain ⟨t2, a1, b1⟩ := k v u hp T'.heap (locs ++ L1) ls (by rw [e1]; exact hb) ⟨Nat.le_trans hS.1 (by rw [e1]; exact hz), fun q h1 h2 => by rw [e1, hk q (Nat.lt_of_lt_of_le h1 hS.1) h2]; exact hS.2.1 q h1 h2, fun q hq => by
      rcases List.mem_append.mp hq with h | h
      · exact hS.2.2 q h
      · exact hL q h⟩ hl T' rfl X'
  exact ⟨t2, go t2 a1, b1⟩
theorem x_callV (C : Cok X cc own nL ret rm) (hM : Mc (xg X) y cy ny ry r (.ref (xa X p) :: As) s post) (w : CwV y cy ny ry n) (hl : Cond.methodLink own i y ∈ tbl) {q : vw_C} {kk : Nat} (hk : kd p = kk) (h0 : 0 < kk) (h1 : kk < 11) (hc : classes[(cellO (ga (xg X)) s p kk).1]? = some q) (hq : q.1 = y.cls) (hn : As.length = n) (hR : Rin r rm ny) (hcs : kc ≤ rm.cells ∧ ks ≤ rm.slots) (hst : st = As.reverse ++ .ref (xa X p) :: rest) (hct : (rest.map fun v => v.category).sum ≤ 8) (d : decode cc pc = .ok (.invokevirtual i, 3)) (k : ∀ v s', post v s' → V X Q kc ks s' (pc + 3) L (v.toList ++ rest)) : V X Q kc ks s pc L st := fun H locs ls hP hS hl' => by
  have hts := C.2.2.2.2.1
  have hKK := C.2.2.2.2.2.1
  have hRm := C.2.2.2.2.2.2.2.1
  refine x_after (va_runV (As := As) (rest := rest) (Ts := tbl) (b := xa X p) (C := y.cls) (nL := nL) (own := own) ⟨C.1, C.2.1, C.2.2.1, C.2.2.2.1, hts⟩ hM (n := n) ⟨callB_of n hts (good_code w.2.2.2.1) rfl hR.1 hR.2.1 (hts _ w.2.2.1) (hts _ hl) w.2.2.2.2 (by rw [hRm]; exact hR.2.2), hts _ w.1, hts _ w.2.1⟩ ⟨mc_blind, ?_, fun U hU hW => ⟨rfl, by rw [hU]; exact hP, va_K.moved hW.alike hKK⟩⟩ rfl hn (hl'.1.trans C.2.2.2.2.2.2.2.2.2.2) hst (lv_room hct) d (by rw [hRm]; exact hcs)) hS hl' k
  have := va_recv hKK hP (ci := (cellO (ga (xg X)) s p kk).1) (q0 := p) hc (gw_obj hk h0 h1)
  rw [hq] at this
  exact this
theorem x_callS (C : Cok X cc own nL ret rm) (hM : Mc (xg X) y cy ny ry r As s post) (w : CwS y cy ny ry n) (hl : Cond.methodLink own i y ∈ tbl) (hn : As.length = n) (hR : Rin r rm ny) (hcs : kc ≤ rm.cells ∧ ks ≤ rm.slots) (hst : st = As.reverse ++ rest) (hct : (rest.map fun v => v.category).sum ≤ 8) (d : decode cc pc = .ok (.invokestatic i, 3)) (k : ∀ v s', post v s' → V X Q kc ks s' (pc + 3) L (v.toList ++ rest)) : V X Q kc ks s pc L st := fun H locs ls hP hS hl' => by
  have hts := C.2.2.2.2.1
  have hKK := C.2.2.2.2.2.1
  have hRm := C.2.2.2.2.2.2.2.1
  exact x_after (va_runS (As := As) (rest := rest) (Ts := tbl) (nL := nL) (own := own) ⟨C.1, C.2.1, C.2.2.1, C.2.2.2.1, hts⟩ hM (n := n) ⟨callB_of n hts (good_code w.2.2.1) rfl hR.1 hR.2.1 (hts _ w.2.1) (hts _ hl) w.2.2.2 (by rw [hRm]; exact hR.2.2), hts _ w.1⟩ ⟨mc_blind, fun U hU hW => ⟨rfl, by rw [hU]; exact hP, va_K.moved hW.alike hKK⟩⟩ rfl hn (hl'.1.trans C.2.2.2.2.2.2.2.2.2.2) hst (lv_room hct) d (by rw [hRm]; exact hcs)) hS hl' k
theorem x_callSN {host : String} (C : Cok X cc own nL ret rm) (hM : Mc (xg X) y cy ny ry r As s post) (w : CwS y cy ny ry n) (hl : Cond.methodLinkNest own i y host ∈ tbl) (hn : As.length = n) (hR : Rin r rm ny) (hcs : kc ≤ rm.cells ∧ ks ≤ rm.slots) (hst : st = As.reverse ++ rest) (hct : (rest.map fun v => v.category).sum ≤ 8) (d : decode cc pc = .ok (.invokestatic i, 3)) (k : ∀ v s', post v s' → V X Q kc ks s' (pc + 3) L (v.toList ++ rest)) : V X Q kc ks s pc L st := fun H locs ls hP hS hl' => by
  have hts := C.2.2.2.2.1
  have hKK := C.2.2.2.2.2.1
  have hRm := C.2.2.2.2.2.2.2.1
  have hlink := hts _ hl
  refine x_after (va_runSN (As := As) (rest := rest) (Ts := tbl) (nL := nL) (own := own) (host := host) ⟨C.1, C.2.1, C.2.2.1, C.2.2.2.1, hts⟩ hM (n := n) ⟨⟨⟨hR.1, hR.2.1, by rw [hRm]; exact hR.2.2.1, by rw [hRm]; exact hR.2.2.2, pay_in hts (good_code w.2.2.1), List.mem_cons_self⟩, hts _ w.2.2.1, hts _ w.2.1, ⟨w.2.2.2.1, w.2.2.2.2.1⟩, fun sig h => ?_, hlink⟩, hts _ w.1, trivial⟩ ⟨mc_blind, fun U hU hW => ⟨rfl, by rw [hU]; exact hP, va_K.moved hW.alike hKK⟩⟩ rfl hn (hl'.1.trans C.2.2.2.2.2.2.2.2.2.2) hst (lv_room hct) d (by rw [hRm]; exact hcs)) hS hl' k
  have h2 := w.2.2.2.2.2
  rw [h] at h2
  exact (Option.some.inj h2).symm
end XC
/-- a method's contract out of its walk -/
theorem mc_ofV {g : Gx} {y : MethodName} {cc : ByteArray} {nL j : Nat} {ret : Option FieldType} {rm : Room} {av : List Value} {s : St} {post : Option Value → St → Prop} {L : List (Option Value)} (hg : gOk g) (hy : plainName y.cls = true) (hav : (lg_sl av).length ≤ nL) (hL : la av ++ List.replicate j none = L)
    (body : ∀ X : Xx, xg X = g → Cok X cc y.cls nL ret rm → V X (xQ X post) 0 0 s 0 L []) : Mc g y cc nL ret rm av s post := by
  refine Met.ofW (cc := cc) (maxL := nL) (ret := ret) hy rfl ?_
  intro p e s0 m args below meth c s₁ B hml hv
  obtain ⟨rfl, hP, hK⟩ := hv
  have hl := lv_entry av (n := nL) hav
  rw [lg_entry_eq]
  generalize (lg_sl av ++ List.replicate (nL - (lg_sl av).length) Slot.unset).toArray = ls at hl ⊢
  have hts := atoms_spec (ws := Cond.code y cc nL ret :: tbl) B.pre
  exact body (g, p, e, (headSpec (Cond.code y cc nL ret :: tbl) rm).room, s0, m, av.toArray, below, meth, c, nL) rfl ⟨B.exec, B.bytes, hml, findClass_of_methodNamed B.named, fun w hw => hts w (List.mem_cons_of_mem _ hw), hK, hg, rfl, B.notSynchronized, B.returns, rfl⟩ s0.heap [] ls hP va_S.rf (by rw [← hL]; exact lh_entry hl)
end
section
section XG
variable {X : Xx} {cc : ByteArray} {own : String} {nL : Nat} {ret : Option FieldType} {rm : Room} {Q : State → Prop} {kc ks : Nat} {s : St} {pc : Nat} {L : List (Option Value)} {st : List Value} {p : Nat}
theorem x_ldcw (C : Cok X cc own nL ret rm) {i : Nat} {v : Int32} (d : decode cc pc = .ok (.ldc_w i, 3)) (hc : Cond.constant own i v ∈ tbl) (k : V X Q kc ks s (pc + 3) L (.int v :: st)) : V X Q kc ks s pc L st := fun H locs ls hP hS hl => lv_ldcw C.1 C.2.1 C.2.2.2.1 (C.2.2.2.2.1 _ hc) d (k H locs ls hP hS hl)
theorem x_lcmp (C : Cok X cc own nL ret rm) {x y : Int64} (d : decode cc pc = .ok (.lcmp, 1)) (k : V X Q kc ks s (pc + 1) L (.int (lg_cmp x y) :: st)) : V X Q kc ks s pc L (.long y :: .long x :: st) := fun H locs ls hP hS hl => W.lcmp C.1 C.2.1 d (k H locs ls hP hS hl)
theorem x_wk {L' : List (Option Value)} (k : V X Q kc ks s pc L' st) (h : lsub L L') : V X Q kc ks s pc L st := x_sub h k
theorem x_st (k : ∀ s' : St, s' = s → V X Q kc ks s' pc L st) : V X Q kc ks s pc L st := k s rfl
/-- System.arraycopy may be done -/
def cpok (sp dp n : Int32) (n0 n1 : Nat) : Prop := ¬ sp < 0 ∧ ¬ dp < 0 ∧ ¬ n < 0 ∧ sp.toNatClampNeg + n.toNatClampNeg ≤ n0 ∧ dp.toNatClampNeg + n.toNatClampNeg ≤ n1
theorem gw_cpy {g : Gx} {s : St} {d e n a b c : Nat} (h : kd e = 100 + n) : (gw g s).set e (ga g e, .inl (gI g, n, .inl (va_cpy (s d) (s e) a b c))) = gw g (wcp s d e a b c) :=
  wl_set (kd_lt (by omega)) (fun q i hq => by simp [wcp, hq]) (by rw [cellE_arr h]; congr; funext j; simp [wcp])
theorem cp_nat : Cond.native arraycopyName ∈ tbl ∧ Cond.static arraycopyName ∈ tbl ∧ Cond.initialized "java/lang/System" ∈ tbl := ⟨tbl_at 425 (by decide +kernel) rfl, tbl_at 424 (by decide +kernel) rfl, tbl_at 59 (by decide +kernel) rfl⟩
theorem x_copy (C : Cok X cc own nL ret rm) {d e n0 n1 i : Nat} {sp dp n : Int32} (hd : kd d = 100 + n0) (he : kd e = 100 + n1) (ho : cpok sp dp n n0 n1) (hl : Cond.methodLink own i arraycopyName ∈ tbl) (hfr : 1 ≤ rm.frames) (hlo : (st.map fun v => v.category).sum + 18 ≤ rm.locals) (dc : decode cc pc = .ok (.invokestatic i, 3)) (k : V X Q kc ks (wcp s d e sp.toNatClampNeg dp.toNatClampNeg n.toNatClampNeg) (pc + 3) L st) : V X Q kc ks s pc L (.int n :: .int dp :: .ref (xa X e) :: .int sp :: .ref (xa X d) :: st) := fun H locs ls hP hS hh => by
  have hts := C.2.2.2.2.1
  have hRm := C.2.2.2.2.2.2.2.1
  exact va_copyi C.1 C.2.1 (C.2.2.1.trans (hh.1.trans C.2.2.2.2.2.2.2.2.2.2).symm) C.2.2.2.1 (hts _ hl) (hts _ cp_nat.1) (hts _ cp_nat.2.1) (hts _ cp_nat.2.2) C.2.2.2.2.2.1 hP (C.2.2.2.2.2.2.1 s) hS d e 0 0 (ty := .int) (gw_arr hd) (gw_arr he) rfl rfl rfl ho.1 ho.2.1 ho.2.2.1 ho.2.2.2.1 ho.2.2.2.2 (fun _ _ => rfl) (by rw [hRm]; exact hfr) (by rw [hRm]; exact hlo) dc (fun H1 locs1 hP1 hD1 hS1 => k H1 locs1 ls (by rw [← gw_cpy he]; exact hP1) hS1 hh)
def imax (x y : Int32) : Int32 := if x < y then y else x
def imin (x y : Int32) : Int32 := if y < x then y else x
theorem mx_w : Cond.static Lib.Math.max.name ∈ tbl ∧ Cond.initialized "java/lang/Math" ∈ tbl ∧ Cond.code Lib.Math.max.name Lib.Math.max.code 2 (some .int) ∈ tbl := ⟨tbl_at 449 (by decide +kernel) rfl, tbl_at 61 (by decide +kernel) rfl, tbl_at 450 (by decide +kernel) rfl⟩
theorem mn_w : Cond.static Lib.Math.min.name ∈ tbl ∧ Cond.initialized "java/lang/Math" ∈ tbl ∧ Cond.code Lib.Math.min.name Lib.Math.min.code 2 (some .int) ∈ tbl := ⟨tbl_at 711 (by decide +kernel) rfl, tbl_at 61 (by decide +kernel) rfl, tbl_at 712 (by decide +kernel) rfl⟩
theorem x_mmax (C : Cok X cc own nL ret rm) {i : Nat} {x y : Int32} (hl : Cond.methodLink own i Lib.Math.max.name ∈ tbl) (hfr : 1 ≤ rm.frames) (hlo : (st.map fun v => v.category).sum + 13 ≤ rm.locals) (hcs : kc ≤ rm.cells ∧ ks ≤ rm.slots) (d : decode cc pc = .ok (.invokestatic i, 3)) (k : V X Q kc ks s (pc + 3) L (.int (imax x y) :: st)) : V X Q kc ks s pc L (.int y :: .int x :: st) := fun H locs ls hP hS hh => by
  have hts := C.2.2.2.2.1
  have hRm := C.2.2.2.2.2.2.2.1
  exact va_mmax C.1 C.2.1 (C.2.2.1.trans (hh.1.trans C.2.2.2.2.2.2.2.2.2.2).symm) C.2.2.2.1 (hts _ hl) (hts _ mx_w.1) (hts _ mx_w.2.1) (hts _ mx_w.2.2) (by rw [hRm]; exact hfr) (by rw [hRm]; exact hlo) (by rw [hRm]; exact hcs.1) (by rw [hRm]; exact hcs.2) d (k H locs ls hP hS hh)
theorem x_mmin (C : Cok X cc own nL ret rm) {i : Nat} {x y : Int32} (hl : Cond.methodLink own i Lib.Math.min.name ∈ tbl) (hfr : 1 ≤ rm.frames) (hlo : (st.map fun v => v.category).sum + 13 ≤ rm.locals) (hcs : kc ≤ rm.cells ∧ ks ≤ rm.slots) (d : decode cc pc = .ok (.invokestatic i, 3)) (k : V X Q kc ks s (pc + 3) L (.int (imin x y) :: st)) : V X Q kc ks s pc L (.int y :: .int x :: st) := fun H locs ls hP hS hh => by
  have hts := C.2.2.2.2.1
  have hRm := C.2.2.2.2.2.2.2.1
  exact va_mmin C.1 C.2.1 (C.2.2.1.trans (hh.1.trans C.2.2.2.2.2.2.2.2.2.2).symm) C.2.2.2.1 (hts _ hl) (hts _ mn_w.1) (hts _ mn_w.2.1) (hts _ mn_w.2.2) (by rw [hRm]; exact hfr) (by rw [hRm]; exact hlo) (by rw [hRm]; exact hcs.1) (by rw [hRm]; exact hcs.2) d (k H locs ls hP hS hh)
end XG
theorem kd_big {p : Nat} (h : 98 ≤ p) : kd p = 0 := by
  unfold kd
  rw [List.getD_eq_getElem?_getD, List.getElem?_eq_none (by simpa [kdl] using h)]
  rfl
theorem kd_chk {a b o : Nat} (h0 : a ≠ 0) (h : ∀ p, p < 98 → kd p = a → kd (p + o) = b) {p : Nat} (hp : kd p = a) : kd (p + o) = b := by
  rcases Nat.lt_or_ge p 98 with q | q
  · exact h p q hp
  · exact absurd ((kd_big q).symm.trans hp) (fun z => h0 z.symm)

theorem ks_7_1 {p : Nat} (h : kd p = 7) : kd (p + 1) = 106 := kd_chk (by decide) (by decide +kernel) h
theorem ks_7_2 {p : Nat} (h : kd p = 7) : kd (p + 2) = 106 := kd_chk (by decide) (by decide +kernel) h
theorem ks_4_1 {p : Nat} (h : kd p = 4) : kd (p + 1) = 106 := kd_chk (by decide) (by decide +kernel) h
theorem ks_4_2 {p : Nat} (h : kd p = 4) : kd (p + 2) = 106 := kd_chk (by decide) (by decide +kernel) h
theorem ks_4_3 {p : Nat} (h : kd p = 4) : kd (p + 3) = 106 := kd_chk (by decide) (by decide +kernel) h
theorem ks_4_4 {p : Nat} (h : kd p = 4) : kd (p + 4) = 106 := kd_chk (by decide) (by decide +kernel) h
theorem ks_4_5 {p : Nat} (h : kd p = 4) : kd (p + 5) = 106 := kd_chk (by decide) (by decide +kernel) h
theorem ks_4_6 {p : Nat} (h : kd p = 4) : kd (p + 6) = 106 := kd_chk (by decide) (by decide +kernel) h
theorem ks_2_1 {p : Nat} (h : kd p = 2) : kd (p + 1) = 3 := kd_chk (by decide) (by decide +kernel) h
theorem ks_2_10 {p : Nat} (h : kd p = 2) : kd (p + 10) = 4 := kd_chk (by decide) (by decide +kernel) h
theorem ks_6_1 {p : Nat} (h : kd p = 6) : kd (p + 1) = 106 := kd_chk (by decide) (by decide +kernel) h
theorem ks_8_1 {p : Nat} (h : kd p = 8) : kd (p + 1) = 106 := kd_chk (by decide) (by decide +kernel) h
theorem ks_8_2 {p : Nat} (h : kd p = 8) : kd (p + 2) = 106 := kd_chk (by decide) (by decide +kernel) h
theorem ks_9_1 {p : Nat} (h : kd p = 9) : kd (p + 1) = 200 := kd_chk (by decide) (by decide +kernel) h
theorem ks_5_1 {p : Nat} (h : kd p = 5) : kd (p + 1) = 6 := kd_chk (by decide) (by decide +kernel) h
theorem ks_5_3 {p : Nat} (h : kd p = 5) : kd (p + 3) = 6 := kd_chk (by decide) (by decide +kernel) h
theorem ks_5_5 {p : Nat} (h : kd p = 5) : kd (p + 5) = 101 := kd_chk (by decide) (by decide +kernel) h
theorem ks_3_1 {p : Nat} (h : kd p = 3) : kd (p + 1) = 112 := kd_chk (by decide) (by decide +kernel) h
theorem ks_3_2 {p : Nat} (h : kd p = 3) : kd (p + 2) = 112 := kd_chk (by decide) (by decide +kernel) h
theorem ks_3_3 {p : Nat} (h : kd p = 3) : kd (p + 3) = 112 := kd_chk (by decide) (by decide +kernel) h
theorem ks_3_4 {p : Nat} (h : kd p = 3) : kd (p + 4) = 112 := kd_chk (by decide) (by decide +kernel) h
theorem ks_3_5 {p : Nat} (h : kd p = 3) : kd (p + 5) = 112 := kd_chk (by decide) (by decide +kernel) h
theorem ks_3_6 {p : Nat} (h : kd p = 3) : kd (p + 6) = 112 := kd_chk (by decide) (by decide +kernel) h
theorem ks_3_7 {p : Nat} (h : kd p = 3) : kd (p + 7) = 112 := kd_chk (by decide) (by decide +kernel) h
theorem ks_3_8 {p : Nat} (h : kd p = 3) : kd (p + 8) = 112 := kd_chk (by decide) (by decide +kernel) h
theorem ks_1_1 {p : Nat} (h : kd p = 1) : kd (p + 1) = 2 := kd_chk (by decide) (by decide +kernel) h
theorem ks_1_18 {p : Nat} (h : kd p = 1) : kd (p + 18) = 2 := kd_chk (by decide) (by decide +kernel) h
theorem ks_1_35 {p : Nat} (h : kd p = 1) : kd (p + 35) = 2 := kd_chk (by decide) (by decide +kernel) h
theorem ks_1_52 {p : Nat} (h : kd p = 1) : kd (p + 52) = 5 := kd_chk (by decide) (by decide +kernel) h
theorem ks_1_58 {p : Nat} (h : kd p = 1) : kd (p + 58) = 7 := kd_chk (by decide) (by decide +kernel) h
theorem ks_1_61 {p : Nat} (h : kd p = 1) : kd (p + 61) = 8 := kd_chk (by decide) (by decide +kernel) h
theorem ks_1_64 {p : Nat} (h : kd p = 1) : kd (p + 64) = 106 := kd_chk (by decide) (by decide +kernel) h
theorem ks_1_65 {p : Nat} (h : kd p = 1) : kd (p + 65) = 11 := kd_chk (by decide) (by decide +kernel) h
theorem ks_10_1 {p : Nat} (h : kd p = 10) : kd (p + 1) = 178 := kd_chk (by decide) (by decide +kernel) h
theorem ks_10_2 {p : Nat} (h : kd p = 10) : kd (p + 2) = 178 := kd_chk (by decide) (by decide +kernel) h
theorem ks_10_3 {p : Nat} (h : kd p = 10) : kd (p + 3) = 178 := kd_chk (by decide) (by decide +kernel) h
theorem ks_10_4 {p : Nat} (h : kd p = 10) : kd (p + 4) = 106 := kd_chk (by decide) (by decide +kernel) h
theorem ks_10_5 {p : Nat} (h : kd p = 10) : kd (p + 5) = 106 := kd_chk (by decide) (by decide +kernel) h
theorem ks_10_6 {p : Nat} (h : kd p = 10) : kd (p + 6) = 104 := kd_chk (by decide) (by decide +kernel) h
theorem ks_10_7 {p : Nat} (h : kd p = 10) : kd (p + 7) = 106 := kd_chk (by decide) (by decide +kernel) h
theorem ks_10_8 {p : Nat} (h : kd p = 10) : kd (p + 8) = 106 := kd_chk (by decide) (by decide +kernel) h
theorem ks_10_9 {p : Nat} (h : kd p = 10) : kd (p + 9) = 106 := kd_chk (by decide) (by decide +kernel) h
theorem ks_10_10 {p : Nat} (h : kd p = 10) : kd (p + 10) = 108 := kd_chk (by decide) (by decide +kernel) h
theorem ks_10_11 {p : Nat} (h : kd p = 10) : kd (p + 11) = 108 := kd_chk (by decide) (by decide +kernel) h
theorem ks_10_12 {p : Nat} (h : kd p = 10) : kd (p + 12) = 108 := kd_chk (by decide) (by decide +kernel) h
theorem ks_10_13 {p : Nat} (h : kd p = 10) : kd (p + 13) = 108 := kd_chk (by decide) (by decide +kernel) h
theorem ks_10_14 {p : Nat} (h : kd p = 10) : kd (p + 14) = 108 := kd_chk (by decide) (by decide +kernel) h
theorem ks_10_15 {p : Nat} (h : kd p = 10) : kd (p + 15) = 900 := kd_chk (by decide) (by decide +kernel) h
end
section
theorem d_Brt_within_0 : decode b_Brt_within 0 = .ok (.iload_n 0, 1) := by decide +kernel
theorem d_Brt_within_1 : decode b_Brt_within 1 = .ok (.iload_n 1, 1) := by decide +kernel
theorem d_Brt_within_2 : decode b_Brt_within 2 = .ok (.if_icmp .lt 12, 3) := by decide +kernel
theorem d_Brt_within_5 : decode b_Brt_within 5 = .ok (.iload_n 0, 1) := by decide +kernel
theorem d_Brt_within_6 : decode b_Brt_within 6 = .ok (.iload_n 2, 1) := by decide +kernel
theorem d_Brt_within_7 : decode b_Brt_within 7 = .ok (.if_icmp .gt 7, 3) := by decide +kernel
theorem d_Brt_within_10 : decode b_Brt_within 10 = .ok (.iconst 1, 1) := by decide +kernel
theorem d_Brt_within_11 : decode b_Brt_within 11 = .ok (.goto 4, 3) := by decide +kernel
theorem d_Brt_within_14 : decode b_Brt_within 14 = .ok (.iconst 0, 1) := by decide +kernel
theorem d_Brt_within_15 : decode b_Brt_within 15 = .ok (.ireturn, 1) := by decide +kernel
theorem d_Leg_begin_0 : decode b_Leg_begin 0 = .ok (.aload_n 0, 1) := by decide +kernel
theorem d_Leg_begin_1 : decode b_Leg_begin 1 = .ok (.iconst 0, 1) := by decide +kernel
theorem d_Leg_begin_2 : decode b_Leg_begin 2 = .ok (.putfield 9, 3) := by decide +kernel
theorem d_Leg_begin_5 : decode b_Leg_begin 5 = .ok (.aload_n 0, 1) := by decide +kernel
theorem d_Leg_begin_6 : decode b_Leg_begin 6 = .ok (.iconst 0, 1) := by decide +kernel
theorem d_Leg_begin_7 : decode b_Leg_begin 7 = .ok (.putfield 15, 3) := by decide +kernel
theorem d_Leg_begin_10 : decode b_Leg_begin 10 = .ok (.aload_n 0, 1) := by decide +kernel
theorem d_Leg_begin_11 : decode b_Leg_begin 11 = .ok (.bipush (-4), 2) := by decide +kernel
theorem d_Leg_begin_13 : decode b_Leg_begin 13 = .ok (.putfield 18, 3) := by decide +kernel
theorem d_Leg_begin_16 : decode b_Leg_begin 16 = .ok (.aload_n 0, 1) := by decide +kernel
theorem d_Leg_begin_17 : decode b_Leg_begin 17 = .ok (.bipush (-4), 2) := by decide +kernel
theorem d_Leg_begin_19 : decode b_Leg_begin 19 = .ok (.putfield 21, 3) := by decide +kernel
theorem d_Leg_begin_22 : decode b_Leg_begin 22 = .ok (.aload_n 0, 1) := by decide +kernel
theorem d_Leg_begin_23 : decode b_Leg_begin 23 = .ok (.iload_n 1, 1) := by decide +kernel
theorem d_Leg_begin_24 : decode b_Leg_begin 24 = .ok (.putfield 24, 3) := by decide +kernel
theorem d_Leg_begin_27 : decode b_Leg_begin 27 = .ok (.aload_n 0, 1) := by decide +kernel
theorem d_Leg_begin_28 : decode b_Leg_begin 28 = .ok (.iconst 0, 1) := by decide +kernel
theorem d_Leg_begin_29 : decode b_Leg_begin 29 = .ok (.putfield 27, 3) := by decide +kernel
theorem d_Leg_begin_32 : decode b_Leg_begin 32 = .ok (.return_, 1) := by decide +kernel
theorem d_Yar_moreBy_0 : decode b_Yar_moreBy 0 = .ok (.iload_n 1, 1) := by decide +kernel
theorem d_Yar_moreBy_1 : decode b_Yar_moreBy 1 = .ok (.iconst 2, 1) := by decide +kernel
theorem d_Yar_moreBy_2 : decode b_Yar_moreBy 2 = .ok (.if_icmp .lt 10, 3) := by decide +kernel
theorem d_Yar_moreBy_5 : decode b_Yar_moreBy 5 = .ok (.aload_n 0, 1) := by decide +kernel
theorem d_Yar_moreBy_6 : decode b_Yar_moreBy 6 = .ok (.getfield 37, 3) := by decide +kernel
theorem d_Yar_moreBy_9 : decode b_Yar_moreBy 9 = .ok (.goto 7, 3) := by decide +kernel
theorem d_Yar_moreBy_12 : decode b_Yar_moreBy 12 = .ok (.aload_n 0, 1) := by decide +kernel
theorem d_Yar_moreBy_13 : decode b_Yar_moreBy 13 = .ok (.getfield 34, 3) := by decide +kernel
theorem d_Yar_moreBy_16 : decode b_Yar_moreBy 16 = .ok (.areturn, 1) := by decide +kernel
theorem d_Bod_bulkOf_0 : decode b_Bod_bulkOf 0 = .ok (.iload_n 2, 1) := by decide +kernel
theorem d_Bod_bulkOf_1 : decode b_Bod_bulkOf 1 = .ok (.iconst 2, 1) := by decide +kernel
theorem d_Bod_bulkOf_2 : decode b_Bod_bulkOf 2 = .ok (.irem, 1) := by decide +kernel
theorem d_Bod_bulkOf_3 : decode b_Bod_bulkOf 3 = .ok (.ifCond .ne 7, 3) := by decide +kernel
theorem d_Bod_bulkOf_6 : decode b_Bod_bulkOf 6 = .ok (.iconst 1, 1) := by decide +kernel
theorem d_Bod_bulkOf_7 : decode b_Bod_bulkOf 7 = .ok (.goto 4, 3) := by decide +kernel
theorem d_Bod_bulkOf_10 : decode b_Bod_bulkOf 10 = .ok (.iconst 0, 1) := by decide +kernel
theorem d_Bod_bulkOf_11 : decode b_Bod_bulkOf 11 = .ok (.istore 4, 2) := by decide +kernel
theorem d_Bod_bulkOf_13 : decode b_Bod_bulkOf 13 = .ok (.aload_n 0, 1) := by decide +kernel
theorem d_Bod_bulkOf_14 : decode b_Bod_bulkOf 14 = .ok (.getfield 15, 3) := by decide +kernel
theorem d_Bod_bulkOf_17 : decode b_Bod_bulkOf 17 = .ok (.iload_n 1, 1) := by decide +kernel
theorem d_Bod_bulkOf_18 : decode b_Bod_bulkOf 18 = .ok (.iaload, 1) := by decide +kernel
theorem d_Bod_bulkOf_19 : decode b_Bod_bulkOf 19 = .ok (.iload_n 3, 1) := by decide +kernel
theorem d_Bod_bulkOf_20 : decode b_Bod_bulkOf 20 = .ok (.ifCond .eq 12, 3) := by decide +kernel
theorem d_Bod_bulkOf_23 : decode b_Bod_bulkOf 23 = .ok (.aload_n 0, 1) := by decide +kernel
theorem d_Bod_bulkOf_24 : decode b_Bod_bulkOf 24 = .ok (.getfield 19, 3) := by decide +kernel
theorem d_Bod_bulkOf_27 : decode b_Bod_bulkOf 27 = .ok (.iload_n 1, 1) := by decide +kernel
theorem d_Bod_bulkOf_28 : decode b_Bod_bulkOf 28 = .ok (.iaload, 1) := by decide +kernel
theorem d_Bod_bulkOf_29 : decode b_Bod_bulkOf 29 = .ok (.goto 4, 3) := by decide +kernel
theorem d_Bod_bulkOf_32 : decode b_Bod_bulkOf 32 = .ok (.iconst 0, 1) := by decide +kernel
theorem d_Bod_bulkOf_33 : decode b_Bod_bulkOf 33 = .ok (.isub, 1) := by decide +kernel
theorem d_Bod_bulkOf_34 : decode b_Bod_bulkOf 34 = .ok (.aload_n 0, 1) := by decide +kernel
theorem d_Bod_bulkOf_35 : decode b_Bod_bulkOf 35 = .ok (.getfield 22, 3) := by decide +kernel
theorem d_Bod_bulkOf_38 : decode b_Bod_bulkOf 38 = .ok (.iload_n 1, 1) := by decide +kernel
theorem d_Bod_bulkOf_39 : decode b_Bod_bulkOf 39 = .ok (.iaload, 1) := by decide +kernel
theorem d_Bod_bulkOf_40 : decode b_Bod_bulkOf 40 = .ok (.iconst 3, 1) := by decide +kernel
theorem d_Bod_bulkOf_41 : decode b_Bod_bulkOf 41 = .ok (.idiv, 1) := by decide +kernel
theorem d_Bod_bulkOf_42 : decode b_Bod_bulkOf 42 = .ok (.iadd, 1) := by decide +kernel
theorem d_Bod_bulkOf_43 : decode b_Bod_bulkOf 43 = .ok (.iload 4, 2) := by decide +kernel
theorem d_Bod_bulkOf_45 : decode b_Bod_bulkOf 45 = .ok (.isub, 1) := by decide +kernel
theorem d_Bod_bulkOf_46 : decode b_Bod_bulkOf 46 = .ok (.ireturn, 1) := by decide +kernel
theorem d_Cav_waterAt_0 : decode b_Cav_waterAt 0 = .ok (.iload_n 1, 1) := by decide +kernel
theorem d_Cav_waterAt_1 : decode b_Cav_waterAt 1 = .ok (.bipush 60, 2) := by decide +kernel
theorem d_Cav_waterAt_3 : decode b_Cav_waterAt 3 = .ok (.idiv, 1) := by decide +kernel
theorem d_Cav_waterAt_4 : decode b_Cav_waterAt 4 = .ok (.aload_n 0, 1) := by decide +kernel
theorem d_Cav_waterAt_5 : decode b_Cav_waterAt 5 = .ok (.getfield 25, 3) := by decide +kernel
theorem d_Cav_waterAt_8 : decode b_Cav_waterAt 8 = .ok (.imul, 1) := by decide +kernel
theorem d_Cav_waterAt_9 : decode b_Cav_waterAt 9 = .ok (.ireturn, 1) := by decide +kernel
theorem d_Yar_roomAt_0 : decode b_Yar_roomAt 0 = .ok (.aload_n 0, 1) := by decide +kernel
theorem d_Yar_roomAt_1 : decode b_Yar_roomAt 1 = .ok (.getfield 15, 3) := by decide +kernel
theorem d_Yar_roomAt_4 : decode b_Yar_roomAt 4 = .ok (.iload_n 1, 1) := by decide +kernel
theorem d_Yar_roomAt_5 : decode b_Yar_roomAt 5 = .ok (.iaload, 1) := by decide +kernel
theorem d_Yar_roomAt_6 : decode b_Yar_roomAt 6 = .ok (.iconst 5, 1) := by decide +kernel
theorem d_Yar_roomAt_7 : decode b_Yar_roomAt 7 = .ok (.if_icmp .ne 18, 3) := by decide +kernel
theorem d_Yar_roomAt_10 : decode b_Yar_roomAt 10 = .ok (.iconst 0, 1) := by decide +kernel
theorem d_Yar_roomAt_11 : decode b_Yar_roomAt 11 = .ok (.aload_n 0, 1) := by decide +kernel
theorem d_Yar_roomAt_12 : decode b_Yar_roomAt 12 = .ok (.getfield 25, 3) := by decide +kernel
theorem d_Yar_roomAt_15 : decode b_Yar_roomAt 15 = .ok (.iload_n 1, 1) := by decide +kernel
theorem d_Yar_roomAt_16 : decode b_Yar_roomAt 16 = .ok (.iaload, 1) := by decide +kernel
theorem d_Yar_roomAt_17 : decode b_Yar_roomAt 17 = .ok (.iload_n 2, 1) := by decide +kernel
theorem d_Yar_roomAt_18 : decode b_Yar_roomAt 18 = .ok (.isub, 1) := by decide +kernel
theorem d_Yar_roomAt_19 : decode b_Yar_roomAt 19 = .ok (.invokestatic 62, 3) := by decide +kernel
theorem d_Yar_roomAt_22 : decode b_Yar_roomAt 22 = .ok (.goto 9, 3) := by decide +kernel
theorem d_Yar_roomAt_25 : decode b_Yar_roomAt 25 = .ok (.aload_n 0, 1) := by decide +kernel
theorem d_Yar_roomAt_26 : decode b_Yar_roomAt 26 = .ok (.getfield 25, 3) := by decide +kernel
theorem d_Yar_roomAt_29 : decode b_Yar_roomAt 29 = .ok (.iload_n 1, 1) := by decide +kernel
theorem d_Yar_roomAt_30 : decode b_Yar_roomAt 30 = .ok (.iaload, 1) := by decide +kernel
theorem d_Yar_roomAt_31 : decode b_Yar_roomAt 31 = .ok (.ireturn, 1) := by decide +kernel
theorem d_Leg_passOne_0 : decode b_Leg_passOne 0 = .ok (.aload_n 1, 1) := by decide +kernel
theorem d_Leg_passOne_1 : decode b_Leg_passOne 1 = .ok (.getfield 59, 3) := by decide +kernel
theorem d_Leg_passOne_4 : decode b_Leg_passOne 4 = .ok (.astore 5, 2) := by decide +kernel
theorem d_Leg_passOne_6 : decode b_Leg_passOne 6 = .ok (.aload_n 1, 1) := by decide +kernel
theorem d_Leg_passOne_7 : decode b_Leg_passOne 7 = .ok (.getfield 38, 3) := by decide +kernel
theorem d_Leg_passOne_10 : decode b_Leg_passOne 10 = .ok (.getfield 63, 3) := by decide +kernel
theorem d_Leg_passOne_13 : decode b_Leg_passOne 13 = .ok (.iload_n 2, 1) := by decide +kernel
theorem d_Leg_passOne_14 : decode b_Leg_passOne 14 = .ok (.iaload, 1) := by decide +kernel
theorem d_Leg_passOne_15 : decode b_Leg_passOne 15 = .ok (.istore 6, 2) := by decide +kernel
theorem d_Leg_passOne_17 : decode b_Leg_passOne 17 = .ok (.aload 5, 2) := by decide +kernel
theorem d_Leg_passOne_19 : decode b_Leg_passOne 19 = .ok (.iload 6, 2) := by decide +kernel
theorem d_Leg_passOne_21 : decode b_Leg_passOne 21 = .ok (.invokevirtual 66, 3) := by decide +kernel
theorem d_Leg_passOne_24 : decode b_Leg_passOne 24 = .ok (.astore 7, 2) := by decide +kernel
theorem d_Leg_passOne_26 : decode b_Leg_passOne 26 = .ok (.iload_n 3, 1) := by decide +kernel
theorem d_Leg_passOne_27 : decode b_Leg_passOne 27 = .ok (.ifCond .eq 11, 3) := by decide +kernel
theorem d_Leg_passOne_30 : decode b_Leg_passOne 30 = .ok (.aload 5, 2) := by decide +kernel
theorem d_Leg_passOne_32 : decode b_Leg_passOne 32 = .ok (.getfield 72, 3) := by decide +kernel
theorem d_Leg_passOne_35 : decode b_Leg_passOne 35 = .ok (.goto 8, 3) := by decide +kernel
theorem d_Leg_passOne_38 : decode b_Leg_passOne 38 = .ok (.aload 5, 2) := by decide +kernel
theorem d_Leg_passOne_40 : decode b_Leg_passOne 40 = .ok (.getfield 75, 3) := by decide +kernel
theorem d_Leg_passOne_43 : decode b_Leg_passOne 43 = .ok (.astore 8, 2) := by decide +kernel
theorem d_Leg_passOne_45 : decode b_Leg_passOne 45 = .ok (.aload_n 1, 1) := by decide +kernel
theorem d_Leg_passOne_46 : decode b_Leg_passOne 46 = .ok (.getfield 38, 3) := by decide +kernel
theorem d_Leg_passOne_49 : decode b_Leg_passOne 49 = .ok (.iload_n 2, 1) := by decide +kernel
theorem d_Leg_passOne_50 : decode b_Leg_passOne 50 = .ok (.iload 6, 2) := by decide +kernel
theorem d_Leg_passOne_52 : decode b_Leg_passOne 52 = .ok (.iconst 1, 1) := by decide +kernel
theorem d_Leg_passOne_53 : decode b_Leg_passOne 53 = .ok (.invokevirtual 78, 3) := by decide +kernel
theorem d_Leg_passOne_56 : decode b_Leg_passOne 56 = .ok (.istore 9, 2) := by decide +kernel
theorem d_Leg_passOne_58 : decode b_Leg_passOne 58 = .ok (.aload_n 1, 1) := by decide +kernel
theorem d_Leg_passOne_59 : decode b_Leg_passOne 59 = .ok (.getfield 38, 3) := by decide +kernel
theorem d_Leg_passOne_62 : decode b_Leg_passOne 62 = .ok (.getfield 82, 3) := by decide +kernel
theorem d_Leg_passOne_65 : decode b_Leg_passOne 65 = .ok (.iload_n 2, 1) := by decide +kernel
theorem d_Leg_passOne_66 : decode b_Leg_passOne 66 = .ok (.iaload, 1) := by decide +kernel
theorem d_Leg_passOne_67 : decode b_Leg_passOne 67 = .ok (.istore 10, 2) := by decide +kernel
theorem d_Leg_passOne_69 : decode b_Leg_passOne 69 = .ok (.iconst 0, 1) := by decide +kernel
theorem d_Leg_passOne_70 : decode b_Leg_passOne 70 = .ok (.istore 11, 2) := by decide +kernel
theorem d_Leg_passOne_72 : decode b_Leg_passOne 72 = .ok (.iload 11, 2) := by decide +kernel
theorem d_Leg_passOne_74 : decode b_Leg_passOne 74 = .ok (.aload 5, 2) := by decide +kernel
theorem d_Leg_passOne_76 : decode b_Leg_passOne 76 = .ok (.getfield 85, 3) := by decide +kernel
theorem d_Leg_passOne_79 : decode b_Leg_passOne 79 = .ok (.if_icmp .ge 136, 3) := by decide +kernel
theorem d_Leg_passOne_82 : decode b_Leg_passOne 82 = .ok (.iload_n 3, 1) := by decide +kernel
theorem d_Leg_passOne_83 : decode b_Leg_passOne 83 = .ok (.ifCond .eq 16, 3) := by decide +kernel
theorem d_Leg_passOne_86 : decode b_Leg_passOne 86 = .ok (.aload 5, 2) := by decide +kernel
theorem d_Leg_passOne_88 : decode b_Leg_passOne 88 = .ok (.getfield 85, 3) := by decide +kernel
theorem d_Leg_passOne_91 : decode b_Leg_passOne 91 = .ok (.iconst 1, 1) := by decide +kernel
theorem d_Leg_passOne_92 : decode b_Leg_passOne 92 = .ok (.isub, 1) := by decide +kernel
theorem d_Leg_passOne_93 : decode b_Leg_passOne 93 = .ok (.iload 11, 2) := by decide +kernel
theorem d_Leg_passOne_95 : decode b_Leg_passOne 95 = .ok (.isub, 1) := by decide +kernel
theorem d_Leg_passOne_96 : decode b_Leg_passOne 96 = .ok (.goto 5, 3) := by decide +kernel
theorem d_Leg_passOne_99 : decode b_Leg_passOne 99 = .ok (.iload 11, 2) := by decide +kernel
theorem d_Leg_passOne_101 : decode b_Leg_passOne 101 = .ok (.istore 12, 2) := by decide +kernel
theorem d_Leg_passOne_103 : decode b_Leg_passOne 103 = .ok (.iload 9, 2) := by decide +kernel
theorem d_Leg_passOne_105 : decode b_Leg_passOne 105 = .ok (.aload 7, 2) := by decide +kernel
theorem d_Leg_passOne_107 : decode b_Leg_passOne 107 = .ok (.iload 12, 2) := by decide +kernel
theorem d_Leg_passOne_109 : decode b_Leg_passOne 109 = .ok (.iaload, 1) := by decide +kernel
theorem d_Leg_passOne_110 : decode b_Leg_passOne 110 = .ok (.iadd, 1) := by decide +kernel
theorem d_Leg_passOne_111 : decode b_Leg_passOne 111 = .ok (.aload 5, 2) := by decide +kernel
theorem d_Leg_passOne_113 : decode b_Leg_passOne 113 = .ok (.iload 12, 2) := by decide +kernel
theorem d_Leg_passOne_115 : decode b_Leg_passOne 115 = .ok (.aload_n 1, 1) := by decide +kernel
theorem d_Leg_passOne_116 : decode b_Leg_passOne 116 = .ok (.aload_n 0, 1) := by decide +kernel
theorem d_Leg_passOne_117 : decode b_Leg_passOne 117 = .ok (.getfield 24, 3) := by decide +kernel
theorem d_Leg_passOne_120 : decode b_Leg_passOne 120 = .ok (.invokevirtual 88, 3) := by decide +kernel
theorem d_Leg_passOne_123 : decode b_Leg_passOne 123 = .ok (.invokevirtual 92, 3) := by decide +kernel
theorem d_Leg_passOne_126 : decode b_Leg_passOne 126 = .ok (.isub, 1) := by decide +kernel
theorem d_Leg_passOne_127 : decode b_Leg_passOne 127 = .ok (.istore 13, 2) := by decide +kernel
theorem d_Leg_passOne_129 : decode b_Leg_passOne 129 = .ok (.iload 13, 2) := by decide +kernel
theorem d_Leg_passOne_131 : decode b_Leg_passOne 131 = .ok (.iload 4, 2) := by decide +kernel
theorem d_Leg_passOne_133 : decode b_Leg_passOne 133 = .ok (.if_icmp .le 15, 3) := by decide +kernel
theorem d_Leg_passOne_136 : decode b_Leg_passOne 136 = .ok (.aload_n 0, 1) := by decide +kernel
theorem d_Leg_passOne_137 : decode b_Leg_passOne 137 = .ok (.iload_n 2, 1) := by decide +kernel
theorem d_Leg_passOne_138 : decode b_Leg_passOne 138 = .ok (.putfield 18, 3) := by decide +kernel
theorem d_Leg_passOne_141 : decode b_Leg_passOne 141 = .ok (.aload_n 0, 1) := by decide +kernel
theorem d_Leg_passOne_142 : decode b_Leg_passOne 142 = .ok (.iload 12, 2) := by decide +kernel
theorem d_Leg_passOne_144 : decode b_Leg_passOne 144 = .ok (.putfield 21, 3) := by decide +kernel
theorem d_Leg_passOne_147 : decode b_Leg_passOne 147 = .ok (.return_, 1) := by decide +kernel
theorem d_Leg_passOne_148 : decode b_Leg_passOne 148 = .ok (.aload_n 0, 1) := by decide +kernel
theorem d_Leg_passOne_149 : decode b_Leg_passOne 149 = .ok (.dup, 1) := by decide +kernel
theorem d_Leg_passOne_150 : decode b_Leg_passOne 150 = .ok (.getfield 24, 3) := by decide +kernel
theorem d_Leg_passOne_153 : decode b_Leg_passOne 153 = .ok (.aload 8, 2) := by decide +kernel
theorem d_Leg_passOne_155 : decode b_Leg_passOne 155 = .ok (.iload 12, 2) := by decide +kernel
theorem d_Leg_passOne_157 : decode b_Leg_passOne 157 = .ok (.iaload, 1) := by decide +kernel
theorem d_Leg_passOne_158 : decode b_Leg_passOne 158 = .ok (.iadd, 1) := by decide +kernel
theorem d_Leg_passOne_159 : decode b_Leg_passOne 159 = .ok (.putfield 24, 3) := by decide +kernel
theorem d_Leg_passOne_162 : decode b_Leg_passOne 162 = .ok (.iload 13, 2) := by decide +kernel
theorem d_Leg_passOne_164 : decode b_Leg_passOne 164 = .ok (.ifCond .le 17, 3) := by decide +kernel
theorem d_Leg_passOne_167 : decode b_Leg_passOne 167 = .ok (.aload_n 0, 1) := by decide +kernel
theorem d_Leg_passOne_168 : decode b_Leg_passOne 168 = .ok (.dup, 1) := by decide +kernel
theorem d_Leg_passOne_169 : decode b_Leg_passOne 169 = .ok (.getfield 24, 3) := by decide +kernel
theorem d_Leg_passOne_172 : decode b_Leg_passOne 172 = .ok (.bipush 10, 2) := by decide +kernel
theorem d_Leg_passOne_174 : decode b_Leg_passOne 174 = .ok (.iadd, 1) := by decide +kernel
theorem d_Leg_passOne_175 : decode b_Leg_passOne 175 = .ok (.putfield 24, 3) := by decide +kernel
theorem d_Leg_passOne_178 : decode b_Leg_passOne 178 = .ok (.goto 31, 3) := by decide +kernel
theorem d_Leg_passOne_181 : decode b_Leg_passOne 181 = .ok (.iload 13, 2) := by decide +kernel
theorem d_Leg_passOne_183 : decode b_Leg_passOne 183 = .ok (.iload 10, 2) := by decide +kernel
theorem d_Leg_passOne_185 : decode b_Leg_passOne 185 = .ok (.iadd, 1) := by decide +kernel
theorem d_Leg_passOne_186 : decode b_Leg_passOne 186 = .ok (.ifCond .le 23, 3) := by decide +kernel
theorem d_Leg_passOne_189 : decode b_Leg_passOne 189 = .ok (.aload_n 0, 1) := by decide +kernel
theorem d_Leg_passOne_190 : decode b_Leg_passOne 190 = .ok (.dup, 1) := by decide +kernel
theorem d_Leg_passOne_191 : decode b_Leg_passOne 191 = .ok (.getfield 24, 3) := by decide +kernel
theorem d_Leg_passOne_194 : decode b_Leg_passOne 194 = .ok (.iconst 1, 1) := by decide +kernel
theorem d_Leg_passOne_195 : decode b_Leg_passOne 195 = .ok (.iadd, 1) := by decide +kernel
theorem d_Leg_passOne_196 : decode b_Leg_passOne 196 = .ok (.putfield 24, 3) := by decide +kernel
theorem d_Leg_passOne_199 : decode b_Leg_passOne 199 = .ok (.aload_n 0, 1) := by decide +kernel
theorem d_Leg_passOne_200 : decode b_Leg_passOne 200 = .ok (.dup, 1) := by decide +kernel
theorem d_Leg_passOne_201 : decode b_Leg_passOne 201 = .ok (.getfield 27, 3) := by decide +kernel
theorem d_Leg_passOne_204 : decode b_Leg_passOne 204 = .ok (.iconst 1, 1) := by decide +kernel
theorem d_Leg_passOne_205 : decode b_Leg_passOne 205 = .ok (.iadd, 1) := by decide +kernel
theorem d_Leg_passOne_206 : decode b_Leg_passOne 206 = .ok (.putfield 27, 3) := by decide +kernel
theorem d_Leg_passOne_209 : decode b_Leg_passOne 209 = .ok (.iinc 11 1, 3) := by decide +kernel
theorem d_Leg_passOne_212 : decode b_Leg_passOne 212 = .ok (.goto (-140), 3) := by decide +kernel
theorem d_Leg_passOne_215 : decode b_Leg_passOne 215 = .ok (.return_, 1) := by decide +kernel
set_option maxRecDepth 100000 in
theorem cw_Bod_bulkOf : CwV y_Bod_bulkOf b_Bod_bulkOf 5 (some FieldType.int) 3 := ⟨tbl_at 569 (by decide +kernel) rfl, tbl_at 570 (by decide +kernel) rfl, tbl_at 51 (by decide +kernel) rfl, tbl_at 571 rfl rfl, by decide +kernel, by decide +kernel, by decide +kernel⟩
set_option maxRecDepth 100000 in
theorem cw_Cav_waterAt : CwV y_Cav_waterAt b_Cav_waterAt 2 (some FieldType.int) 1 := ⟨tbl_at 499 (by decide +kernel) rfl, tbl_at 500 (by decide +kernel) rfl, tbl_at 49 (by decide +kernel) rfl, tbl_at 501 rfl rfl, by decide +kernel, by decide +kernel, by decide +kernel⟩
set_option maxRecDepth 100000 in
theorem cw_Yar_moreBy : CwV y_Yar_moreBy b_Yar_moreBy 2 (some (FieldType.array FieldType.int)) 1 := ⟨tbl_at 573 (by decide +kernel) rfl, tbl_at 574 (by decide +kernel) rfl, tbl_at 50 (by decide +kernel) rfl, tbl_at 575 rfl rfl, by decide +kernel, by decide +kernel, by decide +kernel⟩
set_option maxRecDepth 100000 in
theorem cw_Yar_roomAt : CwV y_Yar_roomAt b_Yar_roomAt 3 (some FieldType.int) 2 := ⟨tbl_at 503 (by decide +kernel) rfl, tbl_at 504 (by decide +kernel) rfl, tbl_at 50 (by decide +kernel) rfl, tbl_at 505 rfl rfl, by decide +kernel, by decide +kernel, by decide +kernel⟩
theorem fl_Bod_15 : Cond.fieldLink R_Bod 15 "BreatheOut$Bodies" "chest" "[I" ∈ tbl := tbl_at 137 (by decide +kernel) rfl
theorem fl_Bod_19 : Cond.fieldLink R_Bod 19 "BreatheOut$Bodies" "out" "[I" ∈ tbl := tbl_at 139 (by decide +kernel) rfl
theorem fl_Bod_22 : Cond.fieldLink R_Bod 22 "BreatheOut$Bodies" "fear" "[I" ∈ tbl := tbl_at 143 (by decide +kernel) rfl
theorem fl_Cav_25 : Cond.fieldLink R_Cav 25 "BreatheOut$Cave" "rise" "I" ∈ tbl := tbl_at 180 (by decide +kernel) rfl
theorem fl_Leg_15 : Cond.fieldLink R_Leg 15 "BreatheOut$Leg" "arrivals" "I" ∈ tbl := tbl_at 219 (by decide +kernel) rfl
theorem fl_Leg_18 : Cond.fieldLink R_Leg 18 "BreatheOut$Leg" "stuck" "I" ∈ tbl := tbl_at 222 (by decide +kernel) rfl
theorem fl_Leg_21 : Cond.fieldLink R_Leg 21 "BreatheOut$Leg" "where" "I" ∈ tbl := tbl_at 225 (by decide +kernel) rfl
theorem fl_Leg_24 : Cond.fieldLink R_Leg 24 "BreatheOut$Leg" "clock" "I" ∈ tbl := tbl_at 227 (by decide +kernel) rfl
theorem fl_Leg_27 : Cond.fieldLink R_Leg 27 "BreatheOut$Leg" "breaths" "I" ∈ tbl := tbl_at 231 (by decide +kernel) rfl
theorem fl_Leg_38 : Cond.fieldLink R_Leg 38 "BreatheOut$Cave" "bodies" "LBreatheOut$Bodies;" ∈ tbl := tbl_at 176 (by decide +kernel) rfl
theorem fl_Leg_59 : Cond.fieldLink R_Leg 59 "BreatheOut$Cave" "yards" "LBreatheOut$Yards;" ∈ tbl := tbl_at 172 (by decide +kernel) rfl
theorem fl_Leg_63 : Cond.fieldLink R_Leg 63 "BreatheOut$Bodies" "posture" "[I" ∈ tbl := tbl_at 150 (by decide +kernel) rfl
theorem fl_Leg_72 : Cond.fieldLink R_Leg 72 "BreatheOut$Yards" "minutesBack" "[I" ∈ tbl := tbl_at 105 (by decide +kernel) rfl
theorem fl_Leg_75 : Cond.fieldLink R_Leg 75 "BreatheOut$Yards" "minutesThere" "[I" ∈ tbl := tbl_at 102 (by decide +kernel) rfl
theorem fl_Leg_82 : Cond.fieldLink R_Leg 82 "BreatheOut$Bodies" "out" "[I" ∈ tbl := tbl_at 140 (by decide +kernel) rfl
theorem fl_Leg_85 : Cond.fieldLink R_Leg 85 "BreatheOut$Yards" "count" "I" ∈ tbl := tbl_at 91 (by decide +kernel) rfl
theorem fl_Leg_9 : Cond.fieldLink R_Leg 9 "BreatheOut$Leg" "arrived" "I" ∈ tbl := tbl_at 216 (by decide +kernel) rfl
theorem fl_Yar_15 : Cond.fieldLink R_Yar 15 "BreatheOut$Yards" "kind" "[I" ∈ tbl := tbl_at 93 (by decide +kernel) rfl
theorem fl_Yar_25 : Cond.fieldLink R_Yar 25 "BreatheOut$Yards" "dryRoom" "[I" ∈ tbl := tbl_at 99 (by decide +kernel) rfl
theorem fl_Yar_34 : Cond.fieldLink R_Yar 34 "BreatheOut$Yards" "moreHeadFirst" "[I" ∈ tbl := tbl_at 106 (by decide +kernel) rfl
theorem fl_Yar_37 : Cond.fieldLink R_Yar 37 "BreatheOut$Yards" "moreFeetFirst" "[I" ∈ tbl := tbl_at 107 (by decide +kernel) rfl
theorem ml_Leg_66 : Cond.methodLink R_Leg 66 y_Yar_moreBy ∈ tbl := tbl_at 612 (by decide +kernel) rfl
theorem ml_Leg_78 : Cond.methodLink R_Leg 78 y_Bod_bulkOf ∈ tbl := tbl_at 613 (by decide +kernel) rfl
theorem ml_Leg_88 : Cond.methodLink R_Leg 88 y_Cav_waterAt ∈ tbl := tbl_at 614 (by decide +kernel) rfl
theorem ml_Leg_92 : Cond.methodLink R_Leg 92 y_Yar_roomAt ∈ tbl := tbl_at 615 (by decide +kernel) rfl
theorem ml_Yar_62 : Cond.methodLink R_Yar 62 Lib.Math.max.name ∈ tbl := tbl_at 506 (by decide +kernel) rfl
def vc_Brt_within (x0 : Int32) (x1 : Int32) (x2 : Int32) (Q : Bool → Prop) : Prop :=
    ((x0 < x1 → Q false) ∧ (¬ x0 < x1 → ((x2 < x0 → Q false) ∧ (¬ x2 < x0 → Q true))))
def rm_Brt_within : Room := { frames := 0, cells := 0, slots := 0, locals := 0 }
set_option maxHeartbeats 4000000 in
set_option maxRecDepth 20000 in
theorem m_Brt_within (g : Gx) (hg : gOk g) (x0 : Int32) (x1 : Int32) (x2 : Int32)  (s : St) (Q : Bool → Prop) (hw : vc_Brt_within x0 x1 x2 Q) : Mc g y_Brt_within b_Brt_within 3 (some FieldType.boolean) rm_Brt_within [.int x0, .int x1, .int x2] s (fun v s' => ∃ r : Bool, v = some (.int (bi r)) ∧ s = s' ∧ Q r) := by
  refine mc_ofV (j := 0) (L := [some (.int x0), some (.int x1), some (.int x2)]) hg (by decide) (Nat.le_of_ble_eq_true rfl) rfl ?_
  intro X hX C
  subst hX
  unfold vc_Brt_within at hw
  refine x_iload_n C d_Brt_within_0 rfl ?_
  refine x_iload_n C d_Brt_within_1 rfl ?_
  refine x_icmp_lt (tgt := 14) C d_Brt_within_2 (by decide) (fun c10 => ?_) (fun c10 => ?_)
  · have hw := hw.1 c10
    refine x_iconst (v := 0) C d_Brt_within_14 rfl ?_
    exact x_zreturn (b := false) C d_Brt_within_15 ⟨_, rfl, rfl, hw⟩
  · have hw := hw.2 c10
    refine x_iload_n C d_Brt_within_5 rfl ?_
    refine x_iload_n C d_Brt_within_6 rfl ?_
    refine x_icmp_gt (tgt := 14) C d_Brt_within_7 (by decide) (fun c11 => ?_) (fun c11 => ?_)
    · have hw := hw.1 c11
      refine x_iconst (v := 0) C d_Brt_within_14 rfl ?_
      exact x_zreturn (b := false) C d_Brt_within_15 ⟨_, rfl, rfl, hw⟩
    · have hw := hw.2 c11
      refine x_iconst (v := 1) C d_Brt_within_10 rfl ?_
      refine x_goto (tgt := 15) C d_Brt_within_11 (by decide) ?_
      exact x_zreturn (b := true) C d_Brt_within_15 ⟨_, rfl, rfl, hw⟩
def vc_Leg_begin (p0 : Nat) (x1 : Int32) (s : St) (Q : St → Prop) : Prop :=
    (∀ s10 : St, s10 = wr s p0 0 0 → (∀ s11 : St, s11 = wr s10 p0 1 0 → (∀ s12 : St, s12 = wr s11 p0 2 (-4) → (∀ s13 : St, s13 = wr s12 p0 3 (-4) → (∀ s14 : St, s14 = wr s13 p0 4 x1 → (∀ s15 : St, s15 = wr s14 p0 5 0 → Q s15))))))
def rm_Leg_begin : Room := { frames := 0, cells := 0, slots := 0, locals := 0 }
set_option maxHeartbeats 4000000 in
set_option maxRecDepth 20000 in
theorem m_Leg_begin (g : Gx) (hg : gOk g) (p0 : Nat) (x1 : Int32) (hk0 : kd p0 = 6) (s : St) (Q : St → Prop) (hw : vc_Leg_begin p0 x1 s Q) : Mc g y_Leg_begin b_Leg_begin 2 (none) rm_Leg_begin [.ref (ga g p0), .int x1] s (fun v s' => v = none ∧ Q s') := by
  refine mc_ofV (j := 0) (L := [some (.ref (ga g p0)), some (.int x1)]) hg (by decide) (Nat.le_of_ble_eq_true rfl) rfl ?_
  intro X hX C
  subst hX
  unfold vc_Leg_begin at hw
  refine x_aload_n C d_Leg_begin_0 rfl ?_
  refine x_iconst (v := 0) C d_Leg_begin_1 rfl ?_
  refine p_Leg_0 (p := p0) C hk0 fl_Leg_9 d_Leg_begin_2 ?_
  refine x_st (fun s10 hs10 => ?_)
  have hw := hw s10 hs10
  refine x_aload_n C d_Leg_begin_5 rfl ?_
  refine x_iconst (v := 0) C d_Leg_begin_6 rfl ?_
  refine p_Leg_1 (p := p0) C hk0 fl_Leg_15 d_Leg_begin_7 ?_
  refine x_st (fun s11 hs11 => ?_)
  have hw := hw s11 hs11
  refine x_aload_n C d_Leg_begin_10 rfl ?_
  refine x_bipush (v := (-4)) C d_Leg_begin_11 rfl ?_
  refine p_Leg_2 (p := p0) C hk0 fl_Leg_18 d_Leg_begin_13 ?_
  refine x_st (fun s12 hs12 => ?_)
  have hw := hw s12 hs12
  refine x_aload_n C d_Leg_begin_16 rfl ?_
  refine x_bipush (v := (-4)) C d_Leg_begin_17 rfl ?_
  refine p_Leg_3 (p := p0) C hk0 fl_Leg_21 d_Leg_begin_19 ?_
  refine x_st (fun s13 hs13 => ?_)
  have hw := hw s13 hs13
  refine x_aload_n C d_Leg_begin_22 rfl ?_
  refine x_iload_n C d_Leg_begin_23 rfl ?_
  refine p_Leg_4 (p := p0) C hk0 fl_Leg_24 d_Leg_begin_24 ?_
  refine x_st (fun s14 hs14 => ?_)
  have hw := hw s14 hs14
  refine x_aload_n C d_Leg_begin_27 rfl ?_
  refine x_iconst (v := 0) C d_Leg_begin_28 rfl ?_
  refine p_Leg_5 (p := p0) C hk0 fl_Leg_27 d_Leg_begin_29 ?_
  refine x_st (fun s15 hs15 => ?_)
  have hw := hw s15 hs15
  exact x_return C d_Leg_begin_32 ⟨rfl, hw⟩
def vc_Yar_moreBy (p0 : Nat) (x1 : Int32) (s : St) (Q : Nat → Prop) : Prop :=
    (∃ J11 : Nat → Prop, (∀ (p10 : Nat), kd p10 = 112 → J11 p10 → Q p10) ∧ ((x1 < 2 → J11 (p0 + 7)) ∧ (¬ x1 < 2 → J11 (p0 + 8))))
def rm_Yar_moreBy : Room := { frames := 0, cells := 0, slots := 0, locals := 0 }
set_option maxHeartbeats 4000000 in
set_option maxRecDepth 20000 in
theorem m_Yar_moreBy (g : Gx) (hg : gOk g) (p0 : Nat) (x1 : Int32) (hk0 : kd p0 = 3) (s : St) (Q : Nat → Prop) (hw : vc_Yar_moreBy p0 x1 s Q) : Mc g y_Yar_moreBy b_Yar_moreBy 2 (some (FieldType.array FieldType.int)) rm_Yar_moreBy [.ref (ga g p0), .int x1] s (fun v s' => ∃ r : Nat, v = some (.ref (ga g r)) ∧ kd r = 112 ∧ s = s' ∧ Q r) := by
  refine mc_ofV (j := 0) (L := [some (.ref (ga g p0)), some (.int x1)]) hg (by decide) (Nat.le_of_ble_eq_true rfl) rfl ?_
  intro X hX C
  subst hX
  unfold vc_Yar_moreBy at hw
  refine x_iload_n C d_Yar_moreBy_0 rfl ?_
  refine x_iconst (v := 2) C d_Yar_moreBy_1 rfl ?_
  obtain ⟨J11, hJ11, hw⟩ := hw
  have kJ11 : ∀ (p10 : Nat) (hkp10 : kd p10 = 112), J11 p10 → V X (xQ X (fun v s' => ∃ r : Nat, v = some (.ref (ga (xg X) r)) ∧ kd r = 112 ∧ s = s' ∧ Q r)) 0 0 s 16 [some (.ref (xa X p0)), some (.int x1)] [.ref (xa X p10)] := by
    intro p10 hkp10 hv
    have hw := hJ11 p10 hkp10 hv
    exact x_areturn C (by first | exact Or.inl ⟨_, rfl⟩ | exact Or.inr ⟨_, rfl⟩) d_Yar_moreBy_16 ⟨_, rfl, hkp10, rfl, hw⟩
  refine x_icmp_lt (tgt := 12) C d_Yar_moreBy_2 (by decide) (fun c12 => ?_) (fun c12 => ?_)
  · have hw := hw.1 c12
    refine x_aload_n C d_Yar_moreBy_12 rfl ?_
    refine g_Yar_7 (p := p0) C hk0 fl_Yar_34 d_Yar_moreBy_13 ?_
    exact x_wk (kJ11 (p0 + 7) (ks_3_7 hk0) hw) (And.intro rfl (And.intro rfl (trivial)))
  · have hw := hw.2 c12
    refine x_aload_n C d_Yar_moreBy_5 rfl ?_
    refine g_Yar_8 (p := p0) C hk0 fl_Yar_37 d_Yar_moreBy_6 ?_
    refine x_goto (tgt := 16) C d_Yar_moreBy_9 (by decide) ?_
    exact x_wk (kJ11 (p0 + 8) (ks_3_8 hk0) hw) (And.intro rfl (And.intro rfl (trivial)))
def vc_Bod_bulkOf (p0 : Nat) (x1 : Int32) (x2 : Int32) (x3 : Int32) (s : St) (Q : Int32 → Prop) : Prop :=
    (∃ J11 : Int32 → Prop, (∀ (x10 : Int32), J11 x10 → (vp_in x1 6 ∧ (∃ J14 : Int32 → Prop, (∀ (x13 : Int32), J14 x13 → (vp_in x1 6 ∧ Q ((((s (p0 + 1) (Int32.toNatClampNeg x1)) - x13) + ((s (p0 + 3) (Int32.toNatClampNeg x1)) / 3)) - x10))) ∧ ((x3 = 0 → J14 0) ∧ (¬ x3 = 0 → (vp_in x1 6 ∧ J14 (s (p0 + 2) (Int32.toNatClampNeg x1)))))))) ∧ ((¬ (x2 - x2 / 2 * 2) = 0 → J11 0) ∧ ((x2 - x2 / 2 * 2) = 0 → J11 1)))
def rm_Bod_bulkOf : Room := { frames := 0, cells := 0, slots := 0, locals := 0 }
set_option maxHeartbeats 4000000 in
set_option maxRecDepth 20000 in
theorem m_Bod_bulkOf (g : Gx) (hg : gOk g) (p0 : Nat) (x1 : Int32) (x2 : Int32) (x3 : Int32) (hk0 : kd p0 = 4) (s : St) (Q : Int32 → Prop) (hw : vc_Bod_bulkOf p0 x1 x2 x3 s Q) : Mc g y_Bod_bulkOf b_Bod_bulkOf 5 (some FieldType.int) rm_Bod_bulkOf [.ref (ga g p0), .int x1, .int x2, .int x3] s (fun v s' => ∃ r : Int32, v = some (.int r) ∧ s = s' ∧ Q r) := by
  refine mc_ofV (j := 1) (L := [some (.ref (ga g p0)), some (.int x1), some (.int x2), some (.int x3), none]) hg (by decide) (Nat.le_of_ble_eq_true rfl) rfl ?_
  intro X hX C
  subst hX
  unfold vc_Bod_bulkOf at hw
  refine x_iload_n C d_Bod_bulkOf_0 rfl ?_
  refine x_iconst (v := 2) C d_Bod_bulkOf_1 rfl ?_
  refine x_irem C d_Bod_bulkOf_2 (by decide) ?_
  obtain ⟨J11, hJ11, hw⟩ := hw
  have kJ11 : ∀ (x10 : Int32), J11 x10 → V X (xQ X (fun v s' => ∃ r : Int32, v = some (.int r) ∧ s = s' ∧ Q r)) 0 0 s 11 [some (.ref (xa X p0)), some (.int x1), some (.int x2), some (.int x3), none] [.int x10] := by
    intro x10 hv
    have hw := hJ11 x10 hv
    refine x_istore (L' := [some (.ref (xa X p0)), some (.int x1), some (.int x2), some (.int x3), some (.int x10)]) C d_Bod_bulkOf_11 (Nat.le_of_ble_eq_true rfl) rfl ?_
    refine x_aload_n C d_Bod_bulkOf_13 rfl ?_
    refine g_Bod_1 (p := p0) C hk0 fl_Bod_15 d_Bod_bulkOf_14 ?_
    refine x_iload_n C d_Bod_bulkOf_17 rfl ?_
    obtain ⟨h12, hw⟩ := hw
    refine x_iald (p := (p0 + 1)) (n := 6) C (ks_4_1 hk0) h12 d_Bod_bulkOf_18 ?_
    refine x_iload_n C d_Bod_bulkOf_19 rfl ?_
    obtain ⟨J14, hJ14, hw⟩ := hw
    have kJ14 : ∀ (x13 : Int32), J14 x13 → V X (xQ X (fun v s' => ∃ r : Int32, v = some (.int r) ∧ s = s' ∧ Q r)) 0 0 s 33 [some (.ref (xa X p0)), some (.int x1), some (.int x2), some (.int x3), some (.int x10)] [.int x13, .int (s (p0 + 1) (Int32.toNatClampNeg x1))] := by
      intro x13 hv
      have hw := hJ14 x13 hv
      refine x_isub C d_Bod_bulkOf_33 ?_
      refine x_aload_n C d_Bod_bulkOf_34 rfl ?_
      refine g_Bod_3 (p := p0) C hk0 fl_Bod_22 d_Bod_bulkOf_35 ?_
      refine x_iload_n C d_Bod_bulkOf_38 rfl ?_
      obtain ⟨h15, hw⟩ := hw
      refine x_iald (p := (p0 + 3)) (n := 6) C (ks_4_3 hk0) h15 d_Bod_bulkOf_39 ?_
      refine x_iconst (v := 3) C d_Bod_bulkOf_40 rfl ?_
      refine x_idiv C d_Bod_bulkOf_41 (by decide) ?_
      refine x_iadd C d_Bod_bulkOf_42 ?_
      refine x_iload C d_Bod_bulkOf_43 rfl ?_
      refine x_isub C d_Bod_bulkOf_45 ?_
      exact x_ireturn C d_Bod_bulkOf_46 ⟨_, rfl, rfl, hw⟩
    refine x_if_eq (tgt := 32) C d_Bod_bulkOf_20 (by decide) (fun c16 => ?_) (fun c16 => ?_)
    · have hw := hw.1 c16
      refine x_iconst (v := 0) C d_Bod_bulkOf_32 rfl ?_
      exact x_wk (kJ14 0 hw) (And.intro rfl (And.intro rfl (And.intro rfl (And.intro rfl (And.intro rfl (trivial))))))
    · have hw := hw.2 c16
      refine x_aload_n C d_Bod_bulkOf_23 rfl ?_
      refine g_Bod_2 (p := p0) C hk0 fl_Bod_19 d_Bod_bulkOf_24 ?_
      refine x_iload_n C d_Bod_bulkOf_27 rfl ?_
      obtain ⟨h17, hw⟩ := hw
      refine x_iald (p := (p0 + 2)) (n := 6) C (ks_4_2 hk0) h17 d_Bod_bulkOf_28 ?_
      refine x_goto (tgt := 33) C d_Bod_bulkOf_29 (by decide) ?_
      exact x_wk (kJ14 (s (p0 + 2) (Int32.toNatClampNeg x1)) hw) (And.intro rfl (And.intro rfl (And.intro rfl (And.intro rfl (And.intro rfl (trivial))))))
  refine x_if_ne (tgt := 10) C d_Bod_bulkOf_3 (by decide) (fun c18 => ?_) (fun c18 => ?_)
  · have hw := hw.1 c18
    refine x_iconst (v := 0) C d_Bod_bulkOf_10 rfl ?_
    exact x_wk (kJ11 0 hw) (And.intro rfl (And.intro rfl (And.intro rfl (And.intro rfl (trivial)))))
  · have hw := hw.2 c18
    refine x_iconst (v := 1) C d_Bod_bulkOf_6 rfl ?_
    refine x_goto (tgt := 11) C d_Bod_bulkOf_7 (by decide) ?_
    exact x_wk (kJ11 1 hw) (And.intro rfl (And.intro rfl (And.intro rfl (And.intro rfl (trivial)))))
def vc_Cav_waterAt (p0 : Nat) (x1 : Int32) (s : St) (Q : Int32 → Prop) : Prop :=
    Q ((x1 / 60) * (s p0 2))
def rm_Cav_waterAt : Room := { frames := 0, cells := 0, slots := 0, locals := 0 }
set_option maxHeartbeats 4000000 in
set_option maxRecDepth 20000 in
theorem m_Cav_waterAt (g : Gx) (hg : gOk g) (p0 : Nat) (x1 : Int32) (hk0 : kd p0 = 2) (s : St) (Q : Int32 → Prop) (hw : vc_Cav_waterAt p0 x1 s Q) : Mc g y_Cav_waterAt b_Cav_waterAt 2 (some FieldType.int) rm_Cav_waterAt [.ref (ga g p0), .int x1] s (fun v s' => ∃ r : Int32, v = some (.int r) ∧ s = s' ∧ Q r) := by
  refine mc_ofV (j := 0) (L := [some (.ref (ga g p0)), some (.int x1)]) hg (by decide) (Nat.le_of_ble_eq_true rfl) rfl ?_
  intro X hX C
  subst hX
  unfold vc_Cav_waterAt at hw
  refine x_iload_n C d_Cav_waterAt_0 rfl ?_
  refine x_bipush (v := 60) C d_Cav_waterAt_1 rfl ?_
  refine x_idiv C d_Cav_waterAt_3 (by decide) ?_
  refine x_aload_n C d_Cav_waterAt_4 rfl ?_
  refine g_Cav_2 (p := p0) C hk0 fl_Cav_25 d_Cav_waterAt_5 ?_
  refine x_imul C d_Cav_waterAt_8 ?_
  exact x_ireturn C d_Cav_waterAt_9 ⟨_, rfl, rfl, hw⟩
def vc_Yar_roomAt (p0 : Nat) (x1 : Int32) (x2 : Int32) (s : St) (Q : Int32 → Prop) : Prop :=
    (vp_in x1 12 ∧ ((¬ (s (p0 + 1) (Int32.toNatClampNeg x1)) = 5 → (vp_in x1 12 ∧ Q (s (p0 + 4) (Int32.toNatClampNeg x1)))) ∧ ((s (p0 + 1) (Int32.toNatClampNeg x1)) = 5 → (vp_in x1 12 ∧ Q (imax 0 ((s (p0 + 4) (Int32.toNatClampNeg x1)) - x2))))))
def rm_Yar_roomAt : Room := { frames := 1, cells := 0, slots := 0, locals := 21 }
set_option maxHeartbeats 4000000 in
set_option maxRecDepth 20000 in
theorem m_Yar_roomAt (g : Gx) (hg : gOk g) (p0 : Nat) (x1 : Int32) (x2 : Int32) (hk0 : kd p0 = 3) (s : St) (Q : Int32 → Prop) (hw : vc_Yar_roomAt p0 x1 x2 s Q) : Mc g y_Yar_roomAt b_Yar_roomAt 3 (some FieldType.int) rm_Yar_roomAt [.ref (ga g p0), .int x1, .int x2] s (fun v s' => ∃ r : Int32, v = some (.int r) ∧ s = s' ∧ Q r) := by
  refine mc_ofV (j := 0) (L := [some (.ref (ga g p0)), some (.int x1), some (.int x2)]) hg (by decide) (Nat.le_of_ble_eq_true rfl) rfl ?_
  intro X hX C
  subst hX
  unfold vc_Yar_roomAt at hw
  refine x_aload_n C d_Yar_roomAt_0 rfl ?_
  refine g_Yar_1 (p := p0) C hk0 fl_Yar_15 d_Yar_roomAt_1 ?_
  refine x_iload_n C d_Yar_roomAt_4 rfl ?_
  obtain ⟨h10, hw⟩ := hw
  refine x_iald (p := (p0 + 1)) (n := 12) C (ks_3_1 hk0) h10 d_Yar_roomAt_5 ?_
  refine x_iconst (v := 5) C d_Yar_roomAt_6 rfl ?_
  refine x_icmp_ne (tgt := 25) C d_Yar_roomAt_7 (by decide) (fun c11 => ?_) (fun c11 => ?_)
  · have hw := hw.1 c11
    refine x_aload_n C d_Yar_roomAt_25 rfl ?_
    refine g_Yar_4 (p := p0) C hk0 fl_Yar_25 d_Yar_roomAt_26 ?_
    refine x_iload_n C d_Yar_roomAt_29 rfl ?_
    obtain ⟨h12, hw⟩ := hw
    refine x_iald (p := (p0 + 4)) (n := 12) C (ks_3_4 hk0) h12 d_Yar_roomAt_30 ?_
    exact x_ireturn C d_Yar_roomAt_31 ⟨_, rfl, rfl, hw⟩
  · have hw := hw.2 c11
    refine x_iconst (v := 0) C d_Yar_roomAt_10 rfl ?_
    refine x_aload_n C d_Yar_roomAt_11 rfl ?_
    refine g_Yar_4 (p := p0) C hk0 fl_Yar_25 d_Yar_roomAt_12 ?_
    refine x_iload_n C d_Yar_roomAt_15 rfl ?_
    obtain ⟨h13, hw⟩ := hw
    refine x_iald (p := (p0 + 4)) (n := 12) C (ks_3_4 hk0) h13 d_Yar_roomAt_16 ?_
    refine x_iload_n C d_Yar_roomAt_17 rfl ?_
    refine x_isub C d_Yar_roomAt_18 ?_
    refine x_mmax C ml_Yar_62 (Nat.le_of_ble_eq_true rfl) (Nat.le_of_ble_eq_true rfl) ⟨Nat.zero_le _, Nat.zero_le _⟩ d_Yar_roomAt_19 ?_
    refine x_goto (tgt := 31) C d_Yar_roomAt_22 (by decide) ?_
    exact x_ireturn C d_Yar_roomAt_31 ⟨_, rfl, rfl, hw⟩
def vc_Leg_passOne (p0 : Nat) (p1 : Nat) (x2 : Int32) (x3 : Int32) (x4 : Int32) (s : St) (Q : St → Prop) : Prop :=
    (vp_in x2 6 ∧ (∀ x11 : Int32, x11 = s (p1 + 10 + 5) (Int32.toNatClampNeg x2) → vc_Yar_moreBy (p1 + 1) x11 s (fun p12 => kd p12 = 112 → (∃ J15 : Nat → Prop, (∀ (p14 : Nat), kd p14 = 112 → J15 p14 → vc_Bod_bulkOf (p1 + 10) x2 x11 1 s (fun x16 => (vp_in x2 6 ∧ (∀ x19 : Int32, x19 = s (p1 + 10 + 2) (Int32.toNatClampNeg x2) → (∃ I22 : Nat → Int32 → St → Prop, (∃ n23, I22 n23 0 s) ∧ ∀ (nI22 : Nat) (x20 : Int32) (s21 : St), I22 nI22 x20 s21 → (((s21 (p1 + 1) 0) ≤ x20 → Q s21) ∧ (¬ (s21 (p1 + 1) 0) ≤ x20 → (∃ J26 : Int32 → Prop, (∀ (x25 : Int32), J26 x25 → (vp_in x25 12 ∧ vc_Cav_waterAt p1 (s21 p0 4) s21 (fun x28 => vc_Yar_roomAt (p1 + 1) x25 x28 s21 (fun x30 => (∀ x32 : Int32, x32 = (x16 + (s21 p12 (Int32.toNatClampNeg x25))) - x30 → ((x32 ≤ x4 → (vp_in x25 12 ∧ (∀ s35 : St, s35 = wr s21 p0 4 ((s21 p0 4) + (s21 p14 (Int32.toNatClampNeg x25))) → (∃ J37 : St → Prop, (∀ (s36 : St), J37 s36 → (∀ x38 : Int32, x38 = x20 + 1 → ∃ m39, m39 < nI22 ∧ I22 m39 x38 s36)) ∧ ((x32 ≤ 0 → (((x32 + x19) ≤ 0 → J37 s35) ∧ (¬ (x32 + x19) ≤ 0 → (∀ s42 : St, s42 = wr s35 p0 4 ((s35 p0 4) + 1) → (∀ s43 : St, s43 = wr s42 p0 5 ((s42 p0 5) + 1) → J37 s43))))) ∧ (¬ x32 ≤ 0 → (∀ s44 : St, s44 = wr s35 p0 4 ((s35 p0 4) + 10) → J37 s44))))))) ∧ (¬ x32 ≤ x4 → (∀ s45 : St, s45 = wr s21 p0 2 x2 → (∀ s46 : St, s46 = wr s45 p0 3 x25 → Q s46))))))))) ∧ ((x3 = 0 → J26 x20) ∧ (¬ x3 = 0 → J26 (((s21 (p1 + 1) 0) - 1) - x20))))))))))) ∧ ((x3 = 0 → J15 (p1 + 1 + 5)) ∧ (¬ x3 = 0 → J15 (p1 + 1 + 6)))))))
def rm_Leg_passOne : Room := { frames := 2, cells := 0, slots := 0, locals := 43 }
set_option maxHeartbeats 4000000 in
set_option maxRecDepth 20000 in
theorem m_Leg_passOne (g : Gx) (hg : gOk g) (p0 : Nat) (p1 : Nat) (x2 : Int32) (x3 : Int32) (x4 : Int32) (hk0 : kd p0 = 6) (hk1 : kd p1 = 2) (s : St) (Q : St → Prop) (hw : vc_Leg_passOne p0 p1 x2 x3 x4 s Q) : Mc g y_Leg_passOne b_Leg_passOne 14 (none) rm_Leg_passOne [.ref (ga g p0), .ref (ga g p1), .int x2, .int x3, .int x4] s (fun v s' => v = none ∧ Q s') := by
  refine mc_ofV (j := 9) (L := [some (.ref (ga g p0)), some (.ref (ga g p1)), some (.int x2), some (.int x3), some (.int x4), none, none, none, none, none, none, none, none, none]) hg (by decide) (Nat.le_of_ble_eq_true rfl) rfl ?_
  intro X hX C
  subst hX
  unfold vc_Leg_passOne at hw
  refine x_aload_n C d_Leg_passOne_0 rfl ?_
  refine g_Cav_0 (p := p1) C hk1 fl_Leg_59 d_Leg_passOne_1 ?_
  refine x_astore (L' := [some (.ref (xa X p0)), some (.ref (xa X p1)), some (.int x2), some (.int x3), some (.int x4), some (.ref (xa X (p1 + 1))), none, none, none, none, none, none, none, none]) C d_Leg_passOne_4 (Nat.le_of_ble_eq_true rfl) rfl ?_
  refine x_aload_n C d_Leg_passOne_6 rfl ?_
  refine g_Cav_1 (p := p1) C hk1 fl_Leg_38 d_Leg_passOne_7 ?_
  refine g_Bod_5 (p := (p1 + 10)) C (ks_2_10 hk1) fl_Leg_63 d_Leg_passOne_10 ?_
  refine x_iload_n C d_Leg_passOne_13 rfl ?_
  obtain ⟨h10, hw⟩ := hw
  refine x_iald (p := (p1 + 10 + 5)) (n := 6) C (ks_4_5 (ks_2_10 hk1)) h10 d_Leg_passOne_14 ?_
  refine x_nm (fun x11 hx11 => ?_)
  have hw := hw x11 hx11
  refine x_istore (L' := [some (.ref (xa X p0)), some (.ref (xa X p1)), some (.int x2), some (.int x3), some (.int x4), some (.ref (xa X (p1 + 1))), some (.int x11), none, none, none, none, none, none, none]) C d_Leg_passOne_15 (Nat.le_of_ble_eq_true rfl) rfl ?_
  refine x_aload C d_Leg_passOne_17 rfl ?_
  refine x_iload C d_Leg_passOne_19 rfl ?_
  refine x_callV (As := [.int x11]) (rest := []) (p := (p1 + 1)) C (m_Yar_moreBy (xg X) C.2.2.2.2.2.2.1 (p1 + 1) x11 (ks_2_1 hk1) s _ hw) cw_Yar_moreBy ml_Leg_66 (ks_2_1 hk1) (by decide) (by decide) rfl rfl rfl ⟨rfl, rfl, Nat.le_of_ble_eq_true rfl, Nat.le_of_ble_eq_true rfl⟩ ⟨Nat.zero_le _, Nat.zero_le _⟩ rfl (Nat.le_of_ble_eq_true rfl) d_Leg_passOne_21 ?_
  rintro _ _ ⟨p12, rfl, hkp12, rfl, hw⟩
  have hw := hw hkp12
  show V X _ _ _ _ 24 [some (.ref (xa X p0)), some (.ref (xa X p1)), some (.int x2), some (.int x3), some (.int x4), some (.ref (xa X (p1 + 1))), some (.int x11), none, none, none, none, none, none, none] [.ref (xa X p12)]
  refine x_astore (L' := [some (.ref (xa X p0)), some (.ref (xa X p1)), some (.int x2), some (.int x3), some (.int x4), some (.ref (xa X (p1 + 1))), some (.int x11), some (.ref (xa X p12)), none, none, none, none, none, none]) C d_Leg_passOne_24 (Nat.le_of_ble_eq_true rfl) rfl ?_
  refine x_iload_n C d_Leg_passOne_26 rfl ?_
  obtain ⟨J15, hJ15, hw⟩ := hw
  have kJ15 : ∀ (p14 : Nat) (hkp14 : kd p14 = 112), J15 p14 → V X (xQ X (fun v s' => v = none ∧ Q s')) 0 0 s 43 [some (.ref (xa X p0)), some (.ref (xa X p1)), some (.int x2), some (.int x3), some (.int x4), some (.ref (xa X (p1 + 1))), some (.int x11), some (.ref (xa X p12)), none, none, none, none, none, none] [.ref (xa X p14)] := by
    intro p14 hkp14 hv
    have hw := hJ15 p14 hkp14 hv
    refine x_astore (L' := [some (.ref (xa X p0)), some (.ref (xa X p1)), some (.int x2), some (.int x3), some (.int x4), some (.ref (xa X (p1 + 1))), some (.int x11), some (.ref (xa X p12)), some (.ref (xa X p14)), none, none, none, none, none]) C d_Leg_passOne_43 (Nat.le_of_ble_eq_true rfl) rfl ?_
    refine x_aload_n C d_Leg_passOne_45 rfl ?_
    refine g_Cav_1 (p := p1) C hk1 fl_Leg_38 d_Leg_passOne_46 ?_
    refine x_iload_n C d_Leg_passOne_49 rfl ?_
    refine x_iload C d_Leg_passOne_50 rfl ?_
    refine x_iconst (v := 1) C d_Leg_passOne_52 rfl ?_
    refine x_callV (As := [.int x2, .int x11, .int 1]) (rest := []) (p := (p1 + 10)) C (m_Bod_bulkOf (xg X) C.2.2.2.2.2.2.1 (p1 + 10) x2 x11 1 (ks_2_10 hk1) s _ hw) cw_Bod_bulkOf ml_Leg_78 (ks_2_10 hk1) (by decide) (by decide) rfl rfl rfl ⟨rfl, rfl, Nat.le_of_ble_eq_true rfl, Nat.le_of_ble_eq_true rfl⟩ ⟨Nat.zero_le _, Nat.zero_le _⟩ rfl (Nat.le_of_ble_eq_true rfl) d_Leg_passOne_53 ?_
    rintro _ _ ⟨x16, rfl, rfl, hw⟩
    show V X _ _ _ _ 56 [some (.ref (xa X p0)), some (.ref (xa X p1)), some (.int x2), some (.int x3), some (.int x4), some (.ref (xa X (p1 + 1))), some (.int x11), some (.ref (xa X p12)), some (.ref (xa X p14)), none, none, none, none, none] [.int x16]
    refine x_istore (L' := [some (.ref (xa X p0)), some (.ref (xa X p1)), some (.int x2), some (.int x3), some (.int x4), some (.ref (xa X (p1 + 1))), some (.int x11), some (.ref (xa X p12)), some (.ref (xa X p14)), some (.int x16), none, none, none, none]) C d_Leg_passOne_56 (Nat.le_of_ble_eq_true rfl) rfl ?_
    refine x_aload_n C d_Leg_passOne_58 rfl ?_
    refine g_Cav_1 (p := p1) C hk1 fl_Leg_38 d_Leg_passOne_59 ?_
    refine g_Bod_2 (p := (p1 + 10)) C (ks_2_10 hk1) fl_Leg_82 d_Leg_passOne_62 ?_
    refine x_iload_n C d_Leg_passOne_65 rfl ?_
    obtain ⟨h18, hw⟩ := hw
    refine x_iald (p := (p1 + 10 + 2)) (n := 6) C (ks_4_2 (ks_2_10 hk1)) h18 d_Leg_passOne_66 ?_
    refine x_nm (fun x19 hx19 => ?_)
    have hw := hw x19 hx19
    refine x_istore (L' := [some (.ref (xa X p0)), some (.ref (xa X p1)), some (.int x2), some (.int x3), some (.int x4), some (.ref (xa X (p1 + 1))), some (.int x11), some (.ref (xa X p12)), some (.ref (xa X p14)), some (.int x16), some (.int x19), none, none, none]) C d_Leg_passOne_67 (Nat.le_of_ble_eq_true rfl) rfl ?_
    refine x_iconst (v := 0) C d_Leg_passOne_69 rfl ?_
    refine x_istore (L' := [some (.ref (xa X p0)), some (.ref (xa X p1)), some (.int x2), some (.int x3), some (.int x4), some (.ref (xa X (p1 + 1))), some (.int x11), some (.ref (xa X p12)), some (.ref (xa X p14)), some (.int x16), some (.int x19), some (.int 0), none, none]) C d_Leg_passOne_70 (Nat.le_of_ble_eq_true rfl) rfl ?_
    obtain ⟨I22, ⟨n23, hn23⟩, hI22⟩ := hw
    have lI22 : ∀ (nI22 : Nat) (x20 : Int32) (s21 : St), I22 nI22 x20 s21 → V X (xQ X (fun v s' => v = none ∧ Q s')) 0 0 s21 72 [some (.ref (xa X p0)), some (.ref (xa X p1)), some (.int x2), some (.int x3), some (.int x4), some (.ref (xa X (p1 + 1))), some (.int x11), some (.ref (xa X p12)), some (.ref (xa X p14)), some (.int x16), some (.int x19), some (.int x20), none, none] [] := by
      intro nI22
      induction nI22 using Nat.strongRecOn with
      | ind nI22 ihI22 =>
        intro x20 s21 hv
        have hw := hI22 nI22 x20 s21 hv
        refine x_iload C d_Leg_passOne_72 rfl ?_
        refine x_aload C d_Leg_passOne_74 rfl ?_
        refine g_Yar_0 (p := (p1 + 1)) C (ks_2_1 hk1) fl_Leg_85 d_Leg_passOne_76 ?_
        refine x_icmp_ge (tgt := 215) C d_Leg_passOne_79 (by decide) (fun c24 => ?_) (fun c24 => ?_)
        · have hw := hw.1 c24
          exact x_return C d_Leg_passOne_215 ⟨rfl, hw⟩
        · have hw := hw.2 c24
          refine x_iload_n C d_Leg_passOne_82 rfl ?_
          obtain ⟨J26, hJ26, hw⟩ := hw
          have kJ26 : ∀ (x25 : Int32), J26 x25 → V X (xQ X (fun v s' => v = none ∧ Q s')) 0 0 s21 101 [some (.ref (xa X p0)), some (.ref (xa X p1)), some (.int x2), some (.int x3), some (.int x4), some (.ref (xa X (p1 + 1))), some (.int x11), some (.ref (xa X p12)), some (.ref (xa X p14)), some (.int x16), some (.int x19), some (.int x20), none, none] [.int x25] := by
            intro x25 hv
            have hw := hJ26 x25 hv
            refine x_istore (L' := [some (.ref (xa X p0)), some (.ref (xa X p1)), some (.int x2), some (.int x3), some (.int x4), some (.ref (xa X (p1 + 1))), some (.int x11), some (.ref (xa X p12)), some (.ref (xa X p14)), some (.int x16), some (.int x19), some (.int x20), some (.int x25), none]) C d_Leg_passOne_101 (Nat.le_of_ble_eq_true rfl) rfl ?_
            refine x_iload C d_Leg_passOne_103 rfl ?_
            refine x_aload C d_Leg_passOne_105 rfl ?_
            refine x_iload C d_Leg_passOne_107 rfl ?_
            obtain ⟨h27, hw⟩ := hw
            refine x_iald (p := p12) (n := 12) C hkp12 h27 d_Leg_passOne_109 ?_
            refine x_iadd C d_Leg_passOne_110 ?_
            refine x_aload C d_Leg_passOne_111 rfl ?_
            refine x_iload C d_Leg_passOne_113 rfl ?_
            refine x_aload_n C d_Leg_passOne_115 rfl ?_
            refine x_aload_n C d_Leg_passOne_116 rfl ?_
            refine g_Leg_4 (p := p0) C hk0 fl_Leg_24 d_Leg_passOne_117 ?_
            refine x_callV (As := [.int (s21 p0 4)]) (rest := [.int x25, .ref (xa X (p1 + 1)), .int (x16 + (s21 p12 (Int32.toNatClampNeg x25)))]) (p := p1) C (m_Cav_waterAt (xg X) C.2.2.2.2.2.2.1 p1 (s21 p0 4) hk1 s21 _ hw) cw_Cav_waterAt ml_Leg_88 hk1 (by decide) (by decide) rfl rfl rfl ⟨rfl, rfl, Nat.le_of_ble_eq_true rfl, Nat.le_of_ble_eq_true rfl⟩ ⟨Nat.zero_le _, Nat.zero_le _⟩ rfl (Nat.le_of_ble_eq_true rfl) d_Leg_passOne_120 ?_
            rintro _ _ ⟨x28, rfl, rfl, hw⟩
            show V X _ _ _ _ 123 [some (.ref (xa X p0)), some (.ref (xa X p1)), some (.int x2), some (.int x3), some (.int x4), some (.ref (xa X (p1 + 1))), some (.int x11), some (.ref (xa X p12)), some (.ref (xa X p14)), some (.int x16), some (.int x19), some (.int x20), some (.int x25), none] [.int x28, .int x25, .ref (xa X (p1 + 1)), .int (x16 + (s21 p12 (Int32.toNatClampNeg x25)))]
            refine x_callV (As := [.int x25, .int x28]) (rest := [.int (x16 + (s21 p12 (Int32.toNatClampNeg x25)))]) (p := (p1 + 1)) C (m_Yar_roomAt (xg X) C.2.2.2.2.2.2.1 (p1 + 1) x25 x28 (ks_2_1 hk1) s21 _ hw) cw_Yar_roomAt ml_Leg_92 (ks_2_1 hk1) (by decide) (by decide) rfl rfl rfl ⟨rfl, rfl, Nat.le_of_ble_eq_true rfl, Nat.le_of_ble_eq_true rfl⟩ ⟨Nat.zero_le _, Nat.zero_le _⟩ rfl (Nat.le_of_ble_eq_true rfl) d_Leg_passOne_123 ?_
            rintro _ _ ⟨x30, rfl, rfl, hw⟩
            show V X _ _ _ _ 126 [some (.ref (xa X p0)), some (.ref (xa X p1)), some (.int x2), some (.int x3), some (.int x4), some (.ref (xa X (p1 + 1))), some (.int x11), some (.ref (xa X p12)), some (.ref (xa X p14)), some (.int x16), some (.int x19), some (.int x20), some (.int x25), none] [.int x30, .int (x16 + (s21 p12 (Int32.toNatClampNeg x25)))]
            refine x_isub C d_Leg_passOne_126 ?_
            refine x_nm (fun x32 hx32 => ?_)
            have hw := hw x32 hx32
            refine x_istore (L' := [some (.ref (xa X p0)), some (.ref (xa X p1)), some (.int x2), some (.int x3), some (.int x4), some (.ref (xa X (p1 + 1))), some (.int x11), some (.ref (xa X p12)), some (.ref (xa X p14)), some (.int x16), some (.int x19), some (.int x20), some (.int x25), some (.int x32)]) C d_Leg_passOne_127 (Nat.le_of_ble_eq_true rfl) rfl ?_
            refine x_iload C d_Leg_passOne_129 rfl ?_
            refine x_iload C d_Leg_passOne_131 rfl ?_
            refine x_icmp_le (tgt := 148) C d_Leg_passOne_133 (by decide) (fun c33 => ?_) (fun c33 => ?_)
            · have hw := hw.1 c33
              refine x_aload_n C d_Leg_passOne_148 rfl ?_
              refine x_dup C d_Leg_passOne_149 rfl ?_
              refine g_Leg_4 (p := p0) C hk0 fl_Leg_24 d_Leg_passOne_150 ?_
              refine x_aload C d_Leg_passOne_153 rfl ?_
              refine x_iload C d_Leg_passOne_155 rfl ?_
              obtain ⟨h34, hw⟩ := hw
              refine x_iald (p := p14) (n := 12) C hkp14 h34 d_Leg_passOne_157 ?_
              refine x_iadd C d_Leg_passOne_158 ?_
              refine p_Leg_4 (p := p0) C hk0 fl_Leg_24 d_Leg_passOne_159 ?_
              refine x_st (fun s35 hs35 => ?_)
              have hw := hw s35 hs35
              refine x_iload C d_Leg_passOne_162 rfl ?_
              obtain ⟨J37, hJ37, hw⟩ := hw
              have kJ37 : ∀ (s36 : St), J37 s36 → V X (xQ X (fun v s' => v = none ∧ Q s')) 0 0 s36 209 [some (.ref (xa X p0)), some (.ref (xa X p1)), some (.int x2), some (.int x3), some (.int x4), some (.ref (xa X (p1 + 1))), some (.int x11), some (.ref (xa X p12)), some (.ref (xa X p14)), some (.int x16), some (.int x19), some (.int x20), some (.int x25), some (.int x32)] [] := by
                intro s36 hv
                have hw := hJ37 s36 hv
                obtain ⟨x38, hx38⟩ : ∃ z : Int32, z = x20 + 1 := ⟨_, rfl⟩
                refine x_iinc (v := x38) (L' := [some (.ref (xa X p0)), some (.ref (xa X p1)), some (.int x2), some (.int x3), some (.int x4), some (.ref (xa X (p1 + 1))), some (.int x11), some (.ref (xa X p12)), some (.ref (xa X p14)), some (.int x16), some (.int x19), some (.int x38), some (.int x25), some (.int x32)]) C d_Leg_passOne_209 (Nat.le_of_ble_eq_true rfl) rfl (by rw [hx38]; rfl) rfl ?_
                have hw := hw x38 hx38
                refine x_goto (tgt := 72) C d_Leg_passOne_212 (by decide) ?_
                obtain ⟨m39, hm39, hw⟩ := hw
                exact x_wk (ihI22 m39 hm39 x38 s36 hw) (And.intro rfl (And.intro rfl (And.intro rfl (And.intro rfl (And.intro rfl (And.intro rfl (And.intro rfl (And.intro rfl (And.intro rfl (And.intro rfl (And.intro rfl (And.intro rfl (trivial)))))))))))))
              refine x_if_le (tgt := 181) C d_Leg_passOne_164 (by decide) (fun c40 => ?_) (fun c40 => ?_)
              · have hw := hw.1 c40
                refine x_iload C d_Leg_passOne_181 rfl ?_
                refine x_iload C d_Leg_passOne_183 rfl ?_
                refine x_iadd C d_Leg_passOne_185 ?_
                refine x_if_le (tgt := 209) C d_Leg_passOne_186 (by decide) (fun c41 => ?_) (fun c41 => ?_)
                · have hw := hw.1 c41
                  exact x_wk (kJ37 s35 hw) (And.intro rfl (And.intro rfl (And.intro rfl (And.intro rfl (And.intro rfl (And.intro rfl (And.intro rfl (And.intro rfl (And.intro rfl (And.intro rfl (And.intro rfl (And.intro rfl (And.intro rfl (And.intro rfl (trivial)))))))))))))))
                · have hw := hw.2 c41
                  refine x_aload_n C d_Leg_passOne_189 rfl ?_
                  refine x_dup C d_Leg_passOne_190 rfl ?_
                  refine g_Leg_4 (p := p0) C hk0 fl_Leg_24 d_Leg_passOne_191 ?_
                  refine x_iconst (v := 1) C d_Leg_passOne_194 rfl ?_
                  refine x_iadd C d_Leg_passOne_195 ?_
                  refine p_Leg_4 (p := p0) C hk0 fl_Leg_24 d_Leg_passOne_196 ?_
                  refine x_st (fun s42 hs42 => ?_)
                  have hw := hw s42 hs42
                  refine x_aload_n C d_Leg_passOne_199 rfl ?_
                  refine x_dup C d_Leg_passOne_200 rfl ?_
                  refine g_Leg_5 (p := p0) C hk0 fl_Leg_27 d_Leg_passOne_201 ?_
                  refine x_iconst (v := 1) C d_Leg_passOne_204 rfl ?_
                  refine x_iadd C d_Leg_passOne_205 ?_
                  refine p_Leg_5 (p := p0) C hk0 fl_Leg_27 d_Leg_passOne_206 ?_
                  refine x_st (fun s43 hs43 => ?_)
                  have hw := hw s43 hs43
                  exact x_wk (kJ37 s43 hw) (And.intro rfl (And.intro rfl (And.intro rfl (And.intro rfl (And.intro rfl (And.intro rfl (And.intro rfl (And.intro rfl (And.intro rfl (And.intro rfl (And.intro rfl (And.intro rfl (And.intro rfl (And.intro rfl (trivial)))))))))))))))
              · have hw := hw.2 c40
                refine x_aload_n C d_Leg_passOne_167 rfl ?_
                refine x_dup C d_Leg_passOne_168 rfl ?_
                refine g_Leg_4 (p := p0) C hk0 fl_Leg_24 d_Leg_passOne_169 ?_
                refine x_bipush (v := 10) C d_Leg_passOne_172 rfl ?_
                refine x_iadd C d_Leg_passOne_174 ?_
                refine p_Leg_4 (p := p0) C hk0 fl_Leg_24 d_Leg_passOne_175 ?_
                refine x_st (fun s44 hs44 => ?_)
                have hw := hw s44 hs44
                refine x_goto (tgt := 209) C d_Leg_passOne_178 (by decide) ?_
                exact x_wk (kJ37 s44 hw) (And.intro rfl (And.intro rfl (And.intro rfl (And.intro rfl (And.intro rfl (And.intro rfl (And.intro rfl (And.intro rfl (And.intro rfl (And.intro rfl (And.intro rfl (And.intro rfl (And.intro rfl (And.intro rfl (trivial)))))))))))))))
            · have hw := hw.2 c33
              refine x_aload_n C d_Leg_passOne_136 rfl ?_
              refine x_iload_n C d_Leg_passOne_137 rfl ?_
              refine p_Leg_2 (p := p0) C hk0 fl_Leg_18 d_Leg_passOne_138 ?_
              refine x_st (fun s45 hs45 => ?_)
              have hw := hw s45 hs45
              refine x_aload_n C d_Leg_passOne_141 rfl ?_
              refine x_iload C d_Leg_passOne_142 rfl ?_
              refine p_Leg_3 (p := p0) C hk0 fl_Leg_21 d_Leg_passOne_144 ?_
              refine x_st (fun s46 hs46 => ?_)
              have hw := hw s46 hs46
              exact x_return C d_Leg_passOne_147 ⟨rfl, hw⟩
          refine x_if_eq (tgt := 99) C d_Leg_passOne_83 (by decide) (fun c47 => ?_) (fun c47 => ?_)
          · have hw := hw.1 c47
            refine x_iload C d_Leg_passOne_99 rfl ?_
            exact x_wk (kJ26 x20 hw) (And.intro rfl (And.intro rfl (And.intro rfl (And.intro rfl (And.intro rfl (And.intro rfl (And.intro rfl (And.intro rfl (And.intro rfl (And.intro rfl (And.intro rfl (And.intro rfl (trivial)))))))))))))
          · have hw := hw.2 c47
            refine x_aload C d_Leg_passOne_86 rfl ?_
            refine g_Yar_0 (p := (p1 + 1)) C (ks_2_1 hk1) fl_Leg_85 d_Leg_passOne_88 ?_
            refine x_iconst (v := 1) C d_Leg_passOne_91 rfl ?_
            refine x_isub C d_Leg_passOne_92 ?_
            refine x_iload C d_Leg_passOne_93 rfl ?_
            refine x_isub C d_Leg_passOne_95 ?_
            refine x_goto (tgt := 101) C d_Leg_passOne_96 (by decide) ?_
            exact x_wk (kJ26 (((s21 (p1 + 1) 0) - 1) - x20) hw) (And.intro rfl (And.intro rfl (And.intro rfl (And.intro rfl (And.intro rfl (And.intro rfl (And.intro rfl (And.intro rfl (And.intro rfl (And.intro rfl (And.intro rfl (And.intro rfl (trivial)))))))))))))
    exact x_wk (lI22 n23 0 s hn23) (And.intro rfl (And.intro rfl (And.intro rfl (And.intro rfl (And.intro rfl (And.intro rfl (And.intro rfl (And.intro rfl (And.intro rfl (And.intro rfl (And.intro rfl (And.intro rfl (trivial)))))))))))))
  refine x_if_eq (tgt := 38) C d_Leg_passOne_27 (by decide) (fun c48 => ?_) (fun c48 => ?_)
  · have hw := hw.1 c48
    refine x_aload C d_Leg_passOne_38 rfl ?_
    refine g_Yar_5 (p := (p1 + 1)) C (ks_2_1 hk1) fl_Leg_75 d_Leg_passOne_40 ?_
    exact x_wk (kJ15 (p1 + 1 + 5) (ks_3_5 (ks_2_1 hk1)) hw) (And.intro rfl (And.intro rfl (And.intro rfl (And.intro rfl (And.intro rfl (And.intro rfl (And.intro rfl (And.intro rfl (trivial)))))))))
  · have hw := hw.2 c48
    refine x_aload C d_Leg_passOne_30 rfl ?_
    refine g_Yar_6 (p := (p1 + 1)) C (ks_2_1 hk1) fl_Leg_72 d_Leg_passOne_32 ?_
    refine x_goto (tgt := 43) C d_Leg_passOne_35 (by decide) ?_
    exact x_wk (kJ15 (p1 + 1 + 6) (ks_3_6 (ks_2_1 hk1)) hw) (And.intro rfl (And.intro rfl (And.intro rfl (And.intro rfl (And.intro rfl (And.intro rfl (And.intro rfl (And.intro rfl (trivial)))))))))
end
