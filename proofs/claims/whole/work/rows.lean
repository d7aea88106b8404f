section
/-- a private method of a class that the tables say can be made, by its rows of tables_1 -/
def lw_okq (q : MethodName × Nat) : Prop := (q.1.cls ≠ "java/lang/invoke/MethodHandle" ∧ q.1.cls ≠ "java/lang/invoke/VarHandle") ∧ Cond.instantiable q.1.cls q.2 ∈ tables_1 ∧ Cond.privateMethod q.1 ∈ tables_1 ∧ Cond.instanceMethod q.1 ∈ tables_1
theorem lw_p0 : lw_okq (⟨"BreatheOut", "refusalOfRow", "(I)I"⟩, 9) := ⟨⟨by decide +kernel, by decide +kernel⟩, List.mem_of_getElem? (i := 24) (by decide +kernel), List.mem_of_getElem? (i := 348) (by decide +kernel), List.mem_of_getElem? (i := 349) (by decide +kernel)⟩
theorem lw_p1 : lw_okq (⟨"BreatheOut", "refusalUnless", "(II)I"⟩, 9) := ⟨⟨by decide +kernel, by decide +kernel⟩, List.mem_of_getElem? (i := 24) (by decide +kernel), List.mem_of_getElem? (i := 352) (by decide +kernel), List.mem_of_getElem? (i := 353) (by decide +kernel)⟩
theorem lw_p2 : lw_okq (⟨"BreatheOut", "refusalOfKind", "(I)I"⟩, 9) := ⟨⟨by decide +kernel, by decide +kernel⟩, List.mem_of_getElem? (i := 24) (by decide +kernel), List.mem_of_getElem? (i := 475) (by decide +kernel), List.mem_of_getElem? (i := 476) (by decide +kernel)⟩
theorem lw_p3 : lw_okq (⟨"BreatheOut$Leg", "passOne", "(LBreatheOut$Cave;IZI)V"⟩, 7) := ⟨⟨by decide +kernel, by decide +kernel⟩, List.mem_of_getElem? (i := 164) (by decide +kernel), List.mem_of_getElem? (i := 562) (by decide +kernel), List.mem_of_getElem? (i := 563) (by decide +kernel)⟩
theorem lw_p4 : lw_okq (⟨"BreatheOut", "allGo", "()LBreatheOut$Leg;"⟩, 9) := ⟨⟨by decide +kernel, by decide +kernel⟩, List.mem_of_getElem? (i := 24) (by decide +kernel), List.mem_of_getElem? (i := 590) (by decide +kernel), List.mem_of_getElem? (i := 591) (by decide +kernel)⟩
theorem lw_p5 : lw_okq (⟨"BreatheOut", "allReturn", "(LBreatheOut$Cave;)Z"⟩, 9) := ⟨⟨by decide +kernel, by decide +kernel⟩, List.mem_of_getElem? (i := 24) (by decide +kernel), List.mem_of_getElem? (i := 599) (by decide +kernel), List.mem_of_getElem? (i := 600) (by decide +kernel)⟩
theorem lw_p6 : lw_okq (⟨"BreatheOut$BestOrder", "weigh", "(LBreatheOut$Leg;)V"⟩, 5) := ⟨⟨by decide +kernel, by decide +kernel⟩, List.mem_of_getElem? (i := 217) (by decide +kernel), List.mem_of_getElem? (i := 625) (by decide +kernel), List.mem_of_getElem? (i := 626) (by decide +kernel)⟩
theorem lw_p7 : lw_okq (⟨"BreatheOut$BestOrder", "goToNext", "(I)Z"⟩, 5) := ⟨⟨by decide +kernel, by decide +kernel⟩, List.mem_of_getElem? (i := 217) (by decide +kernel), List.mem_of_getElem? (i := 630) (by decide +kernel), List.mem_of_getElem? (i := 631) (by decide +kernel)⟩
theorem lw_p8 : lw_okq (⟨"BreatheOut$BestOrder", "exchange", "(II)V"⟩, 5) := ⟨⟨by decide +kernel, by decide +kernel⟩, List.mem_of_getElem? (i := 217) (by decide +kernel), List.mem_of_getElem? (i := 634) (by decide +kernel), List.mem_of_getElem? (i := 635) (by decide +kernel)⟩
theorem lw_p9 : lw_okq (⟨"BreatheOut", "othersAreBack", "(I)Z"⟩, 9) := ⟨⟨by decide +kernel, by decide +kernel⟩, List.mem_of_getElem? (i := 24) (by decide +kernel), List.mem_of_getElem? (i := 648) (by decide +kernel), List.mem_of_getElem? (i := 649) (by decide +kernel)⟩
theorem lw_p10 : lw_okq (⟨"BreatheOut$Rescuers", "search", "(IIII)V"⟩, 10) := ⟨⟨by decide +kernel, by decide +kernel⟩, List.mem_of_getElem? (i := 241) (by decide +kernel), List.mem_of_getElem? (i := 679) (by decide +kernel), List.mem_of_getElem? (i := 680) (by decide +kernel)⟩
theorem lw_p11 : lw_okq (⟨"BreatheOut", "areBackInLight", "(I)Z"⟩, 9) := ⟨⟨by decide +kernel, by decide +kernel⟩, List.mem_of_getElem? (i := 24) (by decide +kernel), List.mem_of_getElem? (i := 690) (by decide +kernel), List.mem_of_getElem? (i := 691) (by decide +kernel)⟩
theorem lw_p12 : lw_okq (⟨"BreatheOut", "panicOf", "(I)J"⟩, 9) := ⟨⟨by decide +kernel, by decide +kernel⟩, List.mem_of_getElem? (i := 24) (by decide +kernel), List.mem_of_getElem? (i := 711) (by decide +kernel), List.mem_of_getElem? (i := 712) (by decide +kernel)⟩
theorem lw_p13 : lw_okq (⟨"BreatheOut", "pose", "(II)I"⟩, 9) := ⟨⟨by decide +kernel, by decide +kernel⟩, List.mem_of_getElem? (i := 24) (by decide +kernel), List.mem_of_getElem? (i := 722) (by decide +kernel), List.mem_of_getElem? (i := 723) (by decide +kernel)⟩
theorem lw_p14 : lw_okq (⟨"BreatheOut", "refusalOfRock", "(II)I"⟩, 9) := ⟨⟨by decide +kernel, by decide +kernel⟩, List.mem_of_getElem? (i := 24) (by decide +kernel), List.mem_of_getElem? (i := 730) (by decide +kernel), List.mem_of_getElem? (i := 731) (by decide +kernel)⟩
theorem lw_p15 : lw_okq (⟨"BreatheOut", "firstUnlike", "(ILBreatheOut$Shelf;)I"⟩, 9) := ⟨⟨by decide +kernel, by decide +kernel⟩, List.mem_of_getElem? (i := 24) (by decide +kernel), List.mem_of_getElem? (i := 734) (by decide +kernel), List.mem_of_getElem? (i := 735) (by decide +kernel)⟩
def lw_privs_1 : List (MethodName × Nat) := [(⟨"BreatheOut", "refusalOfRow", "(I)I"⟩, 9), (⟨"BreatheOut", "refusalUnless", "(II)I"⟩, 9), (⟨"BreatheOut", "refusalOfKind", "(I)I"⟩, 9), (⟨"BreatheOut$Leg", "passOne", "(LBreatheOut$Cave;IZI)V"⟩, 7), (⟨"BreatheOut", "allGo", "()LBreatheOut$Leg;"⟩, 9), (⟨"BreatheOut", "allReturn", "(LBreatheOut$Cave;)Z"⟩, 9), (⟨"BreatheOut$BestOrder", "weigh", "(LBreatheOut$Leg;)V"⟩, 5), (⟨"BreatheOut$BestOrder", "goToNext", "(I)Z"⟩, 5), (⟨"BreatheOut$BestOrder", "exchange", "(II)V"⟩, 5), (⟨"BreatheOut", "othersAreBack", "(I)Z"⟩, 9), (⟨"BreatheOut$Rescuers", "search", "(IIII)V"⟩, 10), (⟨"BreatheOut", "areBackInLight", "(I)Z"⟩, 9), (⟨"BreatheOut", "panicOf", "(I)J"⟩, 9), (⟨"BreatheOut", "pose", "(II)I"⟩, 9), (⟨"BreatheOut", "refusalOfRock", "(II)I"⟩, 9), (⟨"BreatheOut", "firstUnlike", "(ILBreatheOut$Shelf;)I"⟩, 9)]
theorem lw_r1 : ∀ q ∈ lw_privs_1, lw_okq q := List.forall_mem_cons.mpr ⟨lw_p0, List.forall_mem_cons.mpr ⟨lw_p1, List.forall_mem_cons.mpr ⟨lw_p2, List.forall_mem_cons.mpr ⟨lw_p3, List.forall_mem_cons.mpr ⟨lw_p4, List.forall_mem_cons.mpr ⟨lw_p5, List.forall_mem_cons.mpr ⟨lw_p6, List.forall_mem_cons.mpr ⟨lw_p7, List.forall_mem_cons.mpr ⟨lw_p8, List.forall_mem_cons.mpr ⟨lw_p9, List.forall_mem_cons.mpr ⟨lw_p10, List.forall_mem_cons.mpr ⟨lw_p11, List.forall_mem_cons.mpr ⟨lw_p12, List.forall_mem_cons.mpr ⟨lw_p13, List.forall_mem_cons.mpr ⟨lw_p14, List.forall_mem_cons.mpr ⟨lw_p15, fun _ h => absurd h List.not_mem_nil⟩⟩⟩⟩⟩⟩⟩⟩⟩⟩⟩⟩⟩⟩⟩⟩
theorem lw_p16 : lw_okq (⟨"java/lang/Throwable", "fillInStackTrace", "(I)Ljava/lang/Throwable;"⟩, 6) := ⟨⟨by decide +kernel, by decide +kernel⟩, List.mem_of_getElem? (i := 867) (by decide +kernel), List.mem_of_getElem? (i := 865) (by decide +kernel), List.mem_of_getElem? (i := 866) (by decide +kernel)⟩
theorem lw_p17 : lw_okq (⟨"BreatheOutModel", "wrongRow", "(II)I"⟩, 40) := ⟨⟨by decide +kernel, by decide +kernel⟩, List.mem_of_getElem? (i := 943) (by decide +kernel), List.mem_of_getElem? (i := 1074) (by decide +kernel), List.mem_of_getElem? (i := 1075) (by decide +kernel)⟩
theorem lw_p18 : lw_okq (⟨"BreatheOutModel", "readsStatement", "()Z"⟩, 40) := ⟨⟨by decide +kernel, by decide +kernel⟩, List.mem_of_getElem? (i := 943) (by decide +kernel), List.mem_of_getElem? (i := 1084) (by decide +kernel), List.mem_of_getElem? (i := 1085) (by decide +kernel)⟩
theorem lw_p19 : lw_okq (⟨"BreatheOutModel", "here", "()I"⟩, 40) := ⟨⟨by decide +kernel, by decide +kernel⟩, List.mem_of_getElem? (i := 943) (by decide +kernel), List.mem_of_getElem? (i := 1088) (by decide +kernel), List.mem_of_getElem? (i := 1089) (by decide +kernel)⟩
theorem lw_p20 : lw_okq (⟨"BreatheOutModel", "readsNumber", "(II)Z"⟩, 40) := ⟨⟨by decide +kernel, by decide +kernel⟩, List.mem_of_getElem? (i := 943) (by decide +kernel), List.mem_of_getElem? (i := 1092) (by decide +kernel), List.mem_of_getElem? (i := 1093) (by decide +kernel)⟩
theorem lw_p21 : lw_okq (⟨"BreatheOutModel", "isDone", "(I)Z"⟩, 40) := ⟨⟨by decide +kernel, by decide +kernel⟩, List.mem_of_getElem? (i := 943) (by decide +kernel), List.mem_of_getElem? (i := 1099) (by decide +kernel), List.mem_of_getElem? (i := 1100) (by decide +kernel)⟩
theorem lw_p22 : lw_okq (⟨"BreatheOutModel", "addsYard", "(III)V"⟩, 40) := ⟨⟨by decide +kernel, by decide +kernel⟩, List.mem_of_getElem? (i := 943) (by decide +kernel), List.mem_of_getElem? (i := 1103) (by decide +kernel), List.mem_of_getElem? (i := 1104) (by decide +kernel)⟩
theorem lw_p23 : lw_okq (⟨"BreatheOutModel", "isBody", "(I)Z"⟩, 40) := ⟨⟨by decide +kernel, by decide +kernel⟩, List.mem_of_getElem? (i := 943) (by decide +kernel), List.mem_of_getElem? (i := 1113) (by decide +kernel), List.mem_of_getElem? (i := 1114) (by decide +kernel)⟩
theorem lw_p24 : lw_okq (⟨"BreatheOutModel", "changes", "(II)V"⟩, 40) := ⟨⟨by decide +kernel, by decide +kernel⟩, List.mem_of_getElem? (i := 943) (by decide +kernel), List.mem_of_getElem? (i := 1117) (by decide +kernel), List.mem_of_getElem? (i := 1118) (by decide +kernel)⟩
theorem lw_p25 : lw_okq (⟨"BreatheOutModel", "placeOf", "(I)I"⟩, 40) := ⟨⟨by decide +kernel, by decide +kernel⟩, List.mem_of_getElem? (i := 943) (by decide +kernel), List.mem_of_getElem? (i := 1121) (by decide +kernel), List.mem_of_getElem? (i := 1122) (by decide +kernel)⟩
theorem lw_p26 : lw_okq (⟨"BreatheOutModel", "isYard", "(I)Z"⟩, 40) := ⟨⟨by decide +kernel, by decide +kernel⟩, List.mem_of_getElem? (i := 943) (by decide +kernel), List.mem_of_getElem? (i := 1129) (by decide +kernel), List.mem_of_getElem? (i := 1130) (by decide +kernel)⟩
theorem lw_p27 : lw_okq (⟨"BreatheOutModel", "hour", "()I"⟩, 40) := ⟨⟨by decide +kernel, by decide +kernel⟩, List.mem_of_getElem? (i := 943) (by decide +kernel), List.mem_of_getElem? (i := 1133) (by decide +kernel), List.mem_of_getElem? (i := 1134) (by decide +kernel)⟩
theorem lw_p28 : lw_okq (⟨"BreatheOutModel", "roomOf", "(II)I"⟩, 40) := ⟨⟨by decide +kernel, by decide +kernel⟩, List.mem_of_getElem? (i := 943) (by decide +kernel), List.mem_of_getElem? (i := 1137) (by decide +kernel), List.mem_of_getElem? (i := 1138) (by decide +kernel)⟩
theorem lw_p29 : lw_okq (⟨"BreatheOutModel", "minutesOf", "(IZ)I"⟩, 40) := ⟨⟨by decide +kernel, by decide +kernel⟩, List.mem_of_getElem? (i := 943) (by decide +kernel), List.mem_of_getElem? (i := 1144) (by decide +kernel), List.mem_of_getElem? (i := 1145) (by decide +kernel)⟩
theorem lw_p30 : lw_okq (⟨"BreatheOutModel", "of", "(II)I"⟩, 40) := ⟨⟨by decide +kernel, by decide +kernel⟩, List.mem_of_getElem? (i := 943) (by decide +kernel), List.mem_of_getElem? (i := 1152) (by decide +kernel), List.mem_of_getElem? (i := 1153) (by decide +kernel)⟩
theorem lw_p31 : lw_okq (⟨"BreatheOutModel", "wrongKept", "(I)I"⟩, 40) := ⟨⟨by decide +kernel, by decide +kernel⟩, List.mem_of_getElem? (i := 943) (by decide +kernel), List.mem_of_getElem? (i := 1160) (by decide +kernel), List.mem_of_getElem? (i := 1161) (by decide +kernel)⟩
def lw_privs_2 : List (MethodName × Nat) := [(⟨"java/lang/Throwable", "fillInStackTrace", "(I)Ljava/lang/Throwable;"⟩, 6), (⟨"BreatheOutModel", "wrongRow", "(II)I"⟩, 40), (⟨"BreatheOutModel", "readsStatement", "()Z"⟩, 40), (⟨"BreatheOutModel", "here", "()I"⟩, 40), (⟨"BreatheOutModel", "readsNumber", "(II)Z"⟩, 40), (⟨"BreatheOutModel", "isDone", "(I)Z"⟩, 40), (⟨"BreatheOutModel", "addsYard", "(III)V"⟩, 40), (⟨"BreatheOutModel", "isBody", "(I)Z"⟩, 40), (⟨"BreatheOutModel", "changes", "(II)V"⟩, 40), (⟨"BreatheOutModel", "placeOf", "(I)I"⟩, 40), (⟨"BreatheOutModel", "isYard", "(I)Z"⟩, 40), (⟨"BreatheOutModel", "hour", "()I"⟩, 40), (⟨"BreatheOutModel", "roomOf", "(II)I"⟩, 40), (⟨"BreatheOutModel", "minutesOf", "(IZ)I"⟩, 40), (⟨"BreatheOutModel", "of", "(II)I"⟩, 40), (⟨"BreatheOutModel", "wrongKept", "(I)I"⟩, 40)]
theorem lw_r2 : ∀ q ∈ lw_privs_2, lw_okq q := List.forall_mem_cons.mpr ⟨lw_p16, List.forall_mem_cons.mpr ⟨lw_p17, List.forall_mem_cons.mpr ⟨lw_p18, List.forall_mem_cons.mpr ⟨lw_p19, List.forall_mem_cons.mpr ⟨lw_p20, List.forall_mem_cons.mpr ⟨lw_p21, List.forall_mem_cons.mpr ⟨lw_p22, List.forall_mem_cons.mpr ⟨lw_p23, List.forall_mem_cons.mpr ⟨lw_p24, List.forall_mem_cons.mpr ⟨lw_p25, List.forall_mem_cons.mpr ⟨lw_p26, List.forall_mem_cons.mpr ⟨lw_p27, List.forall_mem_cons.mpr ⟨lw_p28, List.forall_mem_cons.mpr ⟨lw_p29, List.forall_mem_cons.mpr ⟨lw_p30, List.forall_mem_cons.mpr ⟨lw_p31, fun _ h => absurd h List.not_mem_nil⟩⟩⟩⟩⟩⟩⟩⟩⟩⟩⟩⟩⟩⟩⟩⟩
theorem lw_p32 : lw_okq (⟨"BreatheOutModel", "sizeOf", "(IIIZ)I"⟩, 40) := ⟨⟨by decide +kernel, by decide +kernel⟩, List.mem_of_getElem? (i := 943) (by decide +kernel), List.mem_of_getElem? (i := 1188) (by decide +kernel), List.mem_of_getElem? (i := 1189) (by decide +kernel)⟩
theorem lw_p33 : lw_okq (⟨"BreatheOutModel", "fitsIn", "(III)I"⟩, 40) := ⟨⟨by decide +kernel, by decide +kernel⟩, List.mem_of_getElem? (i := 943) (by decide +kernel), List.mem_of_getElem? (i := 1199) (by decide +kernel), List.mem_of_getElem? (i := 1200) (by decide +kernel)⟩
theorem lw_p34 : lw_okq (⟨"BreatheOutModel", "sizeNow", "(IIZ)I"⟩, 40) := ⟨⟨by decide +kernel, by decide +kernel⟩, List.mem_of_getElem? (i := 943) (by decide +kernel), List.mem_of_getElem? (i := 1203) (by decide +kernel), List.mem_of_getElem? (i := 1204) (by decide +kernel)⟩
theorem lw_p35 : lw_okq (⟨"BreatheOutModel", "wayAlone", "(IZ)V"⟩, 40) := ⟨⟨by decide +kernel, by decide +kernel⟩, List.mem_of_getElem? (i := 943) (by decide +kernel), List.mem_of_getElem? (i := 1211) (by decide +kernel), List.mem_of_getElem? (i := 1212) (by decide +kernel)⟩
theorem lw_p36 : lw_okq (⟨"BreatheOutModel", "goesWay", "(IZI)V"⟩, 40) := ⟨⟨by decide +kernel, by decide +kernel⟩, List.mem_of_getElem? (i := 943) (by decide +kernel), List.mem_of_getElem? (i := 1215) (by decide +kernel), List.mem_of_getElem? (i := 1216) (by decide +kernel)⟩
theorem lw_p37 : lw_okq (⟨"BreatheOutModel", "goesThere", "()V"⟩, 40) := ⟨⟨by decide +kernel, by decide +kernel⟩, List.mem_of_getElem? (i := 943) (by decide +kernel), List.mem_of_getElem? (i := 1236) (by decide +kernel), List.mem_of_getElem? (i := 1237) (by decide +kernel)⟩
theorem lw_p38 : lw_okq (⟨"BreatheOutModel", "lines", "()V"⟩, 40) := ⟨⟨by decide +kernel, by decide +kernel⟩, List.mem_of_getElem? (i := 943) (by decide +kernel), List.mem_of_getElem? (i := 1240) (by decide +kernel), List.mem_of_getElem? (i := 1241) (by decide +kernel)⟩
theorem lw_p39 : lw_okq (⟨"BreatheOutModel", "pulled", "(II)I"⟩, 40) := ⟨⟨by decide +kernel, by decide +kernel⟩, List.mem_of_getElem? (i := 943) (by decide +kernel), List.mem_of_getElem? (i := 1244) (by decide +kernel), List.mem_of_getElem? (i := 1245) (by decide +kernel)⟩
theorem lw_p40 : lw_okq (⟨"BreatheOutModel", "goesThereAndBack", "()V"⟩, 40) := ⟨⟨by decide +kernel, by decide +kernel⟩, List.mem_of_getElem? (i := 943) (by decide +kernel), List.mem_of_getElem? (i := 1252) (by decide +kernel), List.mem_of_getElem? (i := 1253) (by decide +kernel)⟩
theorem lw_p41 : lw_okq (⟨"BreatheOutModel", "eachOrder", "(II)V"⟩, 40) := ⟨⟨by decide +kernel, by decide +kernel⟩, List.mem_of_getElem? (i := 943) (by decide +kernel), List.mem_of_getElem? (i := 1264) (by decide +kernel), List.mem_of_getElem? (i := 1265) (by decide +kernel)⟩
theorem lw_p42 : lw_okq (⟨"BreatheOutModel", "areAllBack", "()Z"⟩, 40) := ⟨⟨by decide +kernel, by decide +kernel⟩, List.mem_of_getElem? (i := 943) (by decide +kernel), List.mem_of_getElem? (i := 1275) (by decide +kernel), List.mem_of_getElem? (i := 1276) (by decide +kernel)⟩
theorem lw_p43 : lw_okq (⟨"BreatheOutModel", "eachDeed", "(IIIIII)V"⟩, 40) := ⟨⟨by decide +kernel, by decide +kernel⟩, List.mem_of_getElem? (i := 943) (by decide +kernel), List.mem_of_getElem? (i := 1290) (by decide +kernel), List.mem_of_getElem? (i := 1291) (by decide +kernel)⟩
theorem lw_p44 : lw_okq (⟨"BreatheOutModel", "wrongRocks", "(II)I"⟩, 40) := ⟨⟨by decide +kernel, by decide +kernel⟩, List.mem_of_getElem? (i := 943) (by decide +kernel), List.mem_of_getElem? (i := 1323) (by decide +kernel), List.mem_of_getElem? (i := 1324) (by decide +kernel)⟩
theorem lw_p45 : lw_okq (⟨"BreatheOutModel", "wrongRock", "(III)I"⟩, 40) := ⟨⟨by decide +kernel, by decide +kernel⟩, List.mem_of_getElem? (i := 943) (by decide +kernel), List.mem_of_getElem? (i := 1327) (by decide +kernel), List.mem_of_getElem? (i := 1328) (by decide +kernel)⟩
theorem lw_p46 : lw_okq (⟨"BreatheOutModel", "drawn", "(I)I"⟩, 40) := ⟨⟨by decide +kernel, by decide +kernel⟩, List.mem_of_getElem? (i := 943) (by decide +kernel), List.mem_of_getElem? (i := 1347) (by decide +kernel), List.mem_of_getElem? (i := 1348) (by decide +kernel)⟩
def lw_privs_3 : List (MethodName × Nat) := [(⟨"BreatheOutModel", "sizeOf", "(IIIZ)I"⟩, 40), (⟨"BreatheOutModel", "fitsIn", "(III)I"⟩, 40), (⟨"BreatheOutModel", "sizeNow", "(IIZ)I"⟩, 40), (⟨"BreatheOutModel", "wayAlone", "(IZ)V"⟩, 40), (⟨"BreatheOutModel", "goesWay", "(IZI)V"⟩, 40), (⟨"BreatheOutModel", "goesThere", "()V"⟩, 40), (⟨"BreatheOutModel", "lines", "()V"⟩, 40), (⟨"BreatheOutModel", "pulled", "(II)I"⟩, 40), (⟨"BreatheOutModel", "goesThereAndBack", "()V"⟩, 40), (⟨"BreatheOutModel", "eachOrder", "(II)V"⟩, 40), (⟨"BreatheOutModel", "areAllBack", "()Z"⟩, 40), (⟨"BreatheOutModel", "eachDeed", "(IIIIII)V"⟩, 40), (⟨"BreatheOutModel", "wrongRocks", "(II)I"⟩, 40), (⟨"BreatheOutModel", "wrongRock", "(III)I"⟩, 40), (⟨"BreatheOutModel", "drawn", "(I)I"⟩, 40)]
theorem lw_r3 : ∀ q ∈ lw_privs_3, lw_okq q := List.forall_mem_cons.mpr ⟨lw_p32, List.forall_mem_cons.mpr ⟨lw_p33, List.forall_mem_cons.mpr ⟨lw_p34, List.forall_mem_cons.mpr ⟨lw_p35, List.forall_mem_cons.mpr ⟨lw_p36, List.forall_mem_cons.mpr ⟨lw_p37, List.forall_mem_cons.mpr ⟨lw_p38, List.forall_mem_cons.mpr ⟨lw_p39, List.forall_mem_cons.mpr ⟨lw_p40, List.forall_mem_cons.mpr ⟨lw_p41, List.forall_mem_cons.mpr ⟨lw_p42, List.forall_mem_cons.mpr ⟨lw_p43, List.forall_mem_cons.mpr ⟨lw_p44, List.forall_mem_cons.mpr ⟨lw_p45, List.forall_mem_cons.mpr ⟨lw_p46, fun _ h => absurd h List.not_mem_nil⟩⟩⟩⟩⟩⟩⟩⟩⟩⟩⟩⟩⟩⟩⟩
def lw_privs : List (MethodName × Nat) := lw_privs_1 ++ (lw_privs_2 ++ (lw_privs_3))
def lw_tbl : List Cond := k2_sels lw_privs ++ tables_1
theorem lw_privs_ok : ∀ q ∈ lw_privs, lw_okq q := by
  show ∀ q ∈ lw_privs_1 ++ (lw_privs_2 ++ (lw_privs_3)), lw_okq q
  exact List.forall_mem_append.mpr ⟨lw_r1, List.forall_mem_append.mpr ⟨lw_r2, lw_r3⟩⟩
/-- the words that hold of the tables in every warmed state -/
def tbl : List Cond := lw_tbl.filter goodWord
theorem tbl_in {c : Cond} (h : c ∈ lw_tbl) (g : goodWord c = true) : c ∈ tbl := List.mem_filter.mpr ⟨h, g⟩
theorem tbl_at {c : Cond} (i : Nat) (h : lw_tbl[i]? = some c) (g : goodWord c = true) : c ∈ tbl := tbl_in (List.mem_of_getElem? h) g
theorem tbl_good : ∀ w ∈ tbl, (w.onTables && w.keeps) = true ∨ ∃ ty, w = .arrayClass ty := fun w h => good_of_word (List.mem_filter.mp h).2
theorem tbl_all {ws : List Cond} (h : ∀ w ∈ ws, w ∈ lw_tbl) (g : ws.all goodWord = true) : ∀ w ∈ ws, w ∈ tbl := fun w hw => tbl_in (h w hw) (List.all_eq_true.mp g w hw)
end
section
def R_Best : String := "BreatheOut$BestOrder"
def R_Bod : String := "BreatheOut$Bodies"
def R_Cav : String := "BreatheOut$Cave"
def R_Kin : String := "BreatheOut$Kinds"
def R_Leg : String := "BreatheOut$Leg"
def R_Res : String := "BreatheOut$Rescuers"
def R_She : String := "BreatheOut$Shelf"
def R_Tex : String := "BreatheOut$Text"
def R_Tri : String := "BreatheOut$Trip"
def R_Yar : String := "BreatheOut$Yards"
def R_Brt : String := "BreatheOut"
def R_Mod : String := "BreatheOutModel"
def R_Int : String := "java/lang/Integer"
def R_Mat : String := "java/lang/Math"
def R_Arr : String := "java/util/Arrays"
def R_Sys : String := "java/lang/System"
def R_Law : String := "BreatheOutLaw"
def F_Best : u_T := fun k => match k with
  | 0 => ("BreatheOut$BestOrder", "line", "[I", true)
  | 1 => ("BreatheOut$BestOrder", "returned", "I", false)
  | 2 => ("BreatheOut$BestOrder", "tried", "[I", true)
  | 3 => ("BreatheOut$BestOrder", "clock", "I", false)
  | _ => ("BreatheOut$BestOrder", "known", "Z", false)
def t_Best : Nat → FieldType := fun k => match k with
  | 0 => .array .int
  | 1 => .int
  | 2 => .array .int
  | 3 => .int
  | _ => .boolean
set_option maxRecDepth 20000 in
theorem n_Best : ∀ a, a < 5 → ∀ b, b < 5 → a ≠ b → (F_Best a).2.1 ≠ (F_Best b).2.1 := by decide +kernel
theorem t_Best_ok : ∀ k, k < 5 → parseFieldDescriptor (F_Best k).2.2.1 = some (t_Best k) := by decide +kernel
set_option maxRecDepth 100000 in
theorem i_Best : ∀ w ∈ u_ws R_Best F_Best 5, w ∈ tbl := tbl_all (by decide +kernel) (by decide +kernel)
def F_Bod : u_T := fun k => match k with
  | 0 => ("BreatheOut$Bodies", "count", "I", false)
  | 1 => ("BreatheOut$Bodies", "chest", "[I", true)
  | 2 => ("BreatheOut$Bodies", "out", "[I", true)
  | 3 => ("BreatheOut$Bodies", "fear", "[I", true)
  | 4 => ("BreatheOut$Bodies", "pull", "[I", true)
  | 5 => ("BreatheOut$Bodies", "posture", "[I", true)
  | _ => ("BreatheOut$Bodies", "line", "[I", true)
def t_Bod : Nat → FieldType := fun k => match k with
  | 0 => .int
  | 1 => .array .int
  | 2 => .array .int
  | 3 => .array .int
  | 4 => .array .int
  | 5 => .array .int
  | _ => .array .int
set_option maxRecDepth 20000 in
theorem n_Bod : ∀ a, a < 7 → ∀ b, b < 7 → a ≠ b → (F_Bod a).2.1 ≠ (F_Bod b).2.1 := by decide +kernel
theorem t_Bod_ok : ∀ k, k < 7 → parseFieldDescriptor (F_Bod k).2.2.1 = some (t_Bod k) := by decide +kernel
set_option maxRecDepth 100000 in
theorem i_Bod : ∀ w ∈ u_ws R_Bod F_Bod 7, w ∈ tbl := tbl_all (by decide +kernel) (by decide +kernel)
def F_Cav : u_T := fun k => match k with
  | 0 => ("BreatheOut$Cave", "yards", "LBreatheOut$Yards;", true)
  | 1 => ("BreatheOut$Cave", "bodies", "LBreatheOut$Bodies;", true)
  | 2 => ("BreatheOut$Cave", "rise", "I", false)
  | 3 => ("BreatheOut$Cave", "calm", "I", false)
  | 4 => ("BreatheOut$Cave", "light", "I", false)
  | _ => ("BreatheOut$Cave", "clock", "I", false)
def t_Cav : Nat → FieldType := fun k => match k with
  | 0 => .object "BreatheOut$Yards"
  | 1 => .object "BreatheOut$Bodies"
  | 2 => .int
  | 3 => .int
  | 4 => .int
  | _ => .int
set_option maxRecDepth 20000 in
theorem n_Cav : ∀ a, a < 6 → ∀ b, b < 6 → a ≠ b → (F_Cav a).2.1 ≠ (F_Cav b).2.1 := by decide +kernel
theorem t_Cav_ok : ∀ k, k < 6 → parseFieldDescriptor (F_Cav k).2.2.1 = some (t_Cav k) := by decide +kernel
set_option maxRecDepth 100000 in
theorem i_Cav : ∀ w ∈ u_ws R_Cav F_Cav 6, w ∈ tbl := tbl_all (by decide +kernel) (by decide +kernel)
def F_Leg : u_T := fun k => match k with
  | 0 => ("BreatheOut$Leg", "arrived", "I", false)
  | 1 => ("BreatheOut$Leg", "arrivals", "I", false)
  | 2 => ("BreatheOut$Leg", "stuck", "I", false)
  | 3 => ("BreatheOut$Leg", "where", "I", false)
  | 4 => ("BreatheOut$Leg", "clock", "I", false)
  | 5 => ("BreatheOut$Leg", "breaths", "I", false)
  | _ => ("BreatheOut$Leg", "times", "[I", true)
def t_Leg : Nat → FieldType := fun k => match k with
  | 0 => .int
  | 1 => .int
  | 2 => .int
  | 3 => .int
  | 4 => .int
  | 5 => .int
  | _ => .array .int
set_option maxRecDepth 20000 in
theorem n_Leg : ∀ a, a < 7 → ∀ b, b < 7 → a ≠ b → (F_Leg a).2.1 ≠ (F_Leg b).2.1 := by decide +kernel
theorem t_Leg_ok : ∀ k, k < 7 → parseFieldDescriptor (F_Leg k).2.2.1 = some (t_Leg k) := by decide +kernel
set_option maxRecDepth 100000 in
theorem i_Leg : ∀ w ∈ u_ws R_Leg F_Leg 7, w ∈ tbl := tbl_all (by decide +kernel) (by decide +kernel)
def F_Res : u_T := fun k => match k with
  | 0 => ("BreatheOut$Rescuers", "bestDeeds", "[I", true)
  | 1 => ("BreatheOut$Rescuers", "bestCount", "I", false)
  | 2 => ("BreatheOut$Rescuers", "bestMinutes", "I", false)
  | 3 => ("BreatheOut$Rescuers", "found", "Z", false)
  | 4 => ("BreatheOut$Rescuers", "deeds", "[I", true)
  | 5 => ("BreatheOut$Rescuers", "most", "I", false)
  | 6 => ("BreatheOut$Rescuers", "lackingWithoutFear", "I", false)
  | 7 => ("BreatheOut$Rescuers", "pulling", "I", false)
  | 8 => ("BreatheOut$Rescuers", "pushing", "I", false)
  | _ => ("BreatheOut$Rescuers", "calm", "I", false)
def t_Res : Nat → FieldType := fun k => match k with
  | 0 => .array .int
  | 1 => .int
  | 2 => .int
  | 3 => .boolean
  | 4 => .array .int
  | 5 => .int
  | 6 => .int
  | 7 => .int
  | 8 => .int
  | _ => .int
set_option maxRecDepth 20000 in
theorem n_Res : ∀ a, a < 10 → ∀ b, b < 10 → a ≠ b → (F_Res a).2.1 ≠ (F_Res b).2.1 := by decide +kernel
theorem t_Res_ok : ∀ k, k < 10 → parseFieldDescriptor (F_Res k).2.2.1 = some (t_Res k) := by decide +kernel
set_option maxRecDepth 100000 in
theorem i_Res : ∀ w ∈ u_ws R_Res F_Res 10, w ∈ tbl := tbl_all (by decide +kernel) (by decide +kernel)
def F_She : u_T := fun k => match k with
  | 0 => ("BreatheOut$Shelf", "holds", "I", false)
  | 1 => ("BreatheOut$Shelf", "kind", "I", false)
  | 2 => ("BreatheOut$Shelf", "figure", "I", false)
  | 3 => ("BreatheOut$Shelf", "sort", "I", false)
  | 4 => ("BreatheOut$Shelf", "length", "I", false)
  | _ => ("BreatheOut$Shelf", "cells", "[I", true)
def t_She : Nat → FieldType := fun k => match k with
  | 0 => .int
  | 1 => .int
  | 2 => .int
  | 3 => .int
  | 4 => .int
  | _ => .array .int
set_option maxRecDepth 20000 in
theorem n_She : ∀ a, a < 6 → ∀ b, b < 6 → a ≠ b → (F_She a).2.1 ≠ (F_She b).2.1 := by decide +kernel
theorem t_She_ok : ∀ k, k < 6 → parseFieldDescriptor (F_She k).2.2.1 = some (t_She k) := by decide +kernel
set_option maxRecDepth 100000 in
theorem i_She : ∀ w ∈ u_ws R_She F_She 6, w ∈ tbl := tbl_all (by decide +kernel) (by decide +kernel)
def F_Tri : u_T := fun k => match k with
  | 0 => ("BreatheOut$Trip", "there", "LBreatheOut$Leg;", true)
  | 1 => ("BreatheOut$Trip", "home", "LBreatheOut$Leg;", true)
  | _ => ("BreatheOut$Trip", "one", "[I", true)
def t_Tri : Nat → FieldType := fun k => match k with
  | 0 => .object "BreatheOut$Leg"
  | 1 => .object "BreatheOut$Leg"
  | _ => .array .int
set_option maxRecDepth 20000 in
theorem n_Tri : ∀ a, a < 3 → ∀ b, b < 3 → a ≠ b → (F_Tri a).2.1 ≠ (F_Tri b).2.1 := by decide +kernel
theorem t_Tri_ok : ∀ k, k < 3 → parseFieldDescriptor (F_Tri k).2.2.1 = some (t_Tri k) := by decide +kernel
set_option maxRecDepth 100000 in
theorem i_Tri : ∀ w ∈ u_ws R_Tri F_Tri 3, w ∈ tbl := tbl_all (by decide +kernel) (by decide +kernel)
def F_Yar : u_T := fun k => match k with
  | 0 => ("BreatheOut$Yards", "count", "I", false)
  | 1 => ("BreatheOut$Yards", "kind", "[I", true)
  | 2 => ("BreatheOut$Yards", "figure", "[I", true)
  | 3 => ("BreatheOut$Yards", "width", "[I", true)
  | 4 => ("BreatheOut$Yards", "dryRoom", "[I", true)
  | 5 => ("BreatheOut$Yards", "minutesThere", "[I", true)
  | 6 => ("BreatheOut$Yards", "minutesBack", "[I", true)
  | 7 => ("BreatheOut$Yards", "moreHeadFirst", "[I", true)
  | _ => ("BreatheOut$Yards", "moreFeetFirst", "[I", true)
def t_Yar : Nat → FieldType := fun k => match k with
  | 0 => .int
  | 1 => .array .int
  | 2 => .array .int
  | 3 => .array .int
  | 4 => .array .int
  | 5 => .array .int
  | 6 => .array .int
  | 7 => .array .int
  | _ => .array .int
set_option maxRecDepth 20000 in
theorem n_Yar : ∀ a, a < 9 → ∀ b, b < 9 → a ≠ b → (F_Yar a).2.1 ≠ (F_Yar b).2.1 := by decide +kernel
theorem t_Yar_ok : ∀ k, k < 9 → parseFieldDescriptor (F_Yar k).2.2.1 = some (t_Yar k) := by decide +kernel
set_option maxRecDepth 100000 in
theorem i_Yar : ∀ w ∈ u_ws R_Yar F_Yar 9, w ∈ tbl := tbl_all (by decide +kernel) (by decide +kernel)
def F_Brt : u_T := fun k => match k with
  | 0 => ("BreatheOut", "now", "LBreatheOut$Cave;", true)
  | 1 => ("BreatheOut", "kept", "LBreatheOut$Cave;", true)
  | 2 => ("BreatheOut", "trial", "LBreatheOut$Cave;", true)
  | 3 => ("BreatheOut", "trip", "LBreatheOut$Trip;", true)
  | 4 => ("BreatheOut", "best", "LBreatheOut$BestOrder;", true)
  | 5 => ("BreatheOut", "rescuers", "LBreatheOut$Rescuers;", true)
  | 6 => ("BreatheOut", "line", "[I", true)
  | 7 => ("BreatheOut", "shelves", "[LBreatheOut$Shelf;", true)
  | _ => ("BreatheOut", "imageTaken", "Z", false)
def t_Brt : Nat → FieldType := fun k => match k with
  | 0 => .object "BreatheOut$Cave"
  | 1 => .object "BreatheOut$Cave"
  | 2 => .object "BreatheOut$Cave"
  | 3 => .object "BreatheOut$Trip"
  | 4 => .object "BreatheOut$BestOrder"
  | 5 => .object "BreatheOut$Rescuers"
  | 6 => .array .int
  | 7 => .array (.object "BreatheOut$Shelf")
  | _ => .boolean
set_option maxRecDepth 20000 in
theorem n_Brt : ∀ a, a < 9 → ∀ b, b < 9 → a ≠ b → (F_Brt a).2.1 ≠ (F_Brt b).2.1 := by decide +kernel
theorem t_Brt_ok : ∀ k, k < 9 → parseFieldDescriptor (F_Brt k).2.2.1 = some (t_Brt k) := by decide +kernel
set_option maxRecDepth 100000 in
theorem i_Brt : ∀ w ∈ u_ws R_Brt F_Brt 9, w ∈ tbl := tbl_all (by decide +kernel) (by decide +kernel)
def F_Mod : u_T := fun k => match k with
  | 0 => ("BreatheOutModel", "s", "[I", true)
  | 1 => ("BreatheOutModel", "image", "[I", true)
  | 2 => ("BreatheOutModel", "was", "[I", true)
  | 3 => ("BreatheOutModel", "hasImage", "Z", false)
  | 4 => ("BreatheOutModel", "clock", "I", false)
  | 5 => ("BreatheOutModel", "breaths", "I", false)
  | 6 => ("BreatheOutModel", "stuckAt", "I", false)
  | 7 => ("BreatheOutModel", "away", "I", false)
  | 8 => ("BreatheOutModel", "through", "I", false)
  | 9 => ("BreatheOutModel", "stuck", "I", false)
  | 10 => ("BreatheOutModel", "where", "I", false)
  | 11 => ("BreatheOutModel", "came", "I", false)
  | 12 => ("BreatheOutModel", "stuckBack", "I", false)
  | 13 => ("BreatheOutModel", "goClock", "I", false)
  | 14 => ("BreatheOutModel", "goBreaths", "I", false)
  | 15 => ("BreatheOutModel", "backClock", "I", false)
  | 16 => ("BreatheOutModel", "throughAt", "[I", true)
  | 17 => ("BreatheOutModel", "line", "[I", true)
  | 18 => ("BreatheOutModel", "lineMany", "I", false)
  | 19 => ("BreatheOutModel", "at", "I", false)
  | 20 => ("BreatheOutModel", "rowAt", "I", false)
  | 21 => ("BreatheOutModel", "rowEnd", "I", false)
  | 22 => ("BreatheOutModel", "numbers", "[I", true)
  | 23 => ("BreatheOutModel", "bestMany", "I", false)
  | 24 => ("BreatheOutModel", "bestClock", "I", false)
  | 25 => ("BreatheOutModel", "bestOrder", "[I", true)
  | 26 => ("BreatheOutModel", "deed", "[I", true)
  | 27 => ("BreatheOutModel", "bestDeed", "[I", true)
  | 28 => ("BreatheOutModel", "bestMinutes", "I", false)
  | 29 => ("BreatheOutModel", "bestLength", "I", false)
  | 30 => ("BreatheOutModel", "strongest", "I", false)
  | 31 => ("BreatheOutModel", "weakest", "I", false)
  | 32 => ("BreatheOutModel", "seed", "I", false)
  | 33 => ("BreatheOutModel", "kept", "[I", true)
  | 34 => ("BreatheOutModel", "keptKind", "[I", true)
  | 35 => ("BreatheOutModel", "keptFigure", "[I", true)
  | 36 => ("BreatheOutModel", "sort", "[I", true)
  | 37 => ("BreatheOutModel", "size", "[I", true)
  | 38 => ("BreatheOutModel", "element", "[I", true)
  | _ => ("BreatheOutModel", "thrown", "I", false)
def t_Mod : Nat → FieldType := fun k => match k with
  | 0 => .array .int
  | 1 => .array .int
  | 2 => .array .int
  | 3 => .boolean
  | 4 => .int
  | 5 => .int
  | 6 => .int
  | 7 => .int
  | 8 => .int
  | 9 => .int
  | 10 => .int
  | 11 => .int
  | 12 => .int
  | 13 => .int
  | 14 => .int
  | 15 => .int
  | 16 => .array .int
  | 17 => .array .int
  | 18 => .int
  | 19 => .int
  | 20 => .int
  | 21 => .int
  | 22 => .array .int
  | 23 => .int
  | 24 => .int
  | 25 => .array .int
  | 26 => .array .int
  | 27 => .array .int
  | 28 => .int
  | 29 => .int
  | 30 => .int
  | 31 => .int
  | 32 => .int
  | 33 => .array .int
  | 34 => .array .int
  | 35 => .array .int
  | 36 => .array .int
  | 37 => .array .int
  | 38 => .array .int
  | _ => .int
set_option maxRecDepth 20000 in
theorem n_Mod : ∀ a, a < 40 → ∀ b, b < 40 → a ≠ b → (F_Mod a).2.1 ≠ (F_Mod b).2.1 := by decide +kernel
theorem t_Mod_ok : ∀ k, k < 40 → parseFieldDescriptor (F_Mod k).2.2.1 = some (t_Mod k) := by decide +kernel
set_option maxRecDepth 100000 in
theorem i_Mod : ∀ w ∈ u_ws R_Mod F_Mod 40, w ∈ tbl := tbl_all (by decide +kernel) (by decide +kernel)
abbrev classes : List vw_C := [(R_Best, F_Best, 5), (R_Bod, F_Bod, 7), (R_Cav, F_Cav, 6), (R_Leg, F_Leg, 7), (R_Res, F_Res, 10), (R_She, F_She, 6), (R_Tri, F_Tri, 3), (R_Yar, F_Yar, 9), (R_Brt, F_Brt, 9), (R_Mod, F_Mod, 40)]
abbrev b_Best_init : ByteArray := prog_2_method_1_code
def y_Best_init : MethodName := ⟨R_Best, "<init>", "()V"⟩
abbrev b_Best_forget : ByteArray := prog_2_method_2_code
def y_Best_forget : MethodName := ⟨R_Best, "forget", "()V"⟩
abbrev b_Best_find : ByteArray := prog_2_method_3_code
def y_Best_find : MethodName := ⟨R_Best, "find", "(LBreatheOut$Cave;LBreatheOut$Trip;)V"⟩
abbrev b_Best_weigh : ByteArray := prog_2_method_4_code
def y_Best_weigh : MethodName := ⟨R_Best, "weigh", "(LBreatheOut$Leg;)V"⟩
abbrev b_Best_goToNext : ByteArray := prog_2_method_5_code
def y_Best_goToNext : MethodName := ⟨R_Best, "goToNext", "(I)Z"⟩
abbrev b_Best_exchange : ByteArray := prog_2_method_6_code
def y_Best_exchange : MethodName := ⟨R_Best, "exchange", "(II)V"⟩
abbrev b_Bod_init : ByteArray := prog_3_method_1_code
def y_Bod_init : MethodName := ⟨R_Bod, "<init>", "()V"⟩
abbrev b_Bod_has : ByteArray := prog_3_method_2_code
def y_Bod_has : MethodName := ⟨R_Bod, "has", "(I)Z"⟩
abbrev b_Bod_add : ByteArray := prog_3_method_3_code
def y_Bod_add : MethodName := ⟨R_Bod, "add", "(IIII)Z"⟩
abbrev b_Bod_traitOf : ByteArray := prog_3_method_4_code
def y_Bod_traitOf : MethodName := ⟨R_Bod, "traitOf", "(II)I"⟩
abbrev b_Bod_alter : ByteArray := prog_3_method_5_code
def y_Bod_alter : MethodName := ⟨R_Bod, "alter", "(III)Z"⟩
abbrev b_Bod_placeOf : ByteArray := prog_3_method_6_code
def y_Bod_placeOf : MethodName := ⟨R_Bod, "placeOf", "(I)I"⟩
abbrev b_Bod_swap : ByteArray := prog_3_method_7_code
def y_Bod_swap : MethodName := ⟨R_Bod, "swap", "(II)Z"⟩
abbrev b_Bod_bulkOf : ByteArray := prog_3_method_8_code
def y_Bod_bulkOf : MethodName := ⟨R_Bod, "bulkOf", "(IIZ)I"⟩
abbrev b_Bod_strongestPullBut : ByteArray := prog_3_method_9_code
def y_Bod_strongestPullBut : MethodName := ⟨R_Bod, "strongestPullBut", "(I)I"⟩
abbrev b_Bod_weakestPullBut : ByteArray := prog_3_method_10_code
def y_Bod_weakestPullBut : MethodName := ⟨R_Bod, "weakestPullBut", "(I)I"⟩
abbrev b_Bod_become : ByteArray := prog_3_method_11_code
def y_Bod_become : MethodName := ⟨R_Bod, "become", "(LBreatheOut$Bodies;)V"⟩
abbrev b_Cav_init : ByteArray := prog_4_method_1_code
def y_Cav_init : MethodName := ⟨R_Cav, "<init>", "()V"⟩
abbrev b_Cav_hasBoth : ByteArray := prog_4_method_2_code
def y_Cav_hasBoth : MethodName := ⟨R_Cav, "hasBoth", "(II)Z"⟩
abbrev b_Cav_settingOf : ByteArray := prog_4_method_3_code
def y_Cav_settingOf : MethodName := ⟨R_Cav, "settingOf", "(I)I"⟩
abbrev b_Cav_adjust : ByteArray := prog_4_method_4_code
def y_Cav_adjust : MethodName := ⟨R_Cav, "adjust", "(II)Z"⟩
abbrev b_Cav_goOn : ByteArray := prog_4_method_5_code
def y_Cav_goOn : MethodName := ⟨R_Cav, "goOn", "(I)Z"⟩
abbrev b_Cav_waterAt : ByteArray := prog_4_method_6_code
def y_Cav_waterAt : MethodName := ⟨R_Cav, "waterAt", "(I)I"⟩
abbrev b_Cav_lackingOf : ByteArray := prog_4_method_7_code
def y_Cav_lackingOf : MethodName := ⟨R_Cav, "lackingOf", "(II)I"⟩
abbrev b_Cav_fitOf : ByteArray := prog_4_method_8_code
def y_Cav_fitOf : MethodName := ⟨R_Cav, "fitOf", "(II)I"⟩
abbrev b_Cav_become : ByteArray := prog_4_method_9_code
def y_Cav_become : MethodName := ⟨R_Cav, "become", "(LBreatheOut$Cave;)V"⟩
abbrev b_Kin_roomOf : ByteArray := prog_5_method_2_code
def y_Kin_roomOf : MethodName := ⟨R_Kin, "roomOf", "(III)I"⟩
abbrev b_Kin_moreOf : ByteArray := prog_5_method_3_code
def y_Kin_moreOf : MethodName := ⟨R_Kin, "moreOf", "(IZ)I"⟩
abbrev b_Kin_minutesOf : ByteArray := prog_5_method_4_code
def y_Kin_minutesOf : MethodName := ⟨R_Kin, "minutesOf", "(IIZ)I"⟩
abbrev b_Kin_costOf : ByteArray := prog_5_method_5_code
def y_Kin_costOf : MethodName := ⟨R_Kin, "costOf", "(II)I"⟩
abbrev b_Kin_fail : ByteArray := prog_5_method_6_code
def y_Kin_fail : MethodName := ⟨R_Kin, "fail", "(II)V"⟩
abbrev b_Leg_init : ByteArray := prog_6_method_1_code
def y_Leg_init : MethodName := ⟨R_Leg, "<init>", "()V"⟩
abbrev b_Leg_begin : ByteArray := prog_6_method_2_code
def y_Leg_begin : MethodName := ⟨R_Leg, "begin", "(I)V"⟩
abbrev b_Leg_passAll : ByteArray := prog_6_method_3_code
def y_Leg_passAll : MethodName := ⟨R_Leg, "passAll", "(LBreatheOut$Cave;[IIZI)V"⟩
abbrev b_Leg_passOne : ByteArray := prog_6_method_4_code
def y_Leg_passOne : MethodName := ⟨R_Leg, "passOne", "(LBreatheOut$Cave;IZI)V"⟩
abbrev b_Res_init : ByteArray := prog_7_method_1_code
def y_Res_init : MethodName := ⟨R_Res, "<init>", "()V"⟩
abbrev b_Res_find : ByteArray := prog_7_method_2_code
def y_Res_find : MethodName := ⟨R_Res, "find", "(LBreatheOut$Cave;III)V"⟩
abbrev b_Res_search : ByteArray := prog_7_method_3_code
def y_Res_search : MethodName := ⟨R_Res, "search", "(IIII)V"⟩
abbrev b_She_init : ByteArray := prog_8_method_1_code
def y_She_init : MethodName := ⟨R_She, "<init>", "()V"⟩
abbrev b_She_holdKind : ByteArray := prog_8_method_2_code
def y_She_holdKind : MethodName := ⟨R_She, "holdKind", "(II)V"⟩
abbrev b_She_holdRow : ByteArray := prog_8_method_3_code
def y_She_holdRow : MethodName := ⟨R_She, "holdRow", "(II)V"⟩
abbrev b_She_hasPlace : ByteArray := prog_8_method_4_code
def y_She_hasPlace : MethodName := ⟨R_She, "hasPlace", "(I)Z"⟩
abbrev b_She_hasPlaces : ByteArray := prog_8_method_5_code
def y_She_hasPlaces : MethodName := ⟨R_She, "hasPlaces", "(II)Z"⟩
abbrev b_She_write : ByteArray := prog_8_method_6_code
def y_She_write : MethodName := ⟨R_She, "write", "(II)V"⟩
abbrev b_She_isSkipped : ByteArray := prog_8_method_7_code
def y_She_isSkipped : MethodName := ⟨R_She, "isSkipped", "(I)Z"⟩
abbrev b_Tex_brokenAt : ByteArray := prog_9_method_2_code
def y_Tex_brokenAt : MethodName := ⟨R_Tex, "brokenAt", "(LBreatheOut$Shelf;)I"⟩
abbrev b_Tex_digitsBehind : ByteArray := prog_9_method_3_code
def y_Tex_digitsBehind : MethodName := ⟨R_Tex, "digitsBehind", "(I)I"⟩
abbrev b_Tex_tell : ByteArray := prog_9_method_4_code
def y_Tex_tell : MethodName := ⟨R_Tex, "tell", "(LBreatheOut$Shelf;ILBreatheOut$Cave;)Z"⟩
abbrev b_Tex_number : ByteArray := prog_9_method_5_code
def y_Tex_number : MethodName := ⟨R_Tex, "number", "(LBreatheOut$Shelf;II)I"⟩
abbrev b_Tri_init : ByteArray := prog_10_method_1_code
def y_Tri_init : MethodName := ⟨R_Tri, "<init>", "()V"⟩
abbrev b_Tri_thereAndBack : ByteArray := prog_10_method_2_code
def y_Tri_thereAndBack : MethodName := ⟨R_Tri, "thereAndBack", "(LBreatheOut$Cave;[III)Z"⟩
abbrev b_Tri_alone : ByteArray := prog_10_method_3_code
def y_Tri_alone : MethodName := ⟨R_Tri, "alone", "(LBreatheOut$Cave;IZ)LBreatheOut$Leg;"⟩
abbrev b_Tri_shutIn : ByteArray := prog_10_method_4_code
def y_Tri_shutIn : MethodName := ⟨R_Tri, "shutIn", "()I"⟩
abbrev b_Yar_init : ByteArray := prog_11_method_1_code
def y_Yar_init : MethodName := ⟨R_Yar, "<init>", "()V"⟩
abbrev b_Yar_widthIsRight : ByteArray := prog_11_method_2_code
def y_Yar_widthIsRight : MethodName := ⟨R_Yar, "widthIsRight", "(I)Z"⟩
abbrev b_Yar_has : ByteArray := prog_11_method_3_code
def y_Yar_has : MethodName := ⟨R_Yar, "has", "(I)Z"⟩
abbrev b_Yar_add : ByteArray := prog_11_method_4_code
def y_Yar_add : MethodName := ⟨R_Yar, "add", "(III)Z"⟩
abbrev b_Yar_roomAt : ByteArray := prog_11_method_5_code
def y_Yar_roomAt : MethodName := ⟨R_Yar, "roomAt", "(II)I"⟩
abbrev b_Yar_moreBy : ByteArray := prog_11_method_6_code
def y_Yar_moreBy : MethodName := ⟨R_Yar, "moreBy", "(I)[I"⟩
abbrev b_Yar_become : ByteArray := prog_11_method_7_code
def y_Yar_become : MethodName := ⟨R_Yar, "become", "(LBreatheOut$Yards;)V"⟩
abbrev b_Brt_init : ByteArray := prog_1_method_1_code
def y_Brt_init : MethodName := ⟨R_Brt, "<init>", "()V"⟩
abbrev b_Brt_cave : ByteArray := prog_1_method_2_code
def y_Brt_cave : MethodName := ⟨R_Brt, "cave", "(I)I"⟩
abbrev b_Brt_yard : ByteArray := prog_1_method_3_code
def y_Brt_yard : MethodName := ⟨R_Brt, "yard", "(II)I"⟩
abbrev b_Brt_body : ByteArray := prog_1_method_4_code
def y_Brt_body : MethodName := ⟨R_Brt, "body", "(II)I"⟩
abbrev b_Brt_lays : ByteArray := prog_1_method_5_code
def y_Brt_lays : MethodName := ⟨R_Brt, "lays", "(II)I"⟩
abbrev b_Brt_shorter : ByteArray := prog_1_method_6_code
def y_Brt_shorter : MethodName := ⟨R_Brt, "shorter", "()I"⟩
abbrev b_Brt_makes : ByteArray := prog_1_method_7_code
def y_Brt_makes : MethodName := ⟨R_Brt, "makes", "(III)I"⟩
abbrev b_Brt_change : ByteArray := prog_1_method_8_code
def y_Brt_change : MethodName := ⟨R_Brt, "change", "(II)I"⟩
abbrev b_Brt_set : ByteArray := prog_1_method_9_code
def y_Brt_set : MethodName := ⟨R_Brt, "set", "(II)I"⟩
abbrev b_Brt_waits : ByteArray := prog_1_method_10_code
def y_Brt_waits : MethodName := ⟨R_Brt, "waits", "(I)I"⟩
abbrev b_Brt_size : ByteArray := prog_1_method_11_code
def y_Brt_size : MethodName := ⟨R_Brt, "size", "(IIII)I"⟩
abbrev b_Brt_fits : ByteArray := prog_1_method_12_code
def y_Brt_fits : MethodName := ⟨R_Brt, "fits", "(II)I"⟩
abbrev b_Brt_way : ByteArray := prog_1_method_13_code
def y_Brt_way : MethodName := ⟨R_Brt, "way", "(III)I"⟩
abbrev b_Brt_posture : ByteArray := prog_1_method_14_code
def y_Brt_posture : MethodName := ⟨R_Brt, "posture", "(I)I"⟩
abbrev b_Brt_lacks : ByteArray := prog_1_method_15_code
def y_Brt_lacks : MethodName := ⟨R_Brt, "lacks", "(I)I"⟩
abbrev b_Brt_widest : ByteArray := prog_1_method_16_code
def y_Brt_widest : MethodName := ⟨R_Brt, "widest", "(I)I"⟩
abbrev b_Brt_go : ByteArray := prog_1_method_17_code
def y_Brt_go : MethodName := ⟨R_Brt, "go", "(I)I"⟩
abbrev b_Brt_back : ByteArray := prog_1_method_18_code
def y_Brt_back : MethodName := ⟨R_Brt, "back", "(I)I"⟩
abbrev b_Brt_help : ByteArray := prog_1_method_19_code
def y_Brt_help : MethodName := ⟨R_Brt, "help", "(I)I"⟩
abbrev b_Brt_order : ByteArray := prog_1_method_20_code
def y_Brt_order : MethodName := ⟨R_Brt, "order", "(I)I"⟩
abbrev b_Brt_stays : ByteArray := prog_1_method_21_code
def y_Brt_stays : MethodName := ⟨R_Brt, "stays", "()I"⟩
abbrev b_Brt_calms : ByteArray := prog_1_method_22_code
def y_Brt_calms : MethodName := ⟨R_Brt, "calms", "(I)I"⟩
abbrev b_Brt_rescue : ByteArray := prog_1_method_23_code
def y_Brt_rescue : MethodName := ⟨R_Brt, "rescue", "(IIII)I"⟩
abbrev b_Brt_turns : ByteArray := prog_1_method_24_code
def y_Brt_turns : MethodName := ⟨R_Brt, "turns", "()I"⟩
abbrev b_Brt_floods : ByteArray := prog_1_method_25_code
def y_Brt_floods : MethodName := ⟨R_Brt, "floods", "(II)I"⟩
abbrev b_Brt_haste : ByteArray := prog_1_method_26_code
def y_Brt_haste : MethodName := ⟨R_Brt, "haste", "()I"⟩
abbrev b_Brt_panic : ByteArray := prog_1_method_27_code
def y_Brt_panic : MethodName := ⟨R_Brt, "panic", "(I)J"⟩
abbrev b_Brt_firstWays : ByteArray := prog_1_method_28_code
def y_Brt_firstWays : MethodName := ⟨R_Brt, "firstWays", "()I"⟩
abbrev b_Brt_rock : ByteArray := prog_1_method_29_code
def y_Brt_rock : MethodName := ⟨R_Brt, "rock", "(III)I"⟩
abbrev b_Brt_forged : ByteArray := prog_1_method_30_code
def y_Brt_forged : MethodName := ⟨R_Brt, "forged", "(II)I"⟩
abbrev b_Brt_judge : ByteArray := prog_1_method_31_code
def y_Brt_judge : MethodName := ⟨R_Brt, "judge", "(I)I"⟩
abbrev b_Brt_parties : ByteArray := prog_1_method_32_code
def y_Brt_parties : MethodName := ⟨R_Brt, "parties", "(III)I"⟩
abbrev b_Brt_image : ByteArray := prog_1_method_33_code
def y_Brt_image : MethodName := ⟨R_Brt, "image", "()I"⟩
abbrev b_Brt_restore : ByteArray := prog_1_method_34_code
def y_Brt_restore : MethodName := ⟨R_Brt, "restore", "()I"⟩
abbrev b_Brt_count : ByteArray := prog_1_method_35_code
def y_Brt_count : MethodName := ⟨R_Brt, "count", "(I)I"⟩
abbrev b_Brt_keep : ByteArray := prog_1_method_36_code
def y_Brt_keep : MethodName := ⟨R_Brt, "keep", "(IIII)I"⟩
abbrev b_Brt_row : ByteArray := prog_1_method_37_code
def y_Brt_row : MethodName := ⟨R_Brt, "row", "(III)I"⟩
abbrev b_Brt_put : ByteArray := prog_1_method_38_code
def y_Brt_put : MethodName := ⟨R_Brt, "put", "(III)I"⟩
abbrev b_Brt_element : ByteArray := prog_1_method_39_code
def y_Brt_element : MethodName := ⟨R_Brt, "element", "(II)J"⟩
abbrev b_Brt_copy : ByteArray := prog_1_method_40_code
def y_Brt_copy : MethodName := ⟨R_Brt, "copy", "(IIIII)I"⟩
abbrev b_Brt_cost : ByteArray := prog_1_method_41_code
def y_Brt_cost : MethodName := ⟨R_Brt, "cost", "(I)I"⟩
abbrev b_Brt_toss : ByteArray := prog_1_method_42_code
def y_Brt_toss : MethodName := ⟨R_Brt, "toss", "(I)I"⟩
abbrev b_Brt_within : ByteArray := prog_1_method_43_code
def y_Brt_within : MethodName := ⟨R_Brt, "within", "(III)Z"⟩
abbrev b_Brt_isShelf : ByteArray := prog_1_method_44_code
def y_Brt_isShelf : MethodName := ⟨R_Brt, "isShelf", "(I)Z"⟩
abbrev b_Brt_sumOf : ByteArray := prog_1_method_45_code
def y_Brt_sumOf : MethodName := ⟨R_Brt, "sumOf", "([II)I"⟩
abbrev b_Brt_commonDivisor : ByteArray := prog_1_method_46_code
def y_Brt_commonDivisor : MethodName := ⟨R_Brt, "commonDivisor", "(JJ)J"⟩
abbrev b_Brt_refusalOfRow : ByteArray := prog_1_method_47_code
def y_Brt_refusalOfRow : MethodName := ⟨R_Brt, "refusalOfRow", "(I)I"⟩
abbrev b_Brt_refusalOfKind : ByteArray := prog_1_method_48_code
def y_Brt_refusalOfKind : MethodName := ⟨R_Brt, "refusalOfKind", "(I)I"⟩
abbrev b_Brt_refusalUnless : ByteArray := prog_1_method_49_code
def y_Brt_refusalUnless : MethodName := ⟨R_Brt, "refusalUnless", "(II)I"⟩
abbrev b_Brt_refusalOfRock : ByteArray := prog_1_method_50_code
def y_Brt_refusalOfRock : MethodName := ⟨R_Brt, "refusalOfRock", "(II)I"⟩
abbrev b_Brt_firstUnlike : ByteArray := prog_1_method_51_code
def y_Brt_firstUnlike : MethodName := ⟨R_Brt, "firstUnlike", "(ILBreatheOut$Shelf;)I"⟩
abbrev b_Brt_allGo : ByteArray := prog_1_method_52_code
def y_Brt_allGo : MethodName := ⟨R_Brt, "allGo", "()LBreatheOut$Leg;"⟩
abbrev b_Brt_allReturn : ByteArray := prog_1_method_53_code
def y_Brt_allReturn : MethodName := ⟨R_Brt, "allReturn", "(LBreatheOut$Cave;)Z"⟩
abbrev b_Brt_areBackInLight : ByteArray := prog_1_method_54_code
def y_Brt_areBackInLight : MethodName := ⟨R_Brt, "areBackInLight", "(I)Z"⟩
abbrev b_Brt_othersAreBack : ByteArray := prog_1_method_55_code
def y_Brt_othersAreBack : MethodName := ⟨R_Brt, "othersAreBack", "(I)Z"⟩
abbrev b_Brt_panicOf : ByteArray := prog_1_method_56_code
def y_Brt_panicOf : MethodName := ⟨R_Brt, "panicOf", "(I)J"⟩
abbrev b_Brt_pose : ByteArray := prog_1_method_57_code
def y_Brt_pose : MethodName := ⟨R_Brt, "pose", "(II)I"⟩
abbrev b_Mod_init : ByteArray := prog_13_method_1_code
def y_Mod_init : MethodName := ⟨R_Mod, "<init>", "()V"⟩
abbrev b_Mod_isIn : ByteArray := prog_13_method_2_code
def y_Mod_isIn : MethodName := ⟨R_Mod, "isIn", "(III)Z"⟩
abbrev b_Mod_least : ByteArray := prog_13_method_3_code
def y_Mod_least : MethodName := ⟨R_Mod, "least", "(II)I"⟩
abbrev b_Mod_most : ByteArray := prog_13_method_4_code
def y_Mod_most : MethodName := ⟨R_Mod, "most", "(II)I"⟩
abbrev b_Mod_copies : ByteArray := prog_13_method_5_code
def y_Mod_copies : MethodName := ⟨R_Mod, "copies", "([I[I)V"⟩
abbrev b_Mod_atYard : ByteArray := prog_13_method_6_code
def y_Mod_atYard : MethodName := ⟨R_Mod, "atYard", "(II)I"⟩
abbrev b_Mod_atBody : ByteArray := prog_13_method_7_code
def y_Mod_atBody : MethodName := ⟨R_Mod, "atBody", "(II)I"⟩
abbrev b_Mod_isYard : ByteArray := prog_13_method_8_code
def y_Mod_isYard : MethodName := ⟨R_Mod, "isYard", "(I)Z"⟩
abbrev b_Mod_isBody : ByteArray := prog_13_method_9_code
def y_Mod_isBody : MethodName := ⟨R_Mod, "isBody", "(I)Z"⟩
abbrev b_Mod_of : ByteArray := prog_13_method_10_code
def y_Mod_of : MethodName := ⟨R_Mod, "of", "(II)I"⟩
abbrev b_Mod_roomOf : ByteArray := prog_13_method_11_code
def y_Mod_roomOf : MethodName := ⟨R_Mod, "roomOf", "(II)I"⟩
abbrev b_Mod_minutesOf : ByteArray := prog_13_method_12_code
def y_Mod_minutesOf : MethodName := ⟨R_Mod, "minutesOf", "(IZ)I"⟩
abbrev b_Mod_isFeetFirst : ByteArray := prog_13_method_13_code
def y_Mod_isFeetFirst : MethodName := ⟨R_Mod, "isFeetFirst", "(I)Z"⟩
abbrev b_Mod_sizeOf : ByteArray := prog_13_method_14_code
def y_Mod_sizeOf : MethodName := ⟨R_Mod, "sizeOf", "(IIIZ)I"⟩
abbrev b_Mod_sizeNow : ByteArray := prog_13_method_15_code
def y_Mod_sizeNow : MethodName := ⟨R_Mod, "sizeNow", "(IIZ)I"⟩
abbrev b_Mod_hour : ByteArray := prog_13_method_16_code
def y_Mod_hour : MethodName := ⟨R_Mod, "hour", "()I"⟩
abbrev b_Mod_fitsIn : ByteArray := prog_13_method_17_code
def y_Mod_fitsIn : MethodName := ⟨R_Mod, "fitsIn", "(III)I"⟩
abbrev b_Mod_goesWay : ByteArray := prog_13_method_18_code
def y_Mod_goesWay : MethodName := ⟨R_Mod, "goesWay", "(IZI)V"⟩
abbrev b_Mod_wayAlone : ByteArray := prog_13_method_19_code
def y_Mod_wayAlone : MethodName := ⟨R_Mod, "wayAlone", "(IZ)V"⟩
abbrev b_Mod_lines : ByteArray := prog_13_method_20_code
def y_Mod_lines : MethodName := ⟨R_Mod, "lines", "()V"⟩
abbrev b_Mod_pulled : ByteArray := prog_13_method_21_code
def y_Mod_pulled : MethodName := ⟨R_Mod, "pulled", "(II)I"⟩
abbrev b_Mod_goesThere : ByteArray := prog_13_method_22_code
def y_Mod_goesThere : MethodName := ⟨R_Mod, "goesThere", "()V"⟩
abbrev b_Mod_goesThereAndBack : ByteArray := prog_13_method_23_code
def y_Mod_goesThereAndBack : MethodName := ⟨R_Mod, "goesThereAndBack", "()V"⟩
abbrev b_Mod_bits : ByteArray := prog_13_method_24_code
def y_Mod_bits : MethodName := ⟨R_Mod, "bits", "(I)I"⟩
abbrev b_Mod_areAllBack : ByteArray := prog_13_method_25_code
def y_Mod_areAllBack : MethodName := ⟨R_Mod, "areAllBack", "()Z"⟩
abbrev b_Mod_here : ByteArray := prog_13_method_26_code
def y_Mod_here : MethodName := ⟨R_Mod, "here", "()I"⟩
abbrev b_Mod_readsNumber : ByteArray := prog_13_method_27_code
def y_Mod_readsNumber : MethodName := ⟨R_Mod, "readsNumber", "(II)Z"⟩
abbrev b_Mod_readsStatement : ByteArray := prog_13_method_28_code
def y_Mod_readsStatement : MethodName := ⟨R_Mod, "readsStatement", "()Z"⟩
abbrev b_Mod_addsYard : ByteArray := prog_13_method_29_code
def y_Mod_addsYard : MethodName := ⟨R_Mod, "addsYard", "(III)V"⟩
abbrev b_Mod_placeOf : ByteArray := prog_13_method_30_code
def y_Mod_placeOf : MethodName := ⟨R_Mod, "placeOf", "(I)I"⟩
abbrev b_Mod_changes : ByteArray := prog_13_method_31_code
def y_Mod_changes : MethodName := ⟨R_Mod, "changes", "(II)V"⟩
abbrev b_Mod_isDone : ByteArray := prog_13_method_32_code
def y_Mod_isDone : MethodName := ⟨R_Mod, "isDone", "(I)Z"⟩
abbrev b_Mod_cave : ByteArray := prog_13_method_33_code
def y_Mod_cave : MethodName := ⟨R_Mod, "cave", "(I)I"⟩
abbrev b_Mod_yard : ByteArray := prog_13_method_34_code
def y_Mod_yard : MethodName := ⟨R_Mod, "yard", "(II)I"⟩
abbrev b_Mod_body : ByteArray := prog_13_method_35_code
def y_Mod_body : MethodName := ⟨R_Mod, "body", "(II)I"⟩
abbrev b_Mod_lays : ByteArray := prog_13_method_36_code
def y_Mod_lays : MethodName := ⟨R_Mod, "lays", "(II)I"⟩
abbrev b_Mod_shorter : ByteArray := prog_13_method_37_code
def y_Mod_shorter : MethodName := ⟨R_Mod, "shorter", "()I"⟩
abbrev b_Mod_makes : ByteArray := prog_13_method_38_code
def y_Mod_makes : MethodName := ⟨R_Mod, "makes", "(III)I"⟩
abbrev b_Mod_change : ByteArray := prog_13_method_39_code
def y_Mod_change : MethodName := ⟨R_Mod, "change", "(II)I"⟩
abbrev b_Mod_set : ByteArray := prog_13_method_40_code
def y_Mod_set : MethodName := ⟨R_Mod, "set", "(II)I"⟩
abbrev b_Mod_waits : ByteArray := prog_13_method_41_code
def y_Mod_waits : MethodName := ⟨R_Mod, "waits", "(I)I"⟩
abbrev b_Mod_size : ByteArray := prog_13_method_42_code
def y_Mod_size : MethodName := ⟨R_Mod, "size", "(IIII)I"⟩
abbrev b_Mod_fits : ByteArray := prog_13_method_43_code
def y_Mod_fits : MethodName := ⟨R_Mod, "fits", "(II)I"⟩
abbrev b_Mod_way : ByteArray := prog_13_method_44_code
def y_Mod_way : MethodName := ⟨R_Mod, "way", "(III)I"⟩
abbrev b_Mod_posture : ByteArray := prog_13_method_45_code
def y_Mod_posture : MethodName := ⟨R_Mod, "posture", "(I)I"⟩
abbrev b_Mod_lacks : ByteArray := prog_13_method_46_code
def y_Mod_lacks : MethodName := ⟨R_Mod, "lacks", "(I)I"⟩
abbrev b_Mod_widest : ByteArray := prog_13_method_47_code
def y_Mod_widest : MethodName := ⟨R_Mod, "widest", "(I)I"⟩
abbrev b_Mod_go : ByteArray := prog_13_method_48_code
def y_Mod_go : MethodName := ⟨R_Mod, "go", "(I)I"⟩
abbrev b_Mod_back : ByteArray := prog_13_method_49_code
def y_Mod_back : MethodName := ⟨R_Mod, "back", "(I)I"⟩
abbrev b_Mod_help : ByteArray := prog_13_method_50_code
def y_Mod_help : MethodName := ⟨R_Mod, "help", "(I)I"⟩
abbrev b_Mod_eachOrder : ByteArray := prog_13_method_51_code
def y_Mod_eachOrder : MethodName := ⟨R_Mod, "eachOrder", "(II)V"⟩
abbrev b_Mod_order : ByteArray := prog_13_method_52_code
def y_Mod_order : MethodName := ⟨R_Mod, "order", "(I)I"⟩
abbrev b_Mod_stays : ByteArray := prog_13_method_53_code
def y_Mod_stays : MethodName := ⟨R_Mod, "stays", "()I"⟩
abbrev b_Mod_calms : ByteArray := prog_13_method_54_code
def y_Mod_calms : MethodName := ⟨R_Mod, "calms", "(I)I"⟩
abbrev b_Mod_eachDeed : ByteArray := prog_13_method_55_code
def y_Mod_eachDeed : MethodName := ⟨R_Mod, "eachDeed", "(IIIIII)V"⟩
abbrev b_Mod_rescue : ByteArray := prog_13_method_56_code
def y_Mod_rescue : MethodName := ⟨R_Mod, "rescue", "(IIII)I"⟩
abbrev b_Mod_turns : ByteArray := prog_13_method_57_code
def y_Mod_turns : MethodName := ⟨R_Mod, "turns", "()I"⟩
abbrev b_Mod_floods : ByteArray := prog_13_method_58_code
def y_Mod_floods : MethodName := ⟨R_Mod, "floods", "(II)I"⟩
abbrev b_Mod_haste : ByteArray := prog_13_method_59_code
def y_Mod_haste : MethodName := ⟨R_Mod, "haste", "()I"⟩
abbrev b_Mod_gcd : ByteArray := prog_13_method_60_code
def y_Mod_gcd : MethodName := ⟨R_Mod, "gcd", "(JJ)J"⟩
abbrev b_Mod_panic : ByteArray := prog_13_method_61_code
def y_Mod_panic : MethodName := ⟨R_Mod, "panic", "(I)J"⟩
abbrev b_Mod_firstWays : ByteArray := prog_13_method_62_code
def y_Mod_firstWays : MethodName := ⟨R_Mod, "firstWays", "()I"⟩
abbrev b_Mod_leastOf : ByteArray := prog_13_method_63_code
def y_Mod_leastOf : MethodName := ⟨R_Mod, "leastOf", "(I)I"⟩
abbrev b_Mod_wrongRock : ByteArray := prog_13_method_64_code
def y_Mod_wrongRock : MethodName := ⟨R_Mod, "wrongRock", "(III)I"⟩
abbrev b_Mod_wrongRocks : ByteArray := prog_13_method_65_code
def y_Mod_wrongRocks : MethodName := ⟨R_Mod, "wrongRocks", "(II)I"⟩
abbrev b_Mod_rock : ByteArray := prog_13_method_66_code
def y_Mod_rock : MethodName := ⟨R_Mod, "rock", "(III)I"⟩
abbrev b_Mod_forged : ByteArray := prog_13_method_67_code
def y_Mod_forged : MethodName := ⟨R_Mod, "forged", "(II)I"⟩
abbrev b_Mod_judge : ByteArray := prog_13_method_68_code
def y_Mod_judge : MethodName := ⟨R_Mod, "judge", "(I)I"⟩
abbrev b_Mod_drawn : ByteArray := prog_13_method_69_code
def y_Mod_drawn : MethodName := ⟨R_Mod, "drawn", "(I)I"⟩
abbrev b_Mod_parties : ByteArray := prog_13_method_70_code
def y_Mod_parties : MethodName := ⟨R_Mod, "parties", "(III)I"⟩
abbrev b_Mod_image : ByteArray := prog_13_method_71_code
def y_Mod_image : MethodName := ⟨R_Mod, "image", "()I"⟩
abbrev b_Mod_restore : ByteArray := prog_13_method_72_code
def y_Mod_restore : MethodName := ⟨R_Mod, "restore", "()I"⟩
abbrev b_Mod_count : ByteArray := prog_13_method_73_code
def y_Mod_count : MethodName := ⟨R_Mod, "count", "(I)I"⟩
abbrev b_Mod_thrown : ByteArray := prog_13_method_74_code
def y_Mod_thrown : MethodName := ⟨R_Mod, "thrown", "()I"⟩
abbrev b_Mod_isShelf : ByteArray := prog_13_method_75_code
def y_Mod_isShelf : MethodName := ⟨R_Mod, "isShelf", "(I)Z"⟩
abbrev b_Mod_wrongRow : ByteArray := prog_13_method_76_code
def y_Mod_wrongRow : MethodName := ⟨R_Mod, "wrongRow", "(II)I"⟩
abbrev b_Mod_wrongKept : ByteArray := prog_13_method_77_code
def y_Mod_wrongKept : MethodName := ⟨R_Mod, "wrongKept", "(I)I"⟩
abbrev b_Mod_keep : ByteArray := prog_13_method_78_code
def y_Mod_keep : MethodName := ⟨R_Mod, "keep", "(IIII)I"⟩
abbrev b_Mod_row : ByteArray := prog_13_method_79_code
def y_Mod_row : MethodName := ⟨R_Mod, "row", "(III)I"⟩
abbrev b_Mod_put : ByteArray := prog_13_method_80_code
def y_Mod_put : MethodName := ⟨R_Mod, "put", "(III)I"⟩
abbrev b_Mod_element : ByteArray := prog_13_method_81_code
def y_Mod_element : MethodName := ⟨R_Mod, "element", "(II)J"⟩
abbrev b_Mod_copy : ByteArray := prog_13_method_82_code
def y_Mod_copy : MethodName := ⟨R_Mod, "copy", "(IIIII)I"⟩
abbrev b_Mod_costBy : ByteArray := prog_13_method_83_code
def y_Mod_costBy : MethodName := ⟨R_Mod, "costBy", "(II)I"⟩
abbrev b_Mod_cost : ByteArray := prog_13_method_84_code
def y_Mod_cost : MethodName := ⟨R_Mod, "cost", "(I)I"⟩
abbrev b_Mod_toss : ByteArray := prog_13_method_85_code
def y_Mod_toss : MethodName := ⟨R_Mod, "toss", "(I)I"⟩
abbrev b_Int_bitCount : ByteArray := prog_17_method_49_code
def y_Int_bitCount : MethodName := ⟨R_Int, "bitCount", "(I)I"⟩
abbrev b_Mat_max : ByteArray := prog_18_method_65_code
def y_Mat_max : MethodName := ⟨R_Mat, "max", "(II)I"⟩
abbrev b_Mat_min : ByteArray := prog_18_method_69_code
def y_Mat_min : MethodName := ⟨R_Mat, "min", "(II)I"⟩
abbrev b_Arr_fill : ByteArray := prog_24_method_103_code
def y_Arr_fill : MethodName := ⟨R_Arr, "fill", "([II)V"⟩
abbrev b_Law_element : ByteArray := method_3_code
def y_Law_element : MethodName := ⟨R_Law, "element", "(LBreatheOut;II[J)I"⟩
abbrev b_Law_law : ByteArray := code
def y_Law_law : MethodName := ⟨R_Law, "law", "([I)Z"⟩
end
