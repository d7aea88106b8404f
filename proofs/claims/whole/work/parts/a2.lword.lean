/-! THE LAW: the words of its calls -/
theorem ml_Law_21 : Cond.methodLink R_Law 21 y_Brt_cave ∈ tbl := tbl_at 390 (by decide +kernel) rfl
set_option maxRecDepth 100000 in
theorem cw_Brt_cave : CwV y_Brt_cave b_Brt_cave 7 (some FieldType.int) 1 := ⟨tbl_at 391 (by decide +kernel) rfl, tbl_at 392 (by decide +kernel) rfl, tbl_at 48 (by decide +kernel) rfl, tbl_at 393 rfl rfl, by decide +kernel, by decide +kernel, by decide +kernel⟩
theorem ml_Law_25 : Cond.methodLink R_Law 25 y_Mod_cave ∈ tbl := tbl_at 1116 (by decide +kernel) rfl
set_option maxRecDepth 100000 in
theorem cw_Mod_cave : CwV y_Mod_cave b_Mod_cave 8 (some FieldType.int) 1 := ⟨tbl_at 1117 (by decide +kernel) rfl, tbl_at 1118 (by decide +kernel) rfl, tbl_at 57 (by decide +kernel) rfl, tbl_at 1119 rfl rfl, by decide +kernel, by decide +kernel, by decide +kernel⟩
theorem ml_Law_26 : Cond.methodLink R_Law 26 y_Brt_yard ∈ tbl := tbl_at 490 (by decide +kernel) rfl
set_option maxRecDepth 100000 in
theorem cw_Brt_yard : CwV y_Brt_yard b_Brt_yard 4 (some FieldType.int) 2 := ⟨tbl_at 491 (by decide +kernel) rfl, tbl_at 492 (by decide +kernel) rfl, tbl_at 48 (by decide +kernel) rfl, tbl_at 493 rfl rfl, by decide +kernel, by decide +kernel, by decide +kernel⟩
theorem ml_Law_30 : Cond.methodLink R_Law 30 y_Mod_yard ∈ tbl := tbl_at 1171 (by decide +kernel) rfl
set_option maxRecDepth 100000 in
theorem cw_Mod_yard : CwV y_Mod_yard b_Mod_yard 3 (some FieldType.int) 2 := ⟨tbl_at 1172 (by decide +kernel) rfl, tbl_at 1173 (by decide +kernel) rfl, tbl_at 57 (by decide +kernel) rfl, tbl_at 1174 rfl rfl, by decide +kernel, by decide +kernel, by decide +kernel⟩
theorem ml_Law_31 : Cond.methodLink R_Law 31 y_Brt_body ∈ tbl := tbl_at 507 (by decide +kernel) rfl
set_option maxRecDepth 100000 in
theorem cw_Brt_body : CwV y_Brt_body b_Brt_body 4 (some FieldType.int) 2 := ⟨tbl_at 508 (by decide +kernel) rfl, tbl_at 509 (by decide +kernel) rfl, tbl_at 48 (by decide +kernel) rfl, tbl_at 510 rfl rfl, by decide +kernel, by decide +kernel, by decide +kernel⟩
theorem ml_Law_34 : Cond.methodLink R_Law 34 y_Mod_body ∈ tbl := tbl_at 1194 (by decide +kernel) rfl
set_option maxRecDepth 100000 in
theorem cw_Mod_body : CwV y_Mod_body b_Mod_body 3 (some FieldType.int) 2 := ⟨tbl_at 1195 (by decide +kernel) rfl, tbl_at 1196 (by decide +kernel) rfl, tbl_at 57 (by decide +kernel) rfl, tbl_at 1197 rfl rfl, by decide +kernel, by decide +kernel, by decide +kernel⟩
theorem ml_Law_35 : Cond.methodLink R_Law 35 y_Brt_lays ∈ tbl := tbl_at 516 (by decide +kernel) rfl
set_option maxRecDepth 100000 in
theorem cw_Brt_lays : CwV y_Brt_lays b_Brt_lays 4 (some FieldType.int) 2 := ⟨tbl_at 517 (by decide +kernel) rfl, tbl_at 518 (by decide +kernel) rfl, tbl_at 48 (by decide +kernel) rfl, tbl_at 519 rfl rfl, by decide +kernel, by decide +kernel, by decide +kernel⟩
theorem ml_Law_38 : Cond.methodLink R_Law 38 y_Mod_lays ∈ tbl := tbl_at 1202 (by decide +kernel) rfl
set_option maxRecDepth 100000 in
theorem cw_Mod_lays : CwV y_Mod_lays b_Mod_lays 4 (some FieldType.int) 2 := ⟨tbl_at 1203 (by decide +kernel) rfl, tbl_at 1204 (by decide +kernel) rfl, tbl_at 57 (by decide +kernel) rfl, tbl_at 1205 rfl rfl, by decide +kernel, by decide +kernel, by decide +kernel⟩
theorem ml_Law_39 : Cond.methodLink R_Law 39 y_Brt_shorter ∈ tbl := tbl_at 526 (by decide +kernel) rfl
set_option maxRecDepth 100000 in
theorem cw_Brt_shorter : CwV y_Brt_shorter b_Brt_shorter 1 (some FieldType.int) 0 := ⟨tbl_at 527 (by decide +kernel) rfl, tbl_at 528 (by decide +kernel) rfl, tbl_at 48 (by decide +kernel) rfl, tbl_at 529 rfl rfl, by decide +kernel, by decide +kernel, by decide +kernel⟩
theorem ml_Law_43 : Cond.methodLink R_Law 43 y_Mod_shorter ∈ tbl := tbl_at 1210 (by decide +kernel) rfl
set_option maxRecDepth 100000 in
theorem cw_Mod_shorter : CwV y_Mod_shorter b_Mod_shorter 1 (some FieldType.int) 0 := ⟨tbl_at 1211 (by decide +kernel) rfl, tbl_at 1212 (by decide +kernel) rfl, tbl_at 57 (by decide +kernel) rfl, tbl_at 1213 rfl rfl, by decide +kernel, by decide +kernel, by decide +kernel⟩
theorem ml_Law_44 : Cond.methodLink R_Law 44 y_Brt_makes ∈ tbl := tbl_at 530 (by decide +kernel) rfl
set_option maxRecDepth 100000 in
theorem cw_Brt_makes : CwV y_Brt_makes b_Brt_makes 5 (some FieldType.int) 3 := ⟨tbl_at 531 (by decide +kernel) rfl, tbl_at 532 (by decide +kernel) rfl, tbl_at 48 (by decide +kernel) rfl, tbl_at 533 rfl rfl, by decide +kernel, by decide +kernel, by decide +kernel⟩
theorem ml_Law_48 : Cond.methodLink R_Law 48 y_Mod_makes ∈ tbl := tbl_at 1214 (by decide +kernel) rfl
set_option maxRecDepth 100000 in
theorem cw_Mod_makes : CwV y_Mod_makes b_Mod_makes 6 (some FieldType.int) 3 := ⟨tbl_at 1215 (by decide +kernel) rfl, tbl_at 1216 (by decide +kernel) rfl, tbl_at 57 (by decide +kernel) rfl, tbl_at 1217 rfl rfl, by decide +kernel, by decide +kernel, by decide +kernel⟩
theorem ml_Law_49 : Cond.methodLink R_Law 49 y_Brt_change ∈ tbl := tbl_at 539 (by decide +kernel) rfl
set_option maxRecDepth 100000 in
theorem cw_Brt_change : CwV y_Brt_change b_Brt_change 3 (some FieldType.int) 2 := ⟨tbl_at 540 (by decide +kernel) rfl, tbl_at 541 (by decide +kernel) rfl, tbl_at 48 (by decide +kernel) rfl, tbl_at 542 rfl rfl, by decide +kernel, by decide +kernel, by decide +kernel⟩
theorem ml_Law_52 : Cond.methodLink R_Law 52 y_Mod_change ∈ tbl := tbl_at 1218 (by decide +kernel) rfl
set_option maxRecDepth 100000 in
theorem cw_Mod_change : CwV y_Mod_change b_Mod_change 3 (some FieldType.int) 2 := ⟨tbl_at 1219 (by decide +kernel) rfl, tbl_at 1220 (by decide +kernel) rfl, tbl_at 57 (by decide +kernel) rfl, tbl_at 1221 rfl rfl, by decide +kernel, by decide +kernel, by decide +kernel⟩
theorem ml_Law_53 : Cond.methodLink R_Law 53 y_Brt_set ∈ tbl := tbl_at 544 (by decide +kernel) rfl
set_option maxRecDepth 100000 in
theorem cw_Brt_set : CwV y_Brt_set b_Brt_set 4 (some FieldType.int) 2 := ⟨tbl_at 545 (by decide +kernel) rfl, tbl_at 546 (by decide +kernel) rfl, tbl_at 48 (by decide +kernel) rfl, tbl_at 547 rfl rfl, by decide +kernel, by decide +kernel, by decide +kernel⟩
theorem ml_Law_56 : Cond.methodLink R_Law 56 y_Mod_set ∈ tbl := tbl_at 1222 (by decide +kernel) rfl
set_option maxRecDepth 100000 in
theorem cw_Mod_set : CwV y_Mod_set b_Mod_set 4 (some FieldType.int) 2 := ⟨tbl_at 1223 (by decide +kernel) rfl, tbl_at 1224 (by decide +kernel) rfl, tbl_at 57 (by decide +kernel) rfl, tbl_at 1225 rfl rfl, by decide +kernel, by decide +kernel, by decide +kernel⟩
theorem ml_Law_57 : Cond.methodLink R_Law 57 y_Brt_waits ∈ tbl := tbl_at 553 (by decide +kernel) rfl
set_option maxRecDepth 100000 in
theorem cw_Brt_waits : CwV y_Brt_waits b_Brt_waits 2 (some FieldType.int) 1 := ⟨tbl_at 554 (by decide +kernel) rfl, tbl_at 555 (by decide +kernel) rfl, tbl_at 48 (by decide +kernel) rfl, tbl_at 556 rfl rfl, by decide +kernel, by decide +kernel, by decide +kernel⟩
theorem ml_Law_60 : Cond.methodLink R_Law 60 y_Mod_waits ∈ tbl := tbl_at 1226 (by decide +kernel) rfl
set_option maxRecDepth 100000 in
theorem cw_Mod_waits : CwV y_Mod_waits b_Mod_waits 2 (some FieldType.int) 1 := ⟨tbl_at 1227 (by decide +kernel) rfl, tbl_at 1228 (by decide +kernel) rfl, tbl_at 57 (by decide +kernel) rfl, tbl_at 1229 rfl rfl, by decide +kernel, by decide +kernel, by decide +kernel⟩
theorem ml_Law_61 : Cond.methodLink R_Law 61 y_Brt_size ∈ tbl := tbl_at 558 (by decide +kernel) rfl
set_option maxRecDepth 100000 in
theorem cw_Brt_size : CwV y_Brt_size b_Brt_size 5 (some FieldType.int) 4 := ⟨tbl_at 559 (by decide +kernel) rfl, tbl_at 560 (by decide +kernel) rfl, tbl_at 48 (by decide +kernel) rfl, tbl_at 561 rfl rfl, by decide +kernel, by decide +kernel, by decide +kernel⟩
theorem ml_Law_65 : Cond.methodLink R_Law 65 y_Mod_size ∈ tbl := tbl_at 1230 (by decide +kernel) rfl
set_option maxRecDepth 100000 in
theorem cw_Mod_size : CwV y_Mod_size b_Mod_size 5 (some FieldType.int) 4 := ⟨tbl_at 1231 (by decide +kernel) rfl, tbl_at 1232 (by decide +kernel) rfl, tbl_at 57 (by decide +kernel) rfl, tbl_at 1233 rfl rfl, by decide +kernel, by decide +kernel, by decide +kernel⟩
theorem ml_Law_66 : Cond.methodLink R_Law 66 y_Brt_fits ∈ tbl := tbl_at 576 (by decide +kernel) rfl
set_option maxRecDepth 100000 in
theorem cw_Brt_fits : CwV y_Brt_fits b_Brt_fits 3 (some FieldType.int) 2 := ⟨tbl_at 577 (by decide +kernel) rfl, tbl_at 578 (by decide +kernel) rfl, tbl_at 48 (by decide +kernel) rfl, tbl_at 579 rfl rfl, by decide +kernel, by decide +kernel, by decide +kernel⟩
theorem ml_Law_69 : Cond.methodLink R_Law 69 y_Mod_fits ∈ tbl := tbl_at 1241 (by decide +kernel) rfl
set_option maxRecDepth 100000 in
theorem cw_Mod_fits : CwV y_Mod_fits b_Mod_fits 3 (some FieldType.int) 2 := ⟨tbl_at 1242 (by decide +kernel) rfl, tbl_at 1243 (by decide +kernel) rfl, tbl_at 57 (by decide +kernel) rfl, tbl_at 1244 rfl rfl, by decide +kernel, by decide +kernel, by decide +kernel⟩
theorem ml_Law_70 : Cond.methodLink R_Law 70 y_Brt_way ∈ tbl := tbl_at 592 (by decide +kernel) rfl
set_option maxRecDepth 100000 in
theorem cw_Brt_way : CwV y_Brt_way b_Brt_way 5 (some FieldType.int) 3 := ⟨tbl_at 593 (by decide +kernel) rfl, tbl_at 594 (by decide +kernel) rfl, tbl_at 48 (by decide +kernel) rfl, tbl_at 595 rfl rfl, by decide +kernel, by decide +kernel, by decide +kernel⟩
theorem ml_Law_73 : Cond.methodLink R_Law 73 y_Mod_way ∈ tbl := tbl_at 1253 (by decide +kernel) rfl
set_option maxRecDepth 100000 in
theorem cw_Mod_way : CwV y_Mod_way b_Mod_way 4 (some FieldType.int) 3 := ⟨tbl_at 1254 (by decide +kernel) rfl, tbl_at 1255 (by decide +kernel) rfl, tbl_at 57 (by decide +kernel) rfl, tbl_at 1256 rfl rfl, by decide +kernel, by decide +kernel, by decide +kernel⟩
theorem ml_Law_74 : Cond.methodLink R_Law 74 y_Brt_posture ∈ tbl := tbl_at 617 (by decide +kernel) rfl
set_option maxRecDepth 100000 in
theorem cw_Brt_posture : CwV y_Brt_posture b_Brt_posture 6 (some FieldType.int) 1 := ⟨tbl_at 618 (by decide +kernel) rfl, tbl_at 619 (by decide +kernel) rfl, tbl_at 48 (by decide +kernel) rfl, tbl_at 620 rfl rfl, by decide +kernel, by decide +kernel, by decide +kernel⟩
theorem ml_Law_77 : Cond.methodLink R_Law 77 y_Mod_posture ∈ tbl := tbl_at 1265 (by decide +kernel) rfl
set_option maxRecDepth 100000 in
theorem cw_Mod_posture : CwV y_Mod_posture b_Mod_posture 6 (some FieldType.int) 1 := ⟨tbl_at 1266 (by decide +kernel) rfl, tbl_at 1267 (by decide +kernel) rfl, tbl_at 57 (by decide +kernel) rfl, tbl_at 1268 rfl rfl, by decide +kernel, by decide +kernel, by decide +kernel⟩
theorem ml_Law_78 : Cond.methodLink R_Law 78 y_Brt_lacks ∈ tbl := tbl_at 622 (by decide +kernel) rfl
set_option maxRecDepth 100000 in
theorem cw_Brt_lacks : CwV y_Brt_lacks b_Brt_lacks 4 (some FieldType.int) 1 := ⟨tbl_at 623 (by decide +kernel) rfl, tbl_at 624 (by decide +kernel) rfl, tbl_at 48 (by decide +kernel) rfl, tbl_at 625 rfl rfl, by decide +kernel, by decide +kernel, by decide +kernel⟩
theorem ml_Law_81 : Cond.methodLink R_Law 81 y_Mod_lacks ∈ tbl := tbl_at 1270 (by decide +kernel) rfl
set_option maxRecDepth 100000 in
theorem cw_Mod_lacks : CwV y_Mod_lacks b_Mod_lacks 4 (some FieldType.int) 1 := ⟨tbl_at 1271 (by decide +kernel) rfl, tbl_at 1272 (by decide +kernel) rfl, tbl_at 57 (by decide +kernel) rfl, tbl_at 1273 rfl rfl, by decide +kernel, by decide +kernel, by decide +kernel⟩
theorem ml_Law_82 : Cond.methodLink R_Law 82 y_Brt_widest ∈ tbl := tbl_at 628 (by decide +kernel) rfl
set_option maxRecDepth 100000 in
theorem cw_Brt_widest : CwV y_Brt_widest b_Brt_widest 3 (some FieldType.int) 1 := ⟨tbl_at 629 (by decide +kernel) rfl, tbl_at 630 (by decide +kernel) rfl, tbl_at 48 (by decide +kernel) rfl, tbl_at 631 rfl rfl, by decide +kernel, by decide +kernel, by decide +kernel⟩
theorem ml_Law_85 : Cond.methodLink R_Law 85 y_Mod_widest ∈ tbl := tbl_at 1274 (by decide +kernel) rfl
set_option maxRecDepth 100000 in
theorem cw_Mod_widest : CwV y_Mod_widest b_Mod_widest 5 (some FieldType.int) 1 := ⟨tbl_at 1275 (by decide +kernel) rfl, tbl_at 1276 (by decide +kernel) rfl, tbl_at 57 (by decide +kernel) rfl, tbl_at 1277 rfl rfl, by decide +kernel, by decide +kernel, by decide +kernel⟩
theorem ml_Law_86 : Cond.methodLink R_Law 86 y_Brt_go ∈ tbl := tbl_at 632 (by decide +kernel) rfl
set_option maxRecDepth 100000 in
theorem cw_Brt_go : CwV y_Brt_go b_Brt_go 3 (some FieldType.int) 1 := ⟨tbl_at 633 (by decide +kernel) rfl, tbl_at 634 (by decide +kernel) rfl, tbl_at 48 (by decide +kernel) rfl, tbl_at 635 rfl rfl, by decide +kernel, by decide +kernel, by decide +kernel⟩
theorem ml_Law_89 : Cond.methodLink R_Law 89 y_Mod_go ∈ tbl := tbl_at 1278 (by decide +kernel) rfl
set_option maxRecDepth 100000 in
theorem cw_Mod_go : CwV y_Mod_go b_Mod_go 2 (some FieldType.int) 1 := ⟨tbl_at 1279 (by decide +kernel) rfl, tbl_at 1280 (by decide +kernel) rfl, tbl_at 57 (by decide +kernel) rfl, tbl_at 1281 rfl rfl, by decide +kernel, by decide +kernel, by decide +kernel⟩
theorem ml_Law_90 : Cond.methodLink R_Law 90 y_Brt_back ∈ tbl := tbl_at 641 (by decide +kernel) rfl
set_option maxRecDepth 100000 in
theorem cw_Brt_back : CwV y_Brt_back b_Brt_back 2 (some FieldType.int) 1 := ⟨tbl_at 642 (by decide +kernel) rfl, tbl_at 643 (by decide +kernel) rfl, tbl_at 48 (by decide +kernel) rfl, tbl_at 644 rfl rfl, by decide +kernel, by decide +kernel, by decide +kernel⟩
theorem ml_Law_93 : Cond.methodLink R_Law 93 y_Mod_back ∈ tbl := tbl_at 1294 (by decide +kernel) rfl
set_option maxRecDepth 100000 in
theorem cw_Mod_back : CwV y_Mod_back b_Mod_back 2 (some FieldType.int) 1 := ⟨tbl_at 1295 (by decide +kernel) rfl, tbl_at 1296 (by decide +kernel) rfl, tbl_at 57 (by decide +kernel) rfl, tbl_at 1297 rfl rfl, by decide +kernel, by decide +kernel, by decide +kernel⟩
theorem ml_Law_94 : Cond.methodLink R_Law 94 y_Brt_help ∈ tbl := tbl_at 658 (by decide +kernel) rfl
set_option maxRecDepth 100000 in
theorem cw_Brt_help : CwV y_Brt_help b_Brt_help 6 (some FieldType.int) 1 := ⟨tbl_at 659 (by decide +kernel) rfl, tbl_at 660 (by decide +kernel) rfl, tbl_at 48 (by decide +kernel) rfl, tbl_at 661 rfl rfl, by decide +kernel, by decide +kernel, by decide +kernel⟩
theorem ml_Law_97 : Cond.methodLink R_Law 97 y_Mod_help ∈ tbl := tbl_at 1302 (by decide +kernel) rfl
set_option maxRecDepth 100000 in
theorem cw_Mod_help : CwV y_Mod_help b_Mod_help 3 (some FieldType.int) 1 := ⟨tbl_at 1303 (by decide +kernel) rfl, tbl_at 1304 (by decide +kernel) rfl, tbl_at 57 (by decide +kernel) rfl, tbl_at 1305 rfl rfl, by decide +kernel, by decide +kernel, by decide +kernel⟩
theorem ml_Law_98 : Cond.methodLink R_Law 98 y_Brt_order ∈ tbl := tbl_at 662 (by decide +kernel) rfl
set_option maxRecDepth 100000 in
theorem cw_Brt_order : CwV y_Brt_order b_Brt_order 2 (some FieldType.int) 1 := ⟨tbl_at 663 (by decide +kernel) rfl, tbl_at 664 (by decide +kernel) rfl, tbl_at 48 (by decide +kernel) rfl, tbl_at 665 rfl rfl, by decide +kernel, by decide +kernel, by decide +kernel⟩
theorem ml_Law_101 : Cond.methodLink R_Law 101 y_Mod_order ∈ tbl := tbl_at 1306 (by decide +kernel) rfl
set_option maxRecDepth 100000 in
theorem cw_Mod_order : CwV y_Mod_order b_Mod_order 2 (some FieldType.int) 1 := ⟨tbl_at 1307 (by decide +kernel) rfl, tbl_at 1308 (by decide +kernel) rfl, tbl_at 57 (by decide +kernel) rfl, tbl_at 1309 rfl rfl, by decide +kernel, by decide +kernel, by decide +kernel⟩
theorem ml_Law_102 : Cond.methodLink R_Law 102 y_Brt_stays ∈ tbl := tbl_at 684 (by decide +kernel) rfl
set_option maxRecDepth 100000 in
theorem cw_Brt_stays : CwV y_Brt_stays b_Brt_stays 6 (some FieldType.int) 0 := ⟨tbl_at 685 (by decide +kernel) rfl, tbl_at 686 (by decide +kernel) rfl, tbl_at 48 (by decide +kernel) rfl, tbl_at 687 rfl rfl, by decide +kernel, by decide +kernel, by decide +kernel⟩
theorem ml_Law_105 : Cond.methodLink R_Law 105 y_Mod_stays ∈ tbl := tbl_at 1317 (by decide +kernel) rfl
set_option maxRecDepth 100000 in
theorem cw_Mod_stays : CwV y_Mod_stays b_Mod_stays 3 (some FieldType.int) 0 := ⟨tbl_at 1318 (by decide +kernel) rfl, tbl_at 1319 (by decide +kernel) rfl, tbl_at 57 (by decide +kernel) rfl, tbl_at 1320 rfl rfl, by decide +kernel, by decide +kernel, by decide +kernel⟩
theorem ml_Law_106 : Cond.methodLink R_Law 106 y_Brt_calms ∈ tbl := tbl_at 698 (by decide +kernel) rfl
set_option maxRecDepth 100000 in
theorem cw_Brt_calms : CwV y_Brt_calms b_Brt_calms 4 (some FieldType.int) 1 := ⟨tbl_at 699 (by decide +kernel) rfl, tbl_at 700 (by decide +kernel) rfl, tbl_at 48 (by decide +kernel) rfl, tbl_at 701 rfl rfl, by decide +kernel, by decide +kernel, by decide +kernel⟩
theorem ml_Law_109 : Cond.methodLink R_Law 109 y_Mod_calms ∈ tbl := tbl_at 1325 (by decide +kernel) rfl
set_option maxRecDepth 100000 in
theorem cw_Mod_calms : CwV y_Mod_calms b_Mod_calms 5 (some FieldType.int) 1 := ⟨tbl_at 1326 (by decide +kernel) rfl, tbl_at 1327 (by decide +kernel) rfl, tbl_at 57 (by decide +kernel) rfl, tbl_at 1328 rfl rfl, by decide +kernel, by decide +kernel, by decide +kernel⟩
theorem ml_Law_110 : Cond.methodLink R_Law 110 y_Brt_rescue ∈ tbl := tbl_at 702 (by decide +kernel) rfl
set_option maxRecDepth 100000 in
theorem cw_Brt_rescue : CwV y_Brt_rescue b_Brt_rescue 5 (some FieldType.int) 4 := ⟨tbl_at 703 (by decide +kernel) rfl, tbl_at 704 (by decide +kernel) rfl, tbl_at 48 (by decide +kernel) rfl, tbl_at 705 rfl rfl, by decide +kernel, by decide +kernel, by decide +kernel⟩
theorem ml_Law_113 : Cond.methodLink R_Law 113 y_Mod_rescue ∈ tbl := tbl_at 1329 (by decide +kernel) rfl
set_option maxRecDepth 100000 in
theorem cw_Mod_rescue : CwV y_Mod_rescue b_Mod_rescue 6 (some FieldType.int) 4 := ⟨tbl_at 1330 (by decide +kernel) rfl, tbl_at 1331 (by decide +kernel) rfl, tbl_at 57 (by decide +kernel) rfl, tbl_at 1332 rfl rfl, by decide +kernel, by decide +kernel, by decide +kernel⟩
theorem ml_Law_114 : Cond.methodLink R_Law 114 y_Brt_turns ∈ tbl := tbl_at 731 (by decide +kernel) rfl
set_option maxRecDepth 100000 in
theorem cw_Brt_turns : CwV y_Brt_turns b_Brt_turns 6 (some FieldType.int) 0 := ⟨tbl_at 732 (by decide +kernel) rfl, tbl_at 733 (by decide +kernel) rfl, tbl_at 48 (by decide +kernel) rfl, tbl_at 734 rfl rfl, by decide +kernel, by decide +kernel, by decide +kernel⟩
theorem ml_Law_117 : Cond.methodLink R_Law 117 y_Mod_turns ∈ tbl := tbl_at 1340 (by decide +kernel) rfl
set_option maxRecDepth 100000 in
theorem cw_Mod_turns : CwV y_Mod_turns b_Mod_turns 4 (some FieldType.int) 0 := ⟨tbl_at 1341 (by decide +kernel) rfl, tbl_at 1342 (by decide +kernel) rfl, tbl_at 57 (by decide +kernel) rfl, tbl_at 1343 rfl rfl, by decide +kernel, by decide +kernel, by decide +kernel⟩
theorem ml_Law_118 : Cond.methodLink R_Law 118 y_Brt_floods ∈ tbl := tbl_at 740 (by decide +kernel) rfl
set_option maxRecDepth 100000 in
theorem cw_Brt_floods : CwV y_Brt_floods b_Brt_floods 6 (some FieldType.int) 2 := ⟨tbl_at 741 (by decide +kernel) rfl, tbl_at 742 (by decide +kernel) rfl, tbl_at 48 (by decide +kernel) rfl, tbl_at 743 rfl rfl, by decide +kernel, by decide +kernel, by decide +kernel⟩
theorem ml_Law_121 : Cond.methodLink R_Law 121 y_Mod_floods ∈ tbl := tbl_at 1344 (by decide +kernel) rfl
set_option maxRecDepth 100000 in
theorem cw_Mod_floods : CwV y_Mod_floods b_Mod_floods 5 (some FieldType.int) 2 := ⟨tbl_at 1345 (by decide +kernel) rfl, tbl_at 1346 (by decide +kernel) rfl, tbl_at 57 (by decide +kernel) rfl, tbl_at 1347 rfl rfl, by decide +kernel, by decide +kernel, by decide +kernel⟩
theorem ml_Law_122 : Cond.methodLink R_Law 122 y_Brt_haste ∈ tbl := tbl_at 744 (by decide +kernel) rfl
set_option maxRecDepth 100000 in
theorem cw_Brt_haste : CwV y_Brt_haste b_Brt_haste 2 (some FieldType.int) 0 := ⟨tbl_at 745 (by decide +kernel) rfl, tbl_at 746 (by decide +kernel) rfl, tbl_at 48 (by decide +kernel) rfl, tbl_at 747 rfl rfl, by decide +kernel, by decide +kernel, by decide +kernel⟩
theorem ml_Law_125 : Cond.methodLink R_Law 125 y_Mod_haste ∈ tbl := tbl_at 1348 (by decide +kernel) rfl
set_option maxRecDepth 100000 in
theorem cw_Mod_haste : CwV y_Mod_haste b_Mod_haste 3 (some FieldType.int) 0 := ⟨tbl_at 1349 (by decide +kernel) rfl, tbl_at 1350 (by decide +kernel) rfl, tbl_at 57 (by decide +kernel) rfl, tbl_at 1351 rfl rfl, by decide +kernel, by decide +kernel, by decide +kernel⟩
theorem ml_Law_126 : Cond.methodLink R_Law 126 y_Brt_panic ∈ tbl := tbl_at 751 (by decide +kernel) rfl
set_option maxRecDepth 100000 in
theorem cw_Brt_panic : CwV y_Brt_panic b_Brt_panic 11 (some FieldType.long) 1 := ⟨tbl_at 752 (by decide +kernel) rfl, tbl_at 753 (by decide +kernel) rfl, tbl_at 48 (by decide +kernel) rfl, tbl_at 754 rfl rfl, by decide +kernel, by decide +kernel, by decide +kernel⟩
theorem ml_Law_130 : Cond.methodLink R_Law 130 y_Mod_panic ∈ tbl := tbl_at 1352 (by decide +kernel) rfl
set_option maxRecDepth 100000 in
theorem cw_Mod_panic : CwV y_Mod_panic b_Mod_panic 11 (some FieldType.long) 1 := ⟨tbl_at 1353 (by decide +kernel) rfl, tbl_at 1354 (by decide +kernel) rfl, tbl_at 57 (by decide +kernel) rfl, tbl_at 1355 rfl rfl, by decide +kernel, by decide +kernel, by decide +kernel⟩
theorem ml_Law_131 : Cond.methodLink R_Law 131 y_Brt_firstWays ∈ tbl := tbl_at 764 (by decide +kernel) rfl
set_option maxRecDepth 100000 in
theorem cw_Brt_firstWays : CwV y_Brt_firstWays b_Brt_firstWays 7 (some FieldType.int) 0 := ⟨tbl_at 765 (by decide +kernel) rfl, tbl_at 766 (by decide +kernel) rfl, tbl_at 48 (by decide +kernel) rfl, tbl_at 767 rfl rfl, by decide +kernel, by decide +kernel, by decide +kernel⟩
theorem ml_Law_134 : Cond.methodLink R_Law 134 y_Mod_firstWays ∈ tbl := tbl_at 1361 (by decide +kernel) rfl
set_option maxRecDepth 100000 in
theorem cw_Mod_firstWays : CwV y_Mod_firstWays b_Mod_firstWays 7 (some FieldType.int) 0 := ⟨tbl_at 1362 (by decide +kernel) rfl, tbl_at 1363 (by decide +kernel) rfl, tbl_at 57 (by decide +kernel) rfl, tbl_at 1364 rfl rfl, by decide +kernel, by decide +kernel, by decide +kernel⟩
theorem ml_Law_135 : Cond.methodLink R_Law 135 y_Brt_rock ∈ tbl := tbl_at 772 (by decide +kernel) rfl
set_option maxRecDepth 100000 in
theorem cw_Brt_rock : CwV y_Brt_rock b_Brt_rock 8 (some FieldType.int) 3 := ⟨tbl_at 773 (by decide +kernel) rfl, tbl_at 774 (by decide +kernel) rfl, tbl_at 48 (by decide +kernel) rfl, tbl_at 775 rfl rfl, by decide +kernel, by decide +kernel, by decide +kernel⟩
theorem ml_Law_138 : Cond.methodLink R_Law 138 y_Mod_rock ∈ tbl := tbl_at 1365 (by decide +kernel) rfl
set_option maxRecDepth 100000 in
theorem cw_Mod_rock : CwV y_Mod_rock b_Mod_rock 8 (some FieldType.int) 3 := ⟨tbl_at 1366 (by decide +kernel) rfl, tbl_at 1367 (by decide +kernel) rfl, tbl_at 57 (by decide +kernel) rfl, tbl_at 1368 rfl rfl, by decide +kernel, by decide +kernel, by decide +kernel⟩
theorem ml_Law_139 : Cond.methodLink R_Law 139 y_Brt_forged ∈ tbl := tbl_at 789 (by decide +kernel) rfl
set_option maxRecDepth 100000 in
theorem cw_Brt_forged : CwV y_Brt_forged b_Brt_forged 6 (some FieldType.int) 2 := ⟨tbl_at 790 (by decide +kernel) rfl, tbl_at 791 (by decide +kernel) rfl, tbl_at 48 (by decide +kernel) rfl, tbl_at 792 rfl rfl, by decide +kernel, by decide +kernel, by decide +kernel⟩
theorem ml_Law_142 : Cond.methodLink R_Law 142 y_Mod_forged ∈ tbl := tbl_at 1381 (by decide +kernel) rfl
set_option maxRecDepth 100000 in
theorem cw_Mod_forged : CwV y_Mod_forged b_Mod_forged 6 (some FieldType.int) 2 := ⟨tbl_at 1382 (by decide +kernel) rfl, tbl_at 1383 (by decide +kernel) rfl, tbl_at 57 (by decide +kernel) rfl, tbl_at 1384 rfl rfl, by decide +kernel, by decide +kernel, by decide +kernel⟩
theorem ml_Law_143 : Cond.methodLink R_Law 143 y_Brt_judge ∈ tbl := tbl_at 793 (by decide +kernel) rfl
set_option maxRecDepth 100000 in
theorem cw_Brt_judge : CwV y_Brt_judge b_Brt_judge 7 (some FieldType.int) 1 := ⟨tbl_at 794 (by decide +kernel) rfl, tbl_at 795 (by decide +kernel) rfl, tbl_at 48 (by decide +kernel) rfl, tbl_at 796 rfl rfl, by decide +kernel, by decide +kernel, by decide +kernel⟩
theorem ml_Law_146 : Cond.methodLink R_Law 146 y_Mod_judge ∈ tbl := tbl_at 1385 (by decide +kernel) rfl
set_option maxRecDepth 100000 in
theorem cw_Mod_judge : CwV y_Mod_judge b_Mod_judge 6 (some FieldType.int) 1 := ⟨tbl_at 1386 (by decide +kernel) rfl, tbl_at 1387 (by decide +kernel) rfl, tbl_at 57 (by decide +kernel) rfl, tbl_at 1388 rfl rfl, by decide +kernel, by decide +kernel, by decide +kernel⟩
theorem ml_Law_147 : Cond.methodLink R_Law 147 y_Brt_parties ∈ tbl := tbl_at 797 (by decide +kernel) rfl
set_option maxRecDepth 100000 in
theorem cw_Brt_parties : CwV y_Brt_parties b_Brt_parties 9 (some FieldType.int) 3 := ⟨tbl_at 798 (by decide +kernel) rfl, tbl_at 799 (by decide +kernel) rfl, tbl_at 48 (by decide +kernel) rfl, tbl_at 800 rfl rfl, by decide +kernel, by decide +kernel, by decide +kernel⟩
theorem ml_Law_150 : Cond.methodLink R_Law 150 y_Mod_parties ∈ tbl := tbl_at 1389 (by decide +kernel) rfl
set_option maxRecDepth 100000 in
theorem cw_Mod_parties : CwV y_Mod_parties b_Mod_parties 7 (some FieldType.int) 3 := ⟨tbl_at 1390 (by decide +kernel) rfl, tbl_at 1391 (by decide +kernel) rfl, tbl_at 57 (by decide +kernel) rfl, tbl_at 1392 rfl rfl, by decide +kernel, by decide +kernel, by decide +kernel⟩
theorem ml_Law_151 : Cond.methodLink R_Law 151 y_Brt_image ∈ tbl := tbl_at 803 (by decide +kernel) rfl
set_option maxRecDepth 100000 in
theorem cw_Brt_image : CwV y_Brt_image b_Brt_image 1 (some FieldType.int) 0 := ⟨tbl_at 804 (by decide +kernel) rfl, tbl_at 805 (by decide +kernel) rfl, tbl_at 48 (by decide +kernel) rfl, tbl_at 806 rfl rfl, by decide +kernel, by decide +kernel, by decide +kernel⟩
theorem ml_Law_154 : Cond.methodLink R_Law 154 y_Mod_image ∈ tbl := tbl_at 1400 (by decide +kernel) rfl
set_option maxRecDepth 100000 in
theorem cw_Mod_image : CwV y_Mod_image b_Mod_image 1 (some FieldType.int) 0 := ⟨tbl_at 1401 (by decide +kernel) rfl, tbl_at 1402 (by decide +kernel) rfl, tbl_at 57 (by decide +kernel) rfl, tbl_at 1403 rfl rfl, by decide +kernel, by decide +kernel, by decide +kernel⟩
theorem ml_Law_155 : Cond.methodLink R_Law 155 y_Brt_restore ∈ tbl := tbl_at 807 (by decide +kernel) rfl
set_option maxRecDepth 100000 in
theorem cw_Brt_restore : CwV y_Brt_restore b_Brt_restore 1 (some FieldType.int) 0 := ⟨tbl_at 808 (by decide +kernel) rfl, tbl_at 809 (by decide +kernel) rfl, tbl_at 48 (by decide +kernel) rfl, tbl_at 810 rfl rfl, by decide +kernel, by decide +kernel, by decide +kernel⟩
theorem ml_Law_158 : Cond.methodLink R_Law 158 y_Mod_restore ∈ tbl := tbl_at 1404 (by decide +kernel) rfl
set_option maxRecDepth 100000 in
theorem cw_Mod_restore : CwV y_Mod_restore b_Mod_restore 1 (some FieldType.int) 0 := ⟨tbl_at 1405 (by decide +kernel) rfl, tbl_at 1406 (by decide +kernel) rfl, tbl_at 57 (by decide +kernel) rfl, tbl_at 1407 rfl rfl, by decide +kernel, by decide +kernel, by decide +kernel⟩
theorem ml_Law_159 : Cond.methodLink R_Law 159 y_Brt_count ∈ tbl := tbl_at 811 (by decide +kernel) rfl
set_option maxRecDepth 100000 in
theorem cw_Brt_count : CwV y_Brt_count b_Brt_count 2 (some FieldType.int) 1 := ⟨tbl_at 812 (by decide +kernel) rfl, tbl_at 813 (by decide +kernel) rfl, tbl_at 48 (by decide +kernel) rfl, tbl_at 814 rfl rfl, by decide +kernel, by decide +kernel, by decide +kernel⟩
theorem ml_Law_162 : Cond.methodLink R_Law 162 y_Mod_count ∈ tbl := tbl_at 1408 (by decide +kernel) rfl
set_option maxRecDepth 100000 in
theorem cw_Mod_count : CwV y_Mod_count b_Mod_count 4 (some FieldType.int) 1 := ⟨tbl_at 1409 (by decide +kernel) rfl, tbl_at 1410 (by decide +kernel) rfl, tbl_at 57 (by decide +kernel) rfl, tbl_at 1411 rfl rfl, by decide +kernel, by decide +kernel, by decide +kernel⟩
theorem ml_Law_163 : Cond.methodLink R_Law 163 y_Brt_keep ∈ tbl := tbl_at 818 (by decide +kernel) rfl
set_option maxRecDepth 100000 in
theorem cw_Brt_keep : CwV y_Brt_keep b_Brt_keep 5 (some FieldType.int) 4 := ⟨tbl_at 819 (by decide +kernel) rfl, tbl_at 820 (by decide +kernel) rfl, tbl_at 48 (by decide +kernel) rfl, tbl_at 821 rfl rfl, by decide +kernel, by decide +kernel, by decide +kernel⟩
theorem ml_Law_166 : Cond.methodLink R_Law 166 y_Mod_keep ∈ tbl := tbl_at 1416 (by decide +kernel) rfl
set_option maxRecDepth 100000 in
theorem cw_Mod_keep : CwV y_Mod_keep b_Mod_keep 5 (some FieldType.int) 4 := ⟨tbl_at 1417 (by decide +kernel) rfl, tbl_at 1418 (by decide +kernel) rfl, tbl_at 57 (by decide +kernel) rfl, tbl_at 1419 rfl rfl, by decide +kernel, by decide +kernel, by decide +kernel⟩
theorem ml_Law_167 : Cond.methodLink R_Law 167 y_Brt_row ∈ tbl := tbl_at 826 (by decide +kernel) rfl
set_option maxRecDepth 100000 in
theorem cw_Brt_row : CwV y_Brt_row b_Brt_row 4 (some FieldType.int) 3 := ⟨tbl_at 827 (by decide +kernel) rfl, tbl_at 828 (by decide +kernel) rfl, tbl_at 48 (by decide +kernel) rfl, tbl_at 829 rfl rfl, by decide +kernel, by decide +kernel, by decide +kernel⟩
theorem ml_Law_170 : Cond.methodLink R_Law 170 y_Mod_row ∈ tbl := tbl_at 1420 (by decide +kernel) rfl
set_option maxRecDepth 100000 in
theorem cw_Mod_row : CwV y_Mod_row b_Mod_row 5 (some FieldType.int) 3 := ⟨tbl_at 1421 (by decide +kernel) rfl, tbl_at 1422 (by decide +kernel) rfl, tbl_at 57 (by decide +kernel) rfl, tbl_at 1423 rfl rfl, by decide +kernel, by decide +kernel, by decide +kernel⟩
theorem ml_Law_171 : Cond.methodLink R_Law 171 y_Brt_put ∈ tbl := tbl_at 835 (by decide +kernel) rfl
set_option maxRecDepth 100000 in
theorem cw_Brt_put : CwV y_Brt_put b_Brt_put 5 (some FieldType.int) 3 := ⟨tbl_at 836 (by decide +kernel) rfl, tbl_at 837 (by decide +kernel) rfl, tbl_at 48 (by decide +kernel) rfl, tbl_at 838 rfl rfl, by decide +kernel, by decide +kernel, by decide +kernel⟩
theorem ml_Law_174 : Cond.methodLink R_Law 174 y_Mod_put ∈ tbl := tbl_at 1424 (by decide +kernel) rfl
set_option maxRecDepth 100000 in
theorem cw_Mod_put : CwV y_Mod_put b_Mod_put 5 (some FieldType.int) 3 := ⟨tbl_at 1425 (by decide +kernel) rfl, tbl_at 1426 (by decide +kernel) rfl, tbl_at 57 (by decide +kernel) rfl, tbl_at 1427 rfl rfl, by decide +kernel, by decide +kernel, by decide +kernel⟩
theorem ml_Law_180 : Cond.methodLink R_Law 180 y_Mod_element ∈ tbl := tbl_at 1428 (by decide +kernel) rfl
set_option maxRecDepth 100000 in
theorem cw_Mod_element : CwV y_Mod_element b_Mod_element 3 (some FieldType.long) 2 := ⟨tbl_at 1429 (by decide +kernel) rfl, tbl_at 1430 (by decide +kernel) rfl, tbl_at 57 (by decide +kernel) rfl, tbl_at 1431 rfl rfl, by decide +kernel, by decide +kernel, by decide +kernel⟩
theorem ml_Law_181 : Cond.methodLink R_Law 181 y_Mod_thrown ∈ tbl := tbl_at 1412 (by decide +kernel) rfl
set_option maxRecDepth 100000 in
theorem cw_Mod_thrown : CwV y_Mod_thrown b_Mod_thrown 1 (some FieldType.int) 0 := ⟨tbl_at 1413 (by decide +kernel) rfl, tbl_at 1414 (by decide +kernel) rfl, tbl_at 57 (by decide +kernel) rfl, tbl_at 1415 rfl rfl, by decide +kernel, by decide +kernel, by decide +kernel⟩
theorem ml_Law_184 : Cond.methodLink R_Law 184 y_Brt_copy ∈ tbl := tbl_at 848 (by decide +kernel) rfl
set_option maxRecDepth 100000 in
theorem cw_Brt_copy : CwV y_Brt_copy b_Brt_copy 8 (some FieldType.int) 5 := ⟨tbl_at 849 (by decide +kernel) rfl, tbl_at 850 (by decide +kernel) rfl, tbl_at 48 (by decide +kernel) rfl, tbl_at 851 rfl rfl, by decide +kernel, by decide +kernel, by decide +kernel⟩
theorem ml_Law_188 : Cond.methodLink R_Law 188 y_Mod_copy ∈ tbl := tbl_at 1432 (by decide +kernel) rfl
set_option maxRecDepth 100000 in
theorem cw_Mod_copy : CwV y_Mod_copy b_Mod_copy 8 (some FieldType.int) 5 := ⟨tbl_at 1433 (by decide +kernel) rfl, tbl_at 1434 (by decide +kernel) rfl, tbl_at 57 (by decide +kernel) rfl, tbl_at 1435 rfl rfl, by decide +kernel, by decide +kernel, by decide +kernel⟩
theorem ml_Law_189 : Cond.methodLink R_Law 189 y_Brt_cost ∈ tbl := tbl_at 857 (by decide +kernel) rfl
set_option maxRecDepth 100000 in
theorem cw_Brt_cost : CwV y_Brt_cost b_Brt_cost 3 (some FieldType.int) 1 := ⟨tbl_at 858 (by decide +kernel) rfl, tbl_at 859 (by decide +kernel) rfl, tbl_at 48 (by decide +kernel) rfl, tbl_at 860 rfl rfl, by decide +kernel, by decide +kernel, by decide +kernel⟩
theorem ml_Law_192 : Cond.methodLink R_Law 192 y_Mod_cost ∈ tbl := tbl_at 1436 (by decide +kernel) rfl
set_option maxRecDepth 100000 in
theorem cw_Mod_cost : CwV y_Mod_cost b_Mod_cost 3 (some FieldType.int) 1 := ⟨tbl_at 1437 (by decide +kernel) rfl, tbl_at 1438 (by decide +kernel) rfl, tbl_at 57 (by decide +kernel) rfl, tbl_at 1439 rfl rfl, by decide +kernel, by decide +kernel, by decide +kernel⟩
theorem ml_Law_193 : Cond.methodLink R_Law 193 y_Brt_toss ∈ tbl := tbl_at 865 (by decide +kernel) rfl
theorem ml_Law_196 : Cond.methodLink R_Law 196 y_Mod_toss ∈ tbl := tbl_at 1443 (by decide +kernel) rfl
set_option maxRecDepth 100000 in
theorem cw_Mod_toss : CwV y_Mod_toss b_Mod_toss 5 (some FieldType.int) 1 := ⟨tbl_at 1444 (by decide +kernel) rfl, tbl_at 1445 (by decide +kernel) rfl, tbl_at 57 (by decide +kernel) rfl, tbl_at 1446 rfl rfl, by decide +kernel, by decide +kernel, by decide +kernel⟩
set_option maxRecDepth 100000 in
theorem cw_Brt_toss : Cond.instanceMethod y_Brt_toss ∈ tbl ∧ Cond.selects y_Brt_toss.cls y_Brt_toss y_Brt_toss ∈ tbl ∧ Cond.initialized y_Brt_toss.cls ∈ tbl ∧ Cond.codeWith y_Brt_toss b_Brt_toss 6 (some FieldType.int) hh_toss ∈ tbl ∧ y_Brt_toss.cls ≠ "java/lang/invoke/MethodHandle" ∧ y_Brt_toss.cls ≠ "java/lang/invoke/VarHandle" ∧ (parseMethodDescriptor y_Brt_toss.desc).map (fun d => d.parameters.length) = some 1 := ⟨tbl_at 866 (by decide +kernel) rfl, tbl_at 867 (by decide +kernel) rfl, tbl_at 48 (by decide +kernel) rfl, tbl_at 868 rfl rfl, by decide +kernel, by decide +kernel, by decide +kernel⟩
