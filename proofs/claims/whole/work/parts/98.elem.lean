theorem d_Brt_element_0 : decode b_Brt_element 0 = .ok (.iload_n 1, 1) := by decide +kernel
theorem d_Brt_element_1 : decode b_Brt_element 1 = .ok (.invokestatic 343, 3) := by decide +kernel
theorem d_Brt_element_4 : decode b_Brt_element 4 = .ok (.ifCond .ne 14, 3) := by decide +kernel
theorem d_Brt_element_7 : decode b_Brt_element 7 = .ok (.new 362, 3) := by decide +kernel
theorem d_Brt_element_10 : decode b_Brt_element 10 = .ok (.dup, 1) := by decide +kernel
theorem d_Brt_element_11 : decode b_Brt_element 11 = .ok (.ldc_w 364, 3) := by decide +kernel
theorem d_Brt_element_14 : decode b_Brt_element 14 = .ok (.invokespecial 366, 3) := by decide +kernel
theorem d_Brt_element_17 : decode b_Brt_element 17 = .ok (.athrow, 1) := by decide +kernel
theorem d_Brt_element_18 : decode b_Brt_element 18 = .ok (.aload_n 0, 1) := by decide +kernel
theorem d_Brt_element_19 : decode b_Brt_element 19 = .ok (.getfield 49, 3) := by decide +kernel
theorem d_Brt_element_22 : decode b_Brt_element 22 = .ok (.iload_n 1, 1) := by decide +kernel
theorem d_Brt_element_23 : decode b_Brt_element 23 = .ok (.aaload, 1) := by decide +kernel
theorem d_Brt_element_24 : decode b_Brt_element 24 = .ok (.getfield 346, 3) := by decide +kernel
theorem d_Brt_element_27 : decode b_Brt_element 27 = .ok (.iconst 2, 1) := by decide +kernel
theorem d_Brt_element_28 : decode b_Brt_element 28 = .ok (.if_icmp .eq 14, 3) := by decide +kernel
theorem d_Brt_element_31 : decode b_Brt_element 31 = .ok (.new 369, 3) := by decide +kernel
theorem d_Brt_element_34 : decode b_Brt_element 34 = .ok (.dup, 1) := by decide +kernel
theorem d_Brt_element_35 : decode b_Brt_element 35 = .ok (.ldc_w 371, 3) := by decide +kernel
theorem d_Brt_element_38 : decode b_Brt_element 38 = .ok (.invokespecial 373, 3) := by decide +kernel
theorem d_Brt_element_41 : decode b_Brt_element 41 = .ok (.athrow, 1) := by decide +kernel
theorem d_Brt_element_42 : decode b_Brt_element 42 = .ok (.aload_n 0, 1) := by decide +kernel
theorem d_Brt_element_43 : decode b_Brt_element 43 = .ok (.getfield 49, 3) := by decide +kernel
theorem d_Brt_element_46 : decode b_Brt_element 46 = .ok (.iload_n 1, 1) := by decide +kernel
theorem d_Brt_element_47 : decode b_Brt_element 47 = .ok (.aaload, 1) := by decide +kernel
theorem d_Brt_element_48 : decode b_Brt_element 48 = .ok (.iload_n 2, 1) := by decide +kernel
theorem d_Brt_element_49 : decode b_Brt_element 49 = .ok (.invokevirtual 356, 3) := by decide +kernel
theorem d_Brt_element_52 : decode b_Brt_element 52 = .ok (.ifCond .ne 14, 3) := by decide +kernel
theorem d_Brt_element_55 : decode b_Brt_element 55 = .ok (.new 369, 3) := by decide +kernel
theorem d_Brt_element_58 : decode b_Brt_element 58 = .ok (.dup, 1) := by decide +kernel
theorem d_Brt_element_59 : decode b_Brt_element 59 = .ok (.ldc_w 374, 3) := by decide +kernel
theorem d_Brt_element_62 : decode b_Brt_element 62 = .ok (.invokespecial 373, 3) := by decide +kernel
theorem d_Brt_element_65 : decode b_Brt_element 65 = .ok (.athrow, 1) := by decide +kernel
theorem d_Brt_element_66 : decode b_Brt_element 66 = .ok (.aload_n 0, 1) := by decide +kernel
theorem d_Brt_element_67 : decode b_Brt_element 67 = .ok (.getfield 49, 3) := by decide +kernel
theorem d_Brt_element_70 : decode b_Brt_element 70 = .ok (.iload_n 1, 1) := by decide +kernel
theorem d_Brt_element_71 : decode b_Brt_element 71 = .ok (.aaload, 1) := by decide +kernel
theorem d_Brt_element_72 : decode b_Brt_element 72 = .ok (.getfield 83, 3) := by decide +kernel
theorem d_Brt_element_75 : decode b_Brt_element 75 = .ok (.iload_n 2, 1) := by decide +kernel
theorem d_Brt_element_76 : decode b_Brt_element 76 = .ok (.iaload, 1) := by decide +kernel
theorem d_Brt_element_77 : decode b_Brt_element 77 = .ok (.i2l, 1) := by decide +kernel
theorem d_Brt_element_78 : decode b_Brt_element 78 = .ok (.lreturn, 1) := by decide +kernel

theorem cl_Brt_e1 : Cond.classLink R_Brt 362 kIA ∈ tbl := cl_Brt_362
/-- element: Q of what it answers, QE of the class that it throws -/
def vc_Brt_element (x1 x2 : Int32) (s : St) (Q : Int64 → Prop) (QE : String → Prop) : Prop :=
    vc_Brt_isShelf x1 (fun b => (¬ bi b = 0 → (vp_in x1 8 ∧ (¬ s (shp x1) 0 = 2 → QE kIS) ∧ (s (shp x1) 0 = 2 → vc_She_hasPlace (shp x1) x2 s (fun b1 => (¬ bi b1 = 0 → vp_in x2 100 ∧ Q (s (shp x1 + 1) x2.toNatClampNeg).toInt64) ∧ (bi b1 = 0 → QE kIS))))) ∧ (bi b = 0 → QE kIA))
def rm_Brt_element : Room := { frames := 6, cells := 1, slots := 6, locals := 82 }
set_option maxHeartbeats 4000000 in
set_option maxRecDepth 20000 in
theorem m_Brt_element (g : Gx) (hg : gOk g) (hfl : (gl g).stackTraces = false) (x1 x2 : Int32) (s : St) (Q : Int64 → Prop) (QE : String → Prop) (hw : vc_Brt_element x1 x2 s Q QE) : vx_Met (gl g) y_Brt_element (Cond.code y_Brt_element b_Brt_element 3 (some FieldType.long) :: tbl) rm_Brt_element (PcT g [.ref (ga g 0), .int x1, .int x2] s) (Qx g (fun v s' => ∃ r : Int64, v = some (.long r) ∧ s = s' ∧ Q r)) (XT g s (fun E => (E = kIA ∨ E = kIS) ∧ QE E)) 1 6 (gA g) := by
  refine mt_ofV (j := 0) (L := [some (.ref (ga g 0)), some (.int x1), some (.int x2)]) hg (by decide) (Nat.le_of_ble_eq_true rfl) rfl ?_
  intro X hX C hT hZ htab
  subst hX
  unfold vc_Brt_element at hw
  refine x_iload_n C d_Brt_element_0 rfl ?_
  refine x_callS (As := [.int x1]) (rest := []) C (m_Brt_isShelf (xg X) C.2.2.2.2.2.2.1 x1 s _ hw) cw_Brt_isShelf ml_Brt_343 rfl ⟨rfl, rfl, Nat.le_of_ble_eq_true rfl, Nat.le_of_ble_eq_true rfl⟩ ⟨Nat.zero_le _, Nat.zero_le _⟩ rfl (Nat.le_of_ble_eq_true rfl) d_Brt_element_1 ?_
  rintro _ _ ⟨b10, rfl, rfl, hw⟩
  show V X _ _ _ _ 4 [some (.ref (xa X 0)), some (.int x1), some (.int x2)] [.int (bi b10)]
  refine x_if_ne (tgt := 18) C d_Brt_element_4 (by decide) (fun c => ?_) (fun c => ?_)
  · obtain ⟨h13, hw1, hw2⟩ := hw.1 c
    refine x_aload_n C d_Brt_element_18 rfl ?_
    refine g_Brt_7 (p := 0) C rfl fl_Brt_49 d_Brt_element_19 ?_
    refine x_iload_n C d_Brt_element_22 rfl ?_
    refine x_aald C h13 d_Brt_element_23 ?_
    refine g_She_0 (p := (shp x1)) C (shp_kd h13) fl_Brt_346 d_Brt_element_24 ?_
    refine x_iconst (v := 2) C d_Brt_element_27 rfl ?_
    refine x_icmp_eq (tgt := 42) C d_Brt_element_28 (by decide) (fun c2 => ?_) (fun c2 => ?_)
    · refine x_aload_n C d_Brt_element_42 rfl ?_
      refine g_Brt_7 (p := 0) C rfl fl_Brt_49 d_Brt_element_43 ?_
      refine x_iload_n C d_Brt_element_46 rfl ?_
      refine x_aald C h13 d_Brt_element_47 ?_
      refine x_iload_n C d_Brt_element_48 rfl ?_
      refine x_callV (As := [.int x2]) (rest := []) (p := (shp x1)) C (m_She_hasPlace (xg X) C.2.2.2.2.2.2.1 (shp x1) x2 (shp_kd h13) s _ (hw2 c2)) cw_She_hasPlace ml_Brt_356 (shp_kd h13) (by decide) (by decide) rfl rfl rfl ⟨rfl, rfl, Nat.le_of_ble_eq_true rfl, Nat.le_of_ble_eq_true rfl⟩ ⟨Nat.zero_le _, Nat.zero_le _⟩ rfl (Nat.le_of_ble_eq_true rfl) d_Brt_element_49 ?_
      rintro _ _ ⟨b14, rfl, rfl, hw⟩
      show V X _ _ _ _ 52 [some (.ref (xa X 0)), some (.int x1), some (.int x2)] [.int (bi b14)]
      refine x_if_ne (tgt := 66) C d_Brt_element_52 (by decide) (fun c3 => ?_) (fun c3 => ?_)
      · obtain ⟨h15, hw⟩ := hw.1 c3
        refine x_aload_n C d_Brt_element_66 rfl ?_
        refine g_Brt_7 (p := 0) C rfl fl_Brt_49 d_Brt_element_67 ?_
        refine x_iload_n C d_Brt_element_70 rfl ?_
        refine x_aald C h13 d_Brt_element_71 ?_
        refine g_She_5 (p := (shp x1)) C (shp_kd h13) fl_Brt_83 d_Brt_element_72 ?_
        refine x_iload_n C d_Brt_element_75 rfl ?_
        refine x_iald (n := 100) C (ks_9_1 (shp_kd h13)) h15 d_Brt_element_76 ?_
        refine x_i2l C d_Brt_element_77 ?_
        exact xt_lreturn C d_Brt_element_78 (Nat.zero_le _) (Nat.zero_le _) ⟨_, rfl, rfl, hw⟩
      · exact x_throwSW (ik := 369) (is := 374) (ic := 373) (cls := kIS) (text := "no such place") C hfl hT hZ htab (by decide) cl_Brt_369 (ini_ex _ (by decide)) (by decide) at_bis at_bis_ok at_bis_ng d_Brt_element_55 d_Brt_element_58 d_Brt_element_59 d_Brt_element_62 d_Brt_element_65 (by decide) (by decide) (by decide) (by decide) ⟨Or.inr rfl, hw.2 c3⟩
    · exact x_throwSW (ik := 369) (is := 371) (ic := 373) (cls := kIS) (text := "no row") C hfl hT hZ htab (by decide) cl_Brt_369 (ini_ex _ (by decide)) (by decide) at_bis at_bis_ok at_bis_ng d_Brt_element_31 d_Brt_element_34 d_Brt_element_35 d_Brt_element_38 d_Brt_element_41 (by decide) (by decide) (by decide) (by decide) ⟨Or.inr rfl, hw1 c2⟩
  · exact x_throwSW (ik := 362) (is := 364) (ic := 366) (cls := kIA) (text := "no such shelf") C hfl hT hZ htab (by decide) cl_Brt_362 (ini_ex _ (by decide)) (by decide) at_bia at_bia_ok at_bia_ng d_Brt_element_7 d_Brt_element_10 d_Brt_element_11 d_Brt_element_14 d_Brt_element_17 (by decide) (by decide) (by decide) (by decide) ⟨Or.inl rfl, hw.2 c⟩
