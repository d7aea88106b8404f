def z_Brt : St := fun p k => if p = 1 ∨ p = 18 ∨ p = 35 then (if k = 2 then 1 else if k = 3 then 15 else if k = 4 then 120 else 0) else if p = 53 ∨ p = 55 then (if k = 2 then -4 else if k = 3 then -4 else 0) else 0
theorem d_Brt_init_0 : decode b_Brt_init 0 = .ok (.aload_n 0, 1) := by decide +kernel
theorem d_Brt_init_1 : decode b_Brt_init 1 = .ok (.invokespecial 1, 3) := by decide +kernel
theorem d_Brt_init_4 : decode b_Brt_init 4 = .ok (.aload_n 0, 1) := by decide +kernel
theorem d_Brt_init_5 : decode b_Brt_init 5 = .ok (.new 7, 3) := by decide +kernel
theorem d_Brt_init_8 : decode b_Brt_init 8 = .ok (.dup, 1) := by decide +kernel
theorem d_Brt_init_9 : decode b_Brt_init 9 = .ok (.invokespecial 9, 3) := by decide +kernel
theorem d_Brt_init_12 : decode b_Brt_init 12 = .ok (.putfield 10, 3) := by decide +kernel
theorem d_Brt_init_15 : decode b_Brt_init 15 = .ok (.aload_n 0, 1) := by decide +kernel
theorem d_Brt_init_16 : decode b_Brt_init 16 = .ok (.new 7, 3) := by decide +kernel
theorem d_Brt_init_19 : decode b_Brt_init 19 = .ok (.dup, 1) := by decide +kernel
theorem d_Brt_init_20 : decode b_Brt_init 20 = .ok (.invokespecial 9, 3) := by decide +kernel
theorem d_Brt_init_23 : decode b_Brt_init 23 = .ok (.putfield 16, 3) := by decide +kernel
theorem d_Brt_init_26 : decode b_Brt_init 26 = .ok (.aload_n 0, 1) := by decide +kernel
theorem d_Brt_init_27 : decode b_Brt_init 27 = .ok (.new 7, 3) := by decide +kernel
theorem d_Brt_init_30 : decode b_Brt_init 30 = .ok (.dup, 1) := by decide +kernel
theorem d_Brt_init_31 : decode b_Brt_init 31 = .ok (.invokespecial 9, 3) := by decide +kernel
theorem d_Brt_init_34 : decode b_Brt_init 34 = .ok (.putfield 19, 3) := by decide +kernel
theorem d_Brt_init_37 : decode b_Brt_init 37 = .ok (.aload_n 0, 1) := by decide +kernel
theorem d_Brt_init_38 : decode b_Brt_init 38 = .ok (.new 22, 3) := by decide +kernel
theorem d_Brt_init_41 : decode b_Brt_init 41 = .ok (.dup, 1) := by decide +kernel
theorem d_Brt_init_42 : decode b_Brt_init 42 = .ok (.invokespecial 24, 3) := by decide +kernel
theorem d_Brt_init_45 : decode b_Brt_init 45 = .ok (.putfield 25, 3) := by decide +kernel
theorem d_Brt_init_48 : decode b_Brt_init 48 = .ok (.aload_n 0, 1) := by decide +kernel
theorem d_Brt_init_49 : decode b_Brt_init 49 = .ok (.new 29, 3) := by decide +kernel
theorem d_Brt_init_52 : decode b_Brt_init 52 = .ok (.dup, 1) := by decide +kernel
theorem d_Brt_init_53 : decode b_Brt_init 53 = .ok (.invokespecial 31, 3) := by decide +kernel
theorem d_Brt_init_56 : decode b_Brt_init 56 = .ok (.putfield 32, 3) := by decide +kernel
theorem d_Brt_init_59 : decode b_Brt_init 59 = .ok (.aload_n 0, 1) := by decide +kernel
theorem d_Brt_init_60 : decode b_Brt_init 60 = .ok (.new 36, 3) := by decide +kernel
theorem d_Brt_init_63 : decode b_Brt_init 63 = .ok (.dup, 1) := by decide +kernel
theorem d_Brt_init_64 : decode b_Brt_init 64 = .ok (.invokespecial 38, 3) := by decide +kernel
theorem d_Brt_init_67 : decode b_Brt_init 67 = .ok (.putfield 39, 3) := by decide +kernel
theorem d_Brt_init_70 : decode b_Brt_init 70 = .ok (.aload_n 0, 1) := by decide +kernel
theorem d_Brt_init_71 : decode b_Brt_init 71 = .ok (.bipush 6, 2) := by decide +kernel
theorem d_Brt_init_73 : decode b_Brt_init 73 = .ok (.newarray .int, 2) := by decide +kernel
theorem d_Brt_init_75 : decode b_Brt_init 75 = .ok (.putfield 43, 3) := by decide +kernel
theorem d_Brt_init_78 : decode b_Brt_init 78 = .ok (.aload_n 0, 1) := by decide +kernel
theorem d_Brt_init_79 : decode b_Brt_init 79 = .ok (.bipush 8, 2) := by decide +kernel
theorem d_Brt_init_81 : decode b_Brt_init 81 = .ok (.anewarray 47, 3) := by decide +kernel
theorem d_Brt_init_84 : decode b_Brt_init 84 = .ok (.putfield 49, 3) := by decide +kernel
theorem d_Brt_init_87 : decode b_Brt_init 87 = .ok (.aload_n 0, 1) := by decide +kernel
theorem d_Brt_init_88 : decode b_Brt_init 88 = .ok (.iconst 0, 1) := by decide +kernel
theorem d_Brt_init_89 : decode b_Brt_init 89 = .ok (.putfield 53, 3) := by decide +kernel
theorem d_Brt_init_92 : decode b_Brt_init 92 = .ok (.iconst 0, 1) := by decide +kernel
theorem d_Brt_init_93 : decode b_Brt_init 93 = .ok (.istore_n 1, 1) := by decide +kernel
theorem d_Brt_init_94 : decode b_Brt_init 94 = .ok (.iload_n 1, 1) := by decide +kernel
theorem d_Brt_init_95 : decode b_Brt_init 95 = .ok (.bipush 8, 2) := by decide +kernel
theorem d_Brt_init_97 : decode b_Brt_init 97 = .ok (.if_icmp .ge 22, 3) := by decide +kernel
theorem d_Brt_init_100 : decode b_Brt_init 100 = .ok (.aload_n 0, 1) := by decide +kernel
theorem d_Brt_init_101 : decode b_Brt_init 101 = .ok (.getfield 49, 3) := by decide +kernel
theorem d_Brt_init_104 : decode b_Brt_init 104 = .ok (.iload_n 1, 1) := by decide +kernel
theorem d_Brt_init_105 : decode b_Brt_init 105 = .ok (.new 47, 3) := by decide +kernel
theorem d_Brt_init_108 : decode b_Brt_init 108 = .ok (.dup, 1) := by decide +kernel
theorem d_Brt_init_109 : decode b_Brt_init 109 = .ok (.invokespecial 57, 3) := by decide +kernel
theorem d_Brt_init_112 : decode b_Brt_init 112 = .ok (.aastore, 1) := by decide +kernel
theorem d_Brt_init_113 : decode b_Brt_init 113 = .ok (.iinc 1 1, 3) := by decide +kernel
theorem d_Brt_init_116 : decode b_Brt_init 116 = .ok (.goto (-22), 3) := by decide +kernel
theorem d_Brt_init_119 : decode b_Brt_init 119 = .ok (.return_, 1) := by decide +kernel
set_option maxHeartbeats 4000000 in
set_option maxRecDepth 100000 in
theorem c_Brt_init (l : Launch) (D : va_G) (cI : ClassId) : Ini l D cI y_Brt_init b_Brt_init 2 ({ frames := 3, cells := 81, slots := 1393, locals := 52 }) 81 1393 (.inr (8, [.null, .null, .null, .null, .null, .null, .null, .null, .int 0])) [1, 2, 3, 112, 112, 112, 112, 112, 112, 112, 112, 4, 106, 106, 106, 106, 106, 106, 2, 3, 112, 112, 112, 112, 112, 112, 112, 112, 4, 106, 106, 106, 106, 106, 106, 2, 3, 112, 112, 112, 112, 112, 112, 112, 112, 4, 106, 106, 106, 106, 106, 106, 5, 6, 106, 6, 106, 101, 7, 106, 106, 8, 106, 106, 106, 11, 9, 200, 9, 200, 9, 200, 9, 200, 9, 200, 9, 200, 9, 200, 9, 200] z_Brt := by
  intro h0 sz
  refine Met.ofW (cc := b_Brt_init) (maxL := 2) (ret := none) (by decide) rfl ?_
  intro p e s m args below meth c s₁ B hml hv
  obtain ⟨rfl, hsz, hP, hK, hN, hD0⟩ := hv
  have hx := B.exec
  have hb := B.bytes
  have hr := B.returns
  have hts0 := atoms_spec (ws := Cond.code y_Brt_init b_Brt_init 2 none :: tbl) B.pre
  have hts : ∀ w ∈ tbl, w.before _ s = true := fun w hw => hts0 w (List.mem_cons_of_mem _ hw)
  have hown : s.vm.findClass R_Brt = some m.cls := findClass_of_methodNamed B.named
  have hlocks := B.notSynchronized
  have hin : meth.name = "<init>" := (name_of_methodNamed B.named B.method).1
  subst hsz
  have hD := hD0.self (sz := s.heap.size)
  unfold iniQ
  generalize hAe : va_A [(h0, .inr (8, [.null, .null, .null, .null, .null, .null, .null, .null, .int 0]))] s.heap.size = A at hD ⊢
  have hA : ∀ q : Nat, s.heap.size ≤ q → A q := fun q h => by rw [← hAe]; exact Or.inr h
  have hS : va_S A s.heap s.heap [] := va_S.rf
  have hP : va_P D classes [(h0, .inr (8, [.null, .null, .null, .null, .null, .null, .null, .null, .int 0]))] s.heap := hP
  have hl := lv_entry ([.ref h0]) (n := 2) (Nat.le_of_ble_eq_true rfl)
  rw [lg_entry_eq]
  generalize (lg_sl ([.ref h0]) ++ List.replicate (2 - (lg_sl ([.ref h0])).length) Slot.unset).toArray = ls at hl ⊢
  have hl : lv_has ls 2 [(0, .ref h0)] := hl
  refine lv_aload_n hx hb d_Brt_init_0 rfl (lv_at hl 0 rfl) ?_
  refine W.objInit hx hb hown (hts (.methodLink R_Brt 1 objectInit) (tbl_at 75 (by decide +kernel) rfl)) (hts (.instanceMethod objectInit) oi_w.1) (hts _ oi_w.2) rfl (by rw [hml]; exact hl.1) rfl d_Brt_init_1 (Nat.le_of_ble_eq_true rfl) (Nat.le_of_ble_eq_true rfl) ?_
  refine W.eq (g2 := F0 m 4 ls []) rfl ?_
  refine lv_aload_n hx hb d_Brt_init_4 rfl (lv_at hl 0 rfl) ?_
  have h_0 : 0 + 1 ≤ 81 := by decide
  have i_0 : 0 + 6 ≤ 1393 := by decide
  refine va_new (ci := 2) (fs := [.null, .null, .int 0, .int 0, .int 0, .int 0]) (C := R_Cav) (T := F_Cav) (N := 6) hx hb hts i_Cav t_Cav t_Cav_ok hown (hts (.classLink R_Brt 7 R_Cav) (tbl_at 78 (by decide +kernel) rfl)) (hts (.instantiable R_Cav 6) (tbl_at 79 (by decide +kernel) rfl)) (hts (.initialized R_Cav) (tbl_at 49 (by decide +kernel) rfl)) hK hP hD hS hA rfl (fun j hj => by rcases (show j = 0 ∨ j = 1 ∨ j = 2 ∨ j = 3 ∨ j = 4 ∨ j = 5 by omega) with rfl | rfl | rfl | rfl | rfl | rfl <;> rfl) h_0 i_0 d_Brt_init_5 (fun q0 H hP hD hS => ?_)
  have hP : va_P D classes (((h0, .inr (8, [.null, .null, .null, .null, .null, .null, .null, .null, .int 0])) :: ([] : va_W)) ++ [(q0, .inr (2, [.null, .null, .int 0, .int 0, .int 0, .int 0]))]) H := hP
  have hD : va_D A (((h0, .inr (8, [.null, .null, .null, .null, .null, .null, .null, .null, .int 0])) :: ([] : va_W)) ++ [(q0, .inr (2, [.null, .null, .int 0, .int 0, .int 0, .int 0]))]) := hD
  refine lv_dup hx hb d_Brt_init_8 rfl ?_
  have hPc := va_lastP hP
  have hDc := va_lastD hD
  have hKc := hK.sub (tys' := [(cI, .int)]) [0] rfl
  have hFc := va_freeL hD hS hA
  refine va_callv (va_runIN (Ts := tbl) (own := R_Brt) (host := "BreatheOut") (As := []) (rest := [.ref q0, .ref h0]) ⟨hx, hb, hml, hown, hts⟩ (c_Cav_init l D cI q0 H.size) ⟨va_cnB 0 hts (good_code (tbl_at 82 rfl rfl)) rfl rfl rfl (hN.1 (R_Brt, 9, y_Cav_init) (by decide +kernel)) (hts _ (tbl_at 49 (by decide +kernel) rfl)) (by decide +kernel) ⟨Nat.le_of_ble_eq_true rfl, Nat.le_of_ble_eq_true rfl⟩, rfl, hts _ (tbl_at 81 (by decide +kernel) rfl)⟩ ⟨ini_blind, fun U hU hW => ⟨rfl, by rw [hU], by rw [hU]; exact hPc, va_K.moved hW.alike hKc, gC_warm hW hN, hDc.weaken (fun _ _ _ _ => trivial)⟩⟩ rfl rfl (hl.1.trans rfl) rfl (lv_room (Nat.le_of_ble_eq_true rfl)) d_Brt_init_9 ⟨Nat.le_of_ble_eq_true rfl, Nat.le_of_ble_eq_true rfl⟩) hS (fun q _ h => hFc q h) hFc (fun u t H1 locs ht hvm hw hB hz1 hk1 hS => ?_)
  obtain ⟨a1, cS1⟩ := u
  obtain ⟨hP1, hD1, -⟩ := hB
  rw [ht] at hP1
  dsimp only at hw hP1 hD1
  obtain ⟨hPn, hDn⟩ := va_joinL (w1 := sg cI cS1 a1 z_Cav 0 [2, 3, 112, 112, 112, 112, 112, 112, 112, 112, 4, 106, 106, 106, 106, 106, 106]) hP hD hk1 hFc hP1 hD1
  clear hP hD hPc hDc hFc
  subst hw
  generalize H1 = H at hPn hS ⊢
  have hP := hPn
  have hD := hDn
  have hP : va_P D classes ((h0, .inr (8, [.null, .null, .null, .null, .null, .null, .null, .null, .int 0])) :: (([] : va_W) ++ sg cI cS1 a1 z_Cav 0 [2, 3, 112, 112, 112, 112, 112, 112, 112, 112, 4, 106, 106, 106, 106, 106, 106])) H := hP
  have hD : va_D A ((h0, .inr (8, [.null, .null, .null, .null, .null, .null, .null, .null, .int 0])) :: (([] : va_W) ++ sg cI cS1 a1 z_Cav 0 [2, 3, 112, 112, 112, 112, 112, 112, 112, 112, 4, 106, 106, 106, 106, 106, 106])) := hD
  generalize eR1 : ([] : va_W) ++ sg cI cS1 a1 z_Cav 0 [2, 3, 112, 112, 112, 112, 112, 112, 112, 112, 4, 106, 106, 106, 106, 106, 106] = R1 at hP hD
  refine va_putF (D := D) (ci := 8) (v := .ref (a1 0)) (ty := .object "BreatheOut$Cave") (C := R_Brt) (T := F_Brt) (N := 9) hx hb hts i_Brt t_Brt t_Brt_ok n_Brt hown hK hP hD hS 0 rfl rfl 0 (by decide) (hts (.fieldLink R_Brt 10 "BreatheOut" "now" "LBreatheOut$Cave;") (tbl_at 362 (by decide +kernel) rfl)) (fun _ h9 => h9) rfl hin rfl (by decide +kernel) rfl rfl (Nat.le_of_ble_eq_true rfl) d_Brt_init_12 (fun H locs hP hD hS => ?_)
  have hP : va_P D classes ((h0, .inr (8, [.ref (a1 0), .null, .null, .null, .null, .null, .null, .null, .int 0])) :: R1) H := hP
  have hD : va_D A ((h0, .inr (8, [.ref (a1 0), .null, .null, .null, .null, .null, .null, .null, .int 0])) :: R1) := hD
  refine lv_aload_n hx hb d_Brt_init_15 rfl (lv_at hl 0 rfl) ?_
  have h_1 : 17 + 1 ≤ 81 := by decide
  have i_1 : 154 + 6 ≤ 1393 := by decide
  refine va_new (ci := 2) (fs := [.null, .null, .int 0, .int 0, .int 0, .int 0]) (C := R_Cav) (T := F_Cav) (N := 6) hx hb hts i_Cav t_Cav t_Cav_ok hown (hts (.classLink R_Brt 7 R_Cav) (tbl_at 78 (by decide +kernel) rfl)) (hts (.instantiable R_Cav 6) (tbl_at 79 (by decide +kernel) rfl)) (hts (.initialized R_Cav) (tbl_at 49 (by decide +kernel) rfl)) hK hP hD hS hA rfl (fun j hj => by rcases (show j = 0 ∨ j = 1 ∨ j = 2 ∨ j = 3 ∨ j = 4 ∨ j = 5 by omega) with rfl | rfl | rfl | rfl | rfl | rfl <;> rfl) h_1 i_1 d_Brt_init_16 (fun q1 H hP hD hS => ?_)
  have hP : va_P D classes (((h0, .inr (8, [.ref (a1 0), .null, .null, .null, .null, .null, .null, .null, .int 0])) :: R1) ++ [(q1, .inr (2, [.null, .null, .int 0, .int 0, .int 0, .int 0]))]) H := hP
  have hD : va_D A (((h0, .inr (8, [.ref (a1 0), .null, .null, .null, .null, .null, .null, .null, .int 0])) :: R1) ++ [(q1, .inr (2, [.null, .null, .int 0, .int 0, .int 0, .int 0]))]) := hD
  refine lv_dup hx hb d_Brt_init_19 rfl ?_
  have hPc := va_lastP hP
  have hDc := va_lastD hD
  have hKc := hK.sub (tys' := [(cI, .int)]) [0] rfl
  have hFc := va_freeL hD hS hA
  refine va_callv (va_runIN (Ts := tbl) (own := R_Brt) (host := "BreatheOut") (As := []) (rest := [.ref q1, .ref h0]) ⟨hx, hb, hml, hown, hts⟩ (c_Cav_init l D cI q1 H.size) ⟨va_cnB 0 hts (good_code (tbl_at 82 rfl rfl)) rfl rfl rfl (hN.1 (R_Brt, 9, y_Cav_init) (by decide +kernel)) (hts _ (tbl_at 49 (by decide +kernel) rfl)) (by decide +kernel) ⟨Nat.le_of_ble_eq_true rfl, Nat.le_of_ble_eq_true rfl⟩, rfl, hts _ (tbl_at 81 (by decide +kernel) rfl)⟩ ⟨ini_blind, fun U hU hW => ⟨rfl, by rw [hU], by rw [hU]; exact hPc, va_K.moved hW.alike hKc, gC_warm hW hN, hDc.weaken (fun _ _ _ _ => trivial)⟩⟩ rfl rfl (hl.1.trans rfl) rfl (lv_room (Nat.le_of_ble_eq_true rfl)) d_Brt_init_20 ⟨Nat.le_of_ble_eq_true rfl, Nat.le_of_ble_eq_true rfl⟩) hS (fun q _ h => hFc q h) hFc (fun u t H1 locs ht hvm hw hB hz1 hk1 hS => ?_)
  obtain ⟨a2, cS2⟩ := u
  obtain ⟨hP1, hD1, -⟩ := hB
  rw [ht] at hP1
  dsimp only at hw hP1 hD1
  obtain ⟨hPn, hDn⟩ := va_joinL (w1 := sg cI cS2 a2 z_Cav 0 [2, 3, 112, 112, 112, 112, 112, 112, 112, 112, 4, 106, 106, 106, 106, 106, 106]) hP hD hk1 hFc hP1 hD1
  clear hP hD hPc hDc hFc
  subst hw
  generalize H1 = H at hPn hS ⊢
  have hP := hPn
  have hD := hDn
  have hP : va_P D classes ((h0, .inr (8, [.ref (a1 0), .null, .null, .null, .null, .null, .null, .null, .int 0])) :: (R1 ++ sg cI cS2 a2 z_Cav 0 [2, 3, 112, 112, 112, 112, 112, 112, 112, 112, 4, 106, 106, 106, 106, 106, 106])) H := hP
  have hD : va_D A ((h0, .inr (8, [.ref (a1 0), .null, .null, .null, .null, .null, .null, .null, .int 0])) :: (R1 ++ sg cI cS2 a2 z_Cav 0 [2, 3, 112, 112, 112, 112, 112, 112, 112, 112, 4, 106, 106, 106, 106, 106, 106])) := hD
  generalize eR2 : R1 ++ sg cI cS2 a2 z_Cav 0 [2, 3, 112, 112, 112, 112, 112, 112, 112, 112, 4, 106, 106, 106, 106, 106, 106] = R2 at hP hD
  refine va_putF (D := D) (ci := 8) (v := .ref (a2 0)) (ty := .object "BreatheOut$Cave") (C := R_Brt) (T := F_Brt) (N := 9) hx hb hts i_Brt t_Brt t_Brt_ok n_Brt hown hK hP hD hS 0 rfl rfl 1 (by decide) (hts (.fieldLink R_Brt 16 "BreatheOut" "kept" "LBreatheOut$Cave;") (tbl_at 363 (by decide +kernel) rfl)) (fun _ h9 => h9) rfl hin rfl (by decide +kernel) rfl rfl (Nat.le_of_ble_eq_true rfl) d_Brt_init_23 (fun H locs hP hD hS => ?_)
  have hP : va_P D classes ((h0, .inr (8, [.ref (a1 0), .ref (a2 0), .null, .null, .null, .null, .null, .null, .int 0])) :: R2) H := hP
  have hD : va_D A ((h0, .inr (8, [.ref (a1 0), .ref (a2 0), .null, .null, .null, .null, .null, .null, .int 0])) :: R2) := hD
  refine lv_aload_n hx hb d_Brt_init_26 rfl (lv_at hl 0 rfl) ?_
  have h_2 : 34 + 1 ≤ 81 := by decide
  have i_2 : 308 + 6 ≤ 1393 := by decide
  refine va_new (ci := 2) (fs := [.null, .null, .int 0, .int 0, .int 0, .int 0]) (C := R_Cav) (T := F_Cav) (N := 6) hx hb hts i_Cav t_Cav t_Cav_ok hown (hts (.classLink R_Brt 7 R_Cav) (tbl_at 78 (by decide +kernel) rfl)) (hts (.instantiable R_Cav 6) (tbl_at 79 (by decide +kernel) rfl)) (hts (.initialized R_Cav) (tbl_at 49 (by decide +kernel) rfl)) hK hP hD hS hA rfl (fun j hj => by rcases (show j = 0 ∨ j = 1 ∨ j = 2 ∨ j = 3 ∨ j = 4 ∨ j = 5 by omega) with rfl | rfl | rfl | rfl | rfl | rfl <;> rfl) h_2 i_2 d_Brt_init_27 (fun q2 H hP hD hS => ?_)
  have hP : va_P D classes (((h0, .inr (8, [.ref (a1 0), .ref (a2 0), .null, .null, .null, .null, .null, .null, .int 0])) :: R2) ++ [(q2, .inr (2, [.null, .null, .int 0, .int 0, .int 0, .int 0]))]) H := hP
  have hD : va_D A (((h0, .inr (8, [.ref (a1 0), .ref (a2 0), .null, .null, .null, .null, .null, .null, .int 0])) :: R2) ++ [(q2, .inr (2, [.null, .null, .int 0, .int 0, .int 0, .int 0]))]) := hD
  refine lv_dup hx hb d_Brt_init_30 rfl ?_
  have hPc := va_lastP hP
  have hDc := va_lastD hD
  have hKc := hK.sub (tys' := [(cI, .int)]) [0] rfl
  have hFc := va_freeL hD hS hA
  refine va_callv (va_runIN (Ts := tbl) (own := R_Brt) (host := "BreatheOut") (As := []) (rest := [.ref q2, .ref h0]) ⟨hx, hb, hml, hown, hts⟩ (c_Cav_init l D cI q2 H.size) ⟨va_cnB 0 hts (good_code (tbl_at 82 rfl rfl)) rfl rfl rfl (hN.1 (R_Brt, 9, y_Cav_init) (by decide +kernel)) (hts _ (tbl_at 49 (by decide +kernel) rfl)) (by decide +kernel) ⟨Nat.le_of_ble_eq_true rfl, Nat.le_of_ble_eq_true rfl⟩, rfl, hts _ (tbl_at 81 (by decide +kernel) rfl)⟩ ⟨ini_blind, fun U hU hW => ⟨rfl, by rw [hU], by rw [hU]; exact hPc, va_K.moved hW.alike hKc, gC_warm hW hN, hDc.weaken (fun _ _ _ _ => trivial)⟩⟩ rfl rfl (hl.1.trans rfl) rfl (lv_room (Nat.le_of_ble_eq_true rfl)) d_Brt_init_31 ⟨Nat.le_of_ble_eq_true rfl, Nat.le_of_ble_eq_true rfl⟩) hS (fun q _ h => hFc q h) hFc (fun u t H1 locs ht hvm hw hB hz1 hk1 hS => ?_)
  obtain ⟨a3, cS3⟩ := u
  obtain ⟨hP1, hD1, -⟩ := hB
  rw [ht] at hP1
  dsimp only at hw hP1 hD1
  obtain ⟨hPn, hDn⟩ := va_joinL (w1 := sg cI cS3 a3 z_Cav 0 [2, 3, 112, 112, 112, 112, 112, 112, 112, 112, 4, 106, 106, 106, 106, 106, 106]) hP hD hk1 hFc hP1 hD1
  clear hP hD hPc hDc hFc
  subst hw
  generalize H1 = H at hPn hS ⊢
  have hP := hPn
  have hD := hDn
  have hP : va_P D classes ((h0, .inr (8, [.ref (a1 0), .ref (a2 0), .null, .null, .null, .null, .null, .null, .int 0])) :: (R2 ++ sg cI cS3 a3 z_Cav 0 [2, 3, 112, 112, 112, 112, 112, 112, 112, 112, 4, 106, 106, 106, 106, 106, 106])) H := hP
  have hD : va_D A ((h0, .inr (8, [.ref (a1 0), .ref (a2 0), .null, .null, .null, .null, .null, .null, .int 0])) :: (R2 ++ sg cI cS3 a3 z_Cav 0 [2, 3, 112, 112, 112, 112, 112, 112, 112, 112, 4, 106, 106, 106, 106, 106, 106])) := hD
  generalize eR3 : R2 ++ sg cI cS3 a3 z_Cav 0 [2, 3, 112, 112, 112, 112, 112, 112, 112, 112, 4, 106, 106, 106, 106, 106, 106] = R3 at hP hD
  refine va_putF (D := D) (ci := 8) (v := .ref (a3 0)) (ty := .object "BreatheOut$Cave") (C := R_Brt) (T := F_Brt) (N := 9) hx hb hts i_Brt t_Brt t_Brt_ok n_Brt hown hK hP hD hS 0 rfl rfl 2 (by decide) (hts (.fieldLink R_Brt 19 "BreatheOut" "trial" "LBreatheOut$Cave;") (tbl_at 364 (by decide +kernel) rfl)) (fun _ h9 => h9) rfl hin rfl (by decide +kernel) rfl rfl (Nat.le_of_ble_eq_true rfl) d_Brt_init_34 (fun H locs hP hD hS => ?_)
  have hP : va_P D classes ((h0, .inr (8, [.ref (a1 0), .ref (a2 0), .ref (a3 0), .null, .null, .null, .null, .null, .int 0])) :: R3) H := hP
  have hD : va_D A ((h0, .inr (8, [.ref (a1 0), .ref (a2 0), .ref (a3 0), .null, .null, .null, .null, .null, .int 0])) :: R3) := hD
  refine lv_aload_n hx hb d_Brt_init_37 rfl (lv_at hl 0 rfl) ?_
  have h_3 : 51 + 1 ≤ 81 := by decide
  have i_3 : 462 + 3 ≤ 1393 := by decide
  refine va_new (ci := 6) (fs := [.null, .null, .null]) (C := R_Tri) (T := F_Tri) (N := 3) hx hb hts i_Tri t_Tri t_Tri_ok hown (hts (.classLink R_Brt 22 R_Tri) (tbl_at 204 (by decide +kernel) rfl)) (hts (.instantiable R_Tri 3) (tbl_at 205 (by decide +kernel) rfl)) (hts (.initialized R_Tri) (tbl_at 52 (by decide +kernel) rfl)) hK hP hD hS hA rfl (fun j hj => by rcases (show j = 0 ∨ j = 1 ∨ j = 2 by omega) with rfl | rfl | rfl <;> rfl) h_3 i_3 d_Brt_init_38 (fun q3 H hP hD hS => ?_)
  have hP : va_P D classes (((h0, .inr (8, [.ref (a1 0), .ref (a2 0), .ref (a3 0), .null, .null, .null, .null, .null, .int 0])) :: R3) ++ [(q3, .inr (6, [.null, .null, .null]))]) H := hP
  have hD : va_D A (((h0, .inr (8, [.ref (a1 0), .ref (a2 0), .ref (a3 0), .null, .null, .null, .null, .null, .int 0])) :: R3) ++ [(q3, .inr (6, [.null, .null, .null]))]) := hD
  refine lv_dup hx hb d_Brt_init_41 rfl ?_
  have hPc := va_lastP hP
  have hDc := va_lastD hD
  have hKc := hK.sub (tys' := [(cI, .int)]) [0] rfl
  have hFc := va_freeL hD hS hA
  refine va_callv (va_runIN (Ts := tbl) (own := R_Brt) (host := "BreatheOut") (As := []) (rest := [.ref q3, .ref h0]) ⟨hx, hb, hml, hown, hts⟩ (c_Tri_init l D cI q3 H.size) ⟨va_cnB 0 hts (good_code (tbl_at 208 rfl rfl)) rfl rfl rfl (hN.1 (R_Brt, 24, y_Tri_init) (by decide +kernel)) (hts _ (tbl_at 52 (by decide +kernel) rfl)) (by decide +kernel) ⟨Nat.le_of_ble_eq_true rfl, Nat.le_of_ble_eq_true rfl⟩, rfl, hts _ (tbl_at 207 (by decide +kernel) rfl)⟩ ⟨ini_blind, fun U hU hW => ⟨rfl, by rw [hU], by rw [hU]; exact hPc, va_K.moved hW.alike hKc, gC_warm hW hN, hDc.weaken (fun _ _ _ _ => trivial)⟩⟩ rfl rfl (hl.1.trans rfl) rfl (lv_room (Nat.le_of_ble_eq_true rfl)) d_Brt_init_42 ⟨Nat.le_of_ble_eq_true rfl, Nat.le_of_ble_eq_true rfl⟩) hS (fun q _ h => hFc q h) hFc (fun u t H1 locs ht hvm hw hB hz1 hk1 hS => ?_)
  obtain ⟨a4, cS4⟩ := u
  obtain ⟨hP1, hD1, -⟩ := hB
  rw [ht] at hP1
  dsimp only at hw hP1 hD1
  obtain ⟨hPn, hDn⟩ := va_joinL (w1 := sg cI cS4 a4 z_Tri 0 [5, 6, 106, 6, 106, 101]) hP hD hk1 hFc hP1 hD1
  clear hP hD hPc hDc hFc
  subst hw
  generalize H1 = H at hPn hS ⊢
  have hP := hPn
  have hD := hDn
  have hP : va_P D classes ((h0, .inr (8, [.ref (a1 0), .ref (a2 0), .ref (a3 0), .null, .null, .null, .null, .null, .int 0])) :: (R3 ++ sg cI cS4 a4 z_Tri 0 [5, 6, 106, 6, 106, 101])) H := hP
  have hD : va_D A ((h0, .inr (8, [.ref (a1 0), .ref (a2 0), .ref (a3 0), .null, .null, .null, .null, .null, .int 0])) :: (R3 ++ sg cI cS4 a4 z_Tri 0 [5, 6, 106, 6, 106, 101])) := hD
  generalize eR4 : R3 ++ sg cI cS4 a4 z_Tri 0 [5, 6, 106, 6, 106, 101] = R4 at hP hD
  refine va_putF (D := D) (ci := 8) (v := .ref (a4 0)) (ty := .object "BreatheOut$Trip") (C := R_Brt) (T := F_Brt) (N := 9) hx hb hts i_Brt t_Brt t_Brt_ok n_Brt hown hK hP hD hS 0 rfl rfl 3 (by decide) (hts (.fieldLink R_Brt 25 "BreatheOut" "trip" "LBreatheOut$Trip;") (tbl_at 365 (by decide +kernel) rfl)) (fun _ h9 => h9) rfl hin rfl (by decide +kernel) rfl rfl (Nat.le_of_ble_eq_true rfl) d_Brt_init_45 (fun H locs hP hD hS => ?_)
  have hP : va_P D classes ((h0, .inr (8, [.ref (a1 0), .ref (a2 0), .ref (a3 0), .ref (a4 0), .null, .null, .null, .null, .int 0])) :: R4) H := hP
  have hD : va_D A ((h0, .inr (8, [.ref (a1 0), .ref (a2 0), .ref (a3 0), .ref (a4 0), .null, .null, .null, .null, .int 0])) :: R4) := hD
  refine lv_aload_n hx hb d_Brt_init_48 rfl (lv_at hl 0 rfl) ?_
  have h_4 : 57 + 1 ≤ 81 := by decide
  have i_4 : 492 + 5 ≤ 1393 := by decide
  refine va_new (ci := 0) (fs := [.null, .int 0, .null, .int 0, .int 0]) (C := R_Best) (T := F_Best) (N := 5) hx hb hts i_Best t_Best t_Best_ok hown (hts (.classLink R_Brt 29 R_Best) (tbl_at 263 (by decide +kernel) rfl)) (hts (.instantiable R_Best 5) (tbl_at 264 (by decide +kernel) rfl)) (hts (.initialized R_Best) (tbl_at 54 (by decide +kernel) rfl)) hK hP hD hS hA rfl (fun j hj => by rcases (show j = 0 ∨ j = 1 ∨ j = 2 ∨ j = 3 ∨ j = 4 by omega) with rfl | rfl | rfl | rfl | rfl <;> rfl) h_4 i_4 d_Brt_init_49 (fun q4 H hP hD hS => ?_)
  have hP : va_P D classes (((h0, .inr (8, [.ref (a1 0), .ref (a2 0), .ref (a3 0), .ref (a4 0), .null, .null, .null, .null, .int 0])) :: R4) ++ [(q4, .inr (0, [.null, .int 0, .null, .int 0, .int 0]))]) H := hP
  have hD : va_D A (((h0, .inr (8, [.ref (a1 0), .ref (a2 0), .ref (a3 0), .ref (a4 0), .null, .null, .null, .null, .int 0])) :: R4) ++ [(q4, .inr (0, [.null, .int 0, .null, .int 0, .int 0]))]) := hD
  refine lv_dup hx hb d_Brt_init_52 rfl ?_
  have hPc := va_lastP hP
  have hDc := va_lastD hD
  have hKc := hK.sub (tys' := [(cI, .int)]) [0] rfl
  have hFc := va_freeL hD hS hA
  refine va_callv (va_runIN (Ts := tbl) (own := R_Brt) (host := "BreatheOut") (As := []) (rest := [.ref q4, .ref h0]) ⟨hx, hb, hml, hown, hts⟩ (c_Best_init l D cI q4 H.size) ⟨va_cnB 0 hts (good_code (tbl_at 267 rfl rfl)) rfl rfl rfl (hN.1 (R_Brt, 31, y_Best_init) (by decide +kernel)) (hts _ (tbl_at 54 (by decide +kernel) rfl)) (by decide +kernel) ⟨Nat.le_of_ble_eq_true rfl, Nat.le_of_ble_eq_true rfl⟩, rfl, hts _ (tbl_at 266 (by decide +kernel) rfl)⟩ ⟨ini_blind, fun U hU hW => ⟨rfl, by rw [hU], by rw [hU]; exact hPc, va_K.moved hW.alike hKc, gC_warm hW hN, hDc.weaken (fun _ _ _ _ => trivial)⟩⟩ rfl rfl (hl.1.trans rfl) rfl (lv_room (Nat.le_of_ble_eq_true rfl)) d_Brt_init_53 ⟨Nat.le_of_ble_eq_true rfl, Nat.le_of_ble_eq_true rfl⟩) hS (fun q _ h => hFc q h) hFc (fun u t H1 locs ht hvm hw hB hz1 hk1 hS => ?_)
  obtain ⟨a5, cS5⟩ := u
  obtain ⟨hP1, hD1, -⟩ := hB
  rw [ht] at hP1
  dsimp only at hw hP1 hD1
  obtain ⟨hPn, hDn⟩ := va_joinL (w1 := sg cI cS5 a5 z_Best 0 [7, 106, 106]) hP hD hk1 hFc hP1 hD1
  clear hP hD hPc hDc hFc
  subst hw
  generalize H1 = H at hPn hS ⊢
  have hP := hPn
  have hD := hDn
  have hP : va_P D classes ((h0, .inr (8, [.ref (a1 0), .ref (a2 0), .ref (a3 0), .ref (a4 0), .null, .null, .null, .null, .int 0])) :: (R4 ++ sg cI cS5 a5 z_Best 0 [7, 106, 106])) H := hP
  have hD : va_D A ((h0, .inr (8, [.ref (a1 0), .ref (a2 0), .ref (a3 0), .ref (a4 0), .null, .null, .null, .null, .int 0])) :: (R4 ++ sg cI cS5 a5 z_Best 0 [7, 106, 106])) := hD
  generalize eR5 : R4 ++ sg cI cS5 a5 z_Best 0 [7, 106, 106] = R5 at hP hD
  refine va_putF (D := D) (ci := 8) (v := .ref (a5 0)) (ty := .object "BreatheOut$BestOrder") (C := R_Brt) (T := F_Brt) (N := 9) hx hb hts i_Brt t_Brt t_Brt_ok n_Brt hown hK hP hD hS 0 rfl rfl 4 (by decide) (hts (.fieldLink R_Brt 32 "BreatheOut" "best" "LBreatheOut$BestOrder;") (tbl_at 366 (by decide +kernel) rfl)) (fun _ h9 => h9) rfl hin rfl (by decide +kernel) rfl rfl (Nat.le_of_ble_eq_true rfl) d_Brt_init_56 (fun H locs hP hD hS => ?_)
  have hP : va_P D classes ((h0, .inr (8, [.ref (a1 0), .ref (a2 0), .ref (a3 0), .ref (a4 0), .ref (a5 0), .null, .null, .null, .int 0])) :: R5) H := hP
  have hD : va_D A ((h0, .inr (8, [.ref (a1 0), .ref (a2 0), .ref (a3 0), .ref (a4 0), .ref (a5 0), .null, .null, .null, .int 0])) :: R5) := hD
  refine lv_aload_n hx hb d_Brt_init_59 rfl (lv_at hl 0 rfl) ?_
  have h_5 : 60 + 1 ≤ 81 := by decide
  have i_5 : 509 + 10 ≤ 1393 := by decide
  refine va_new (ci := 4) (fs := [.null, .int 0, .int 0, .int 0, .null, .int 0, .int 0, .int 0, .int 0, .int 0]) (C := R_Res) (T := F_Res) (N := 10) hx hb hts i_Res t_Res t_Res_ok hown (hts (.classLink R_Brt 36 R_Res) (tbl_at 287 (by decide +kernel) rfl)) (hts (.instantiable R_Res 10) (tbl_at 288 (by decide +kernel) rfl)) (hts (.initialized R_Res) (tbl_at 55 (by decide +kernel) rfl)) hK hP hD hS hA rfl (fun j hj => by rcases (show j = 0 ∨ j = 1 ∨ j = 2 ∨ j = 3 ∨ j = 4 ∨ j = 5 ∨ j = 6 ∨ j = 7 ∨ j = 8 ∨ j = 9 by omega) with rfl | rfl | rfl | rfl | rfl | rfl | rfl | rfl | rfl | rfl <;> rfl) h_5 i_5 d_Brt_init_60 (fun q5 H hP hD hS => ?_)
  have hP : va_P D classes (((h0, .inr (8, [.ref (a1 0), .ref (a2 0), .ref (a3 0), .ref (a4 0), .ref (a5 0), .null, .null, .null, .int 0])) :: R5) ++ [(q5, .inr (4, [.null, .int 0, .int 0, .int 0, .null, .int 0, .int 0, .int 0, .int 0, .int 0]))]) H := hP
  have hD : va_D A (((h0, .inr (8, [.ref (a1 0), .ref (a2 0), .ref (a3 0), .ref (a4 0), .ref (a5 0), .null, .null, .null, .int 0])) :: R5) ++ [(q5, .inr (4, [.null, .int 0, .int 0, .int 0, .null, .int 0, .int 0, .int 0, .int 0, .int 0]))]) := hD
  refine lv_dup hx hb d_Brt_init_63 rfl ?_
  have hPc := va_lastP hP
  have hDc := va_lastD hD
  have hKc := hK.sub (tys' := [(cI, .int)]) [0] rfl
  have hFc := va_freeL hD hS hA
  refine va_callv (va_runIN (Ts := tbl) (own := R_Brt) (host := "BreatheOut") (As := []) (rest := [.ref q5, .ref h0]) ⟨hx, hb, hml, hown, hts⟩ (c_Res_init l D cI q5 H.size) ⟨va_cnB 0 hts (good_code (tbl_at 291 rfl rfl)) rfl rfl rfl (hN.1 (R_Brt, 38, y_Res_init) (by decide +kernel)) (hts _ (tbl_at 55 (by decide +kernel) rfl)) (by decide +kernel) ⟨Nat.le_of_ble_eq_true rfl, Nat.le_of_ble_eq_true rfl⟩, rfl, hts _ (tbl_at 290 (by decide +kernel) rfl)⟩ ⟨ini_blind, fun U hU hW => ⟨rfl, by rw [hU], by rw [hU]; exact hPc, va_K.moved hW.alike hKc, gC_warm hW hN, hDc.weaken (fun _ _ _ _ => trivial)⟩⟩ rfl rfl (hl.1.trans rfl) rfl (lv_room (Nat.le_of_ble_eq_true rfl)) d_Brt_init_64 ⟨Nat.le_of_ble_eq_true rfl, Nat.le_of_ble_eq_true rfl⟩) hS (fun q _ h => hFc q h) hFc (fun u t H1 locs ht hvm hw hB hz1 hk1 hS => ?_)
  obtain ⟨a6, cS6⟩ := u
  obtain ⟨hP1, hD1, -⟩ := hB
  rw [ht] at hP1
  dsimp only at hw hP1 hD1
  obtain ⟨hPn, hDn⟩ := va_joinL (w1 := sg cI cS6 a6 z_Res 0 [8, 106, 106]) hP hD hk1 hFc hP1 hD1
  clear hP hD hPc hDc hFc
  subst hw
  generalize H1 = H at hPn hS ⊢
  have hP := hPn
  have hD := hDn
  have hP : va_P D classes ((h0, .inr (8, [.ref (a1 0), .ref (a2 0), .ref (a3 0), .ref (a4 0), .ref (a5 0), .null, .null, .null, .int 0])) :: (R5 ++ sg cI cS6 a6 z_Res 0 [8, 106, 106])) H := hP
  have hD : va_D A ((h0, .inr (8, [.ref (a1 0), .ref (a2 0), .ref (a3 0), .ref (a4 0), .ref (a5 0), .null, .null, .null, .int 0])) :: (R5 ++ sg cI cS6 a6 z_Res 0 [8, 106, 106])) := hD
  generalize eR6 : R5 ++ sg cI cS6 a6 z_Res 0 [8, 106, 106] = R6 at hP hD
  refine va_putF (D := D) (ci := 8) (v := .ref (a6 0)) (ty := .object "BreatheOut$Rescuers") (C := R_Brt) (T := F_Brt) (N := 9) hx hb hts i_Brt t_Brt t_Brt_ok n_Brt hown hK hP hD hS 0 rfl rfl 5 (by decide) (hts (.fieldLink R_Brt 39 "BreatheOut" "rescuers" "LBreatheOut$Rescuers;") (tbl_at 367 (by decide +kernel) rfl)) (fun _ h9 => h9) rfl hin rfl (by decide +kernel) rfl rfl (Nat.le_of_ble_eq_true rfl) d_Brt_init_67 (fun H locs hP hD hS => ?_)
  have hP : va_P D classes ((h0, .inr (8, [.ref (a1 0), .ref (a2 0), .ref (a3 0), .ref (a4 0), .ref (a5 0), .ref (a6 0), .null, .null, .int 0])) :: R6) H := hP
  have hD : va_D A ((h0, .inr (8, [.ref (a1 0), .ref (a2 0), .ref (a3 0), .ref (a4 0), .ref (a5 0), .ref (a6 0), .null, .null, .int 0])) :: R6) := hD
  refine lv_aload_n hx hb d_Brt_init_70 rfl (lv_at hl 0 rfl) ?_
  refine lv_bipush (v := 6) hx hb d_Brt_init_71 (by decide) ?_
  have h_6 : 63 + 1 ≤ 81 := by decide
  have i_6 : 531 + 6 ≤ 1393 := by decide
  refine va_newa (atype := .int) (N' := 6) (a0 := (6, .inl (fun _ => 0))) hx hb (hts _ ai_w) rfl hK hP hD hS hA (fun _ => rfl) (by decide) (by decide) (by decide) h_6 i_6 d_Brt_init_73 (fun q6 cA H hK2 hP hD hS => ?_)
  obtain rfl : cI = cA := (va_one hK2).symm
  have hP : va_P D classes ((h0, .inr (8, [.ref (a1 0), .ref (a2 0), .ref (a3 0), .ref (a4 0), .ref (a5 0), .ref (a6 0), .null, .null, .int 0])) :: (R6 ++ [(q6, .inl (cI, 6, .inl (fun _ => 0)))])) H := hP
  have hD : va_D A ((h0, .inr (8, [.ref (a1 0), .ref (a2 0), .ref (a3 0), .ref (a4 0), .ref (a5 0), .ref (a6 0), .null, .null, .int 0])) :: (R6 ++ [(q6, .inl (cI, 6, .inl (fun _ => 0)))])) := hD
  generalize eR7 : R6 ++ [(q6, .inl (cI, 6, .inl (fun _ => 0)))] = R7 at hP hD
  refine va_putF (D := D) (ci := 8) (v := .ref q6) (ty := .array .int) (C := R_Brt) (T := F_Brt) (N := 9) hx hb hts i_Brt t_Brt t_Brt_ok n_Brt hown hK hP hD hS 0 rfl rfl 6 (by decide) (hts (.fieldLink R_Brt 43 "BreatheOut" "line" "[I") (tbl_at 368 (by decide +kernel) rfl)) (fun _ h9 => h9) rfl hin rfl (by decide +kernel) rfl rfl (Nat.le_of_ble_eq_true rfl) d_Brt_init_75 (fun H locs hP hD hS => ?_)
  have hP : va_P D classes ((h0, .inr (8, [.ref (a1 0), .ref (a2 0), .ref (a3 0), .ref (a4 0), .ref (a5 0), .ref (a6 0), .ref q6, .null, .int 0])) :: R7) H := hP
  have hD : va_D A ((h0, .inr (8, [.ref (a1 0), .ref (a2 0), .ref (a3 0), .ref (a4 0), .ref (a5 0), .ref (a6 0), .ref q6, .null, .int 0])) :: R7) := hD
  refine lv_aload_n hx hb d_Brt_init_78 rfl (lv_at hl 0 rfl) ?_
  refine lv_bipush (v := 8) hx hb d_Brt_init_79 (by decide) ?_
  have h_7 : 64 + 1 ≤ 81 := by decide
  have i_7 : 537 + 8 ≤ 1393 := by decide
  refine va_newq (C := R_She) (N' := 8) hx hb hown (hts (.classLink R_Brt 47 R_She) (tbl_at 328 (by decide +kernel) rfl)) hN.2 hK hP hD hS hA (by decide) (by decide) (by decide) h_7 i_7 d_Brt_init_81 (fun q7 cS H hK hP hD hS => ?_)
  have hK : va_K D classes [(cI, .int), (cS, .object "BreatheOut$Shelf")] s := hK
  have hP : va_P D classes ((h0, .inr (8, [.ref (a1 0), .ref (a2 0), .ref (a3 0), .ref (a4 0), .ref (a5 0), .ref (a6 0), .ref q6, .null, .int 0])) :: (q7, .inl (cS, 8, .inr (.inr (.inr (.inr (fun _ => none)))))) :: R7) H := va_Pp (.cons _ List.perm_append_comm) hP
  have hD : va_D A ((h0, .inr (8, [.ref (a1 0), .ref (a2 0), .ref (a3 0), .ref (a4 0), .ref (a5 0), .ref (a6 0), .ref q6, .null, .int 0])) :: (q7, .inl (cS, 8, .inr (.inr (.inr (.inr (fun _ => none)))))) :: R7) := va_Dp (.cons _ List.perm_append_comm) hD
  have hP : va_P D classes ((h0, .inr (8, [.ref (a1 0), .ref (a2 0), .ref (a3 0), .ref (a4 0), .ref (a5 0), .ref (a6 0), .ref q6, .null, .int 0])) :: (q7, .inl (cS, 8, .inr (.inr (.inr (.inr (fun _ => none)))))) :: (R7 ++ ([] : va_W))) H := by rw [List.append_nil]; exact hP
  have hD : va_D A ((h0, .inr (8, [.ref (a1 0), .ref (a2 0), .ref (a3 0), .ref (a4 0), .ref (a5 0), .ref (a6 0), .ref q6, .null, .int 0])) :: (q7, .inl (cS, 8, .inr (.inr (.inr (.inr (fun _ => none)))))) :: (R7 ++ ([] : va_W))) := by rw [List.append_nil]; exact hD
  refine va_putF (D := D) (ci := 8) (v := .ref q7) (ty := .array (.object "BreatheOut$Shelf")) (C := R_Brt) (T := F_Brt) (N := 9) hx hb hts i_Brt t_Brt t_Brt_ok n_Brt hown hK hP hD hS 0 rfl rfl 7 (by decide) (hts (.fieldLink R_Brt 49 "BreatheOut" "shelves" "[LBreatheOut$Shelf;") (tbl_at 369 (by decide +kernel) rfl)) (fun _ h9 => h9) rfl hin rfl (by decide +kernel) rfl rfl (Nat.le_of_ble_eq_true rfl) d_Brt_init_84 (fun H locs hP hD hS => ?_)
  have hP : va_P D classes ((h0, .inr (8, [.ref (a1 0), .ref (a2 0), .ref (a3 0), .ref (a4 0), .ref (a5 0), .ref (a6 0), .ref q6, .ref q7, .int 0])) :: (q7, .inl (cS, 8, .inr (.inr (.inr (.inr (fun _ => none)))))) :: (R7 ++ ([] : va_W))) H := hP
  have hD : va_D A ((h0, .inr (8, [.ref (a1 0), .ref (a2 0), .ref (a3 0), .ref (a4 0), .ref (a5 0), .ref (a6 0), .ref q6, .ref q7, .int 0])) :: (q7, .inl (cS, 8, .inr (.inr (.inr (.inr (fun _ => none)))))) :: (R7 ++ ([] : va_W))) := hD
  refine lv_aload_n hx hb d_Brt_init_87 rfl (lv_at hl 0 rfl) ?_
  refine lv_iconst (v := 0) hx hb d_Brt_init_88 (by decide) ?_
  refine va_put (D := D) (ci := 8) (v := .int 0) (ty := .boolean) (C := R_Brt) (T := F_Brt) (N := 9) hx hb hts i_Brt t_Brt t_Brt_ok n_Brt hown hK hP hD hS 0 rfl rfl 8 (by decide) (hts (.fieldLink R_Brt 53 "BreatheOut" "imageTaken" "Z") (tbl_at 370 (by decide +kernel) rfl)) (fun _ h9 => h9) rfl (by decide +kernel) rfl rfl (Nat.le_of_ble_eq_true rfl) d_Brt_init_89 (fun H locs hP hD hS => ?_)
  have hP : va_P D classes ((h0, .inr (8, [.ref (a1 0), .ref (a2 0), .ref (a3 0), .ref (a4 0), .ref (a5 0), .ref (a6 0), .ref q6, .ref q7, .int 0])) :: (q7, .inl (cS, 8, .inr (.inr (.inr (.inr (fun _ => none)))))) :: (R7 ++ ([] : va_W))) H := hP
  have hD : va_D A ((h0, .inr (8, [.ref (a1 0), .ref (a2 0), .ref (a3 0), .ref (a4 0), .ref (a5 0), .ref (a6 0), .ref q6, .ref q7, .int 0])) :: (q7, .inl (cS, 8, .inr (.inr (.inr (.inr (fun _ => none)))))) :: (R7 ++ ([] : va_W))) := hD
  refine lv_iconst (v := 0) hx hb d_Brt_init_92 (by decide) ?_
  refine lv_istore_n (lv' := [(1, .int 0), (0, .ref h0)]) hx hb d_Brt_init_93 rfl hl (by decide) rfl (fun ls hl => ?_)
  refine lv_iload_n hx hb d_Brt_init_94 rfl (lv_at hl 0 rfl) ?_
  refine lv_bipush (v := 8) hx hb d_Brt_init_95 (by decide) ?_
  refine lv_icmp_ge (tgt := 119) hx hb d_Brt_init_97 (by decide) (fun c_9 => absurd c_9 (by decide)) (fun _ => ?_)
  refine lv_aload_n hx hb d_Brt_init_100 rfl (lv_at hl 1 rfl) ?_
  refine va_get (D := D) (ci := 8) (v := .ref q7) (C := R_Brt) (T := F_Brt) (N := 9) hx hb hts i_Brt hown hK hP 0 rfl rfl 7 (by decide) (hts (.fieldLink R_Brt 49 "BreatheOut" "shelves" "[LBreatheOut$Shelf;") (tbl_at 369 (by decide +kernel) rfl)) (fun _ h9 => h9) rfl d_Brt_init_101 ?_
  refine lv_iload_n hx hb d_Brt_init_104 rfl (lv_at hl 0 rfl) ?_
  have h_8 : 65 + 1 ≤ 81 := by decide
  have i_8 : 545 + 6 ≤ 1393 := by decide
  refine va_new (ci := 5) (fs := [.int 0, .int 0, .int 0, .int 0, .int 0, .null]) (C := R_She) (T := F_She) (N := 6) hx hb hts i_She t_She t_She_ok hown (hts (.classLink R_Brt 47 R_She) (tbl_at 328 (by decide +kernel) rfl)) (hts (.instantiable R_She 6) (tbl_at 330 (by decide +kernel) rfl)) (hts (.initialized R_She) (tbl_at 56 (by decide +kernel) rfl)) hK hP hD hS hA rfl (fun j hj => by rcases (show j = 0 ∨ j = 1 ∨ j = 2 ∨ j = 3 ∨ j = 4 ∨ j = 5 by omega) with rfl | rfl | rfl | rfl | rfl | rfl <;> rfl) h_8 i_8 d_Brt_init_105 (fun q8 H hP hD hS => ?_)
  have hP : va_P D classes (((h0, .inr (8, [.ref (a1 0), .ref (a2 0), .ref (a3 0), .ref (a4 0), .ref (a5 0), .ref (a6 0), .ref q6, .ref q7, .int 0])) :: (q7, .inl (cS, 8, .inr (.inr (.inr (.inr (fun _ => none)))))) :: (R7 ++ ([] : va_W))) ++ [(q8, .inr (5, [.int 0, .int 0, .int 0, .int 0, .int 0, .null]))]) H := hP
  have hD : va_D A (((h0, .inr (8, [.ref (a1 0), .ref (a2 0), .ref (a3 0), .ref (a4 0), .ref (a5 0), .ref (a6 0), .ref q6, .ref q7, .int 0])) :: (q7, .inl (cS, 8, .inr (.inr (.inr (.inr (fun _ => none)))))) :: (R7 ++ ([] : va_W))) ++ [(q8, .inr (5, [.int 0, .int 0, .int 0, .int 0, .int 0, .null]))]) := hD
  refine lv_dup hx hb d_Brt_init_108 rfl ?_
  have hPc := va_lastP hP
  have hDc := va_lastD hD
  have hKc := hK.sub (tys' := [(cI, .int)]) [0] rfl
  have hFc := va_freeL hD hS hA
  refine va_callv (va_runIN (Ts := tbl) (own := R_Brt) (host := "BreatheOut") (As := []) (rest := [.ref q8, .int 0, .ref q7]) ⟨hx, hb, hml, hown, hts⟩ (c_She_init l D cI q8 H.size) ⟨va_cnB 0 hts (good_code (tbl_at 333 rfl rfl)) rfl rfl rfl (hN.1 (R_Brt, 57, y_She_init) (by decide +kernel)) (hts _ (tbl_at 56 (by decide +kernel) rfl)) (by decide +kernel) ⟨Nat.le_of_ble_eq_true rfl, Nat.le_of_ble_eq_true rfl⟩, rfl, hts _ (tbl_at 332 (by decide +kernel) rfl)⟩ ⟨ini_blind, fun U hU hW => ⟨rfl, by rw [hU], by rw [hU]; exact hPc, va_K.moved hW.alike hKc, gC_warm hW hN, hDc.weaken (fun _ _ _ _ => trivial)⟩⟩ rfl rfl (hl.1.trans rfl) rfl (lv_room (Nat.le_of_ble_eq_true rfl)) d_Brt_init_109 ⟨Nat.le_of_ble_eq_true rfl, Nat.le_of_ble_eq_true rfl⟩) hS (fun q _ h => hFc q h) hFc (fun u t H1 locs ht hvm hw hB hz1 hk1 hS => ?_)
  obtain ⟨a7, cS7⟩ := u
  obtain ⟨hP1, hD1, -⟩ := hB
  rw [ht] at hP1
  dsimp only at hw hP1 hD1
  obtain ⟨hPn, hDn⟩ := va_joinL (w1 := sg cI cS7 a7 z_She 0 [9, 200]) hP hD hk1 hFc hP1 hD1
  clear hP hD hPc hDc hFc
  subst hw
  generalize H1 = H at hPn hS ⊢
  have hP := hPn
  have hD := hDn
  have hP : va_P D classes ((h0, .inr (8, [.ref (a1 0), .ref (a2 0), .ref (a3 0), .ref (a4 0), .ref (a5 0), .ref (a6 0), .ref q6, .ref q7, .int 0])) :: (q7, .inl (cS, 8, .inr (.inr (.inr (.inr (fun _ => none)))))) :: (sg cI cS7 a7 z_She 0 [9, 200] ++ (R7 ++ ([] : va_W)))) H := va_Pp (.cons _ (.cons _ List.perm_append_comm)) hP
  have hD : va_D A ((h0, .inr (8, [.ref (a1 0), .ref (a2 0), .ref (a3 0), .ref (a4 0), .ref (a5 0), .ref (a6 0), .ref q6, .ref q7, .int 0])) :: (q7, .inl (cS, 8, .inr (.inr (.inr (.inr (fun _ => none)))))) :: (sg cI cS7 a7 z_She 0 [9, 200] ++ (R7 ++ ([] : va_W)))) := va_Dp (.cons _ (.cons _ List.perm_append_comm)) hD
  refine va_astq hx hb hK hP hD hS 1 1 2 5 rfl rfl rfl rfl (by unfold vp_in; decide) d_Brt_init_112 (fun H locs hP hD hS => ?_)
  have hP : va_P D classes ((h0, .inr (8, [.ref (a1 0), .ref (a2 0), .ref (a3 0), .ref (a4 0), .ref (a5 0), .ref (a6 0), .ref q6, .ref q7, .int 0])) :: (q7, .inl (cS, 8, .inr (.inr (.inr (.inr (va_up (fun _ => none) 0 (some (a7 0)))))))) :: (sg cI cS7 a7 z_She 0 [9, 200] ++ (R7 ++ ([] : va_W)))) H := hP
  have hD : va_D A ((h0, .inr (8, [.ref (a1 0), .ref (a2 0), .ref (a3 0), .ref (a4 0), .ref (a5 0), .ref (a6 0), .ref q6, .ref q7, .int 0])) :: (q7, .inl (cS, 8, .inr (.inr (.inr (.inr (va_up (fun _ => none) 0 (some (a7 0)))))))) :: (sg cI cS7 a7 z_She 0 [9, 200] ++ (R7 ++ ([] : va_W)))) := hD
  have hP : va_P D classes ((h0, .inr (8, [.ref (a1 0), .ref (a2 0), .ref (a3 0), .ref (a4 0), .ref (a5 0), .ref (a6 0), .ref q6, .ref q7, .int 0])) :: (q7, .inl (cS, 8, .inr (.inr (.inr (.inr (va_up (fun _ => none) 0 (some (a7 0)))))))) :: (R7 ++ (([] : va_W) ++ sg cI cS7 a7 z_She 0 [9, 200]))) H := va_Pp (.cons _ (.cons _ (List.perm_append_comm.trans (.of_eq (List.append_assoc _ _ _))))) hP
  have hD : va_D A ((h0, .inr (8, [.ref (a1 0), .ref (a2 0), .ref (a3 0), .ref (a4 0), .ref (a5 0), .ref (a6 0), .ref q6, .ref q7, .int 0])) :: (q7, .inl (cS, 8, .inr (.inr (.inr (.inr (va_up (fun _ => none) 0 (some (a7 0)))))))) :: (R7 ++ (([] : va_W) ++ sg cI cS7 a7 z_She 0 [9, 200]))) := va_Dp (.cons _ (.cons _ (List.perm_append_comm.trans (.of_eq (List.append_assoc _ _ _))))) hD
  generalize eT8 : ([] : va_W) ++ sg cI cS7 a7 z_She 0 [9, 200] = T8 at hP hD
  refine lv_iinc (v := 1) (lv' := [(1, .int 1), (0, .ref h0)]) hx hb d_Brt_init_113 hl (k := 0) rfl (by decide) (by decide) rfl (fun ls hl => ?_)
  refine lv_goto (tgt := 94) hx hb d_Brt_init_116 (by decide) ?_
  refine lv_iload_n hx hb d_Brt_init_94 rfl (lv_at hl 0 rfl) ?_
  refine lv_bipush (v := 8) hx hb d_Brt_init_95 (by decide) ?_
  refine lv_icmp_ge (tgt := 119) hx hb d_Brt_init_97 (by decide) (fun c_9 => absurd c_9 (by decide)) (fun _ => ?_)
  refine lv_aload_n hx hb d_Brt_init_100 rfl (lv_at hl 1 rfl) ?_
  refine va_get (D := D) (ci := 8) (v := .ref q7) (C := R_Brt) (T := F_Brt) (N := 9) hx hb hts i_Brt hown hK hP 0 rfl rfl 7 (by decide) (hts (.fieldLink R_Brt 49 "BreatheOut" "shelves" "[LBreatheOut$Shelf;") (tbl_at 369 (by decide +kernel) rfl)) (fun _ h9 => h9) rfl d_Brt_init_101 ?_
  refine lv_iload_n hx hb d_Brt_init_104 rfl (lv_at hl 0 rfl) ?_
  have h_9 : 67 + 1 ≤ 81 := by decide
  have i_9 : 651 + 6 ≤ 1393 := by decide
  refine va_new (ci := 5) (fs := [.int 0, .int 0, .int 0, .int 0, .int 0, .null]) (C := R_She) (T := F_She) (N := 6) hx hb hts i_She t_She t_She_ok hown (hts (.classLink R_Brt 47 R_She) (tbl_at 328 (by decide +kernel) rfl)) (hts (.instantiable R_She 6) (tbl_at 330 (by decide +kernel) rfl)) (hts (.initialized R_She) (tbl_at 56 (by decide +kernel) rfl)) hK hP hD hS hA rfl (fun j hj => by rcases (show j = 0 ∨ j = 1 ∨ j = 2 ∨ j = 3 ∨ j = 4 ∨ j = 5 by omega) with rfl | rfl | rfl | rfl | rfl | rfl <;> rfl) h_9 i_9 d_Brt_init_105 (fun q9 H hP hD hS => ?_)
  have hP : va_P D classes (((h0, .inr (8, [.ref (a1 0), .ref (a2 0), .ref (a3 0), .ref (a4 0), .ref (a5 0), .ref (a6 0), .ref q6, .ref q7, .int 0])) :: (q7, .inl (cS, 8, .inr (.inr (.inr (.inr (va_up (fun _ => none) 0 (some (a7 0)))))))) :: (R7 ++ T8)) ++ [(q9, .inr (5, [.int 0, .int 0, .int 0, .int 0, .int 0, .null]))]) H := hP
  have hD : va_D A (((h0, .inr (8, [.ref (a1 0), .ref (a2 0), .ref (a3 0), .ref (a4 0), .ref (a5 0), .ref (a6 0), .ref q6, .ref q7, .int 0])) :: (q7, .inl (cS, 8, .inr (.inr (.inr (.inr (va_up (fun _ => none) 0 (some (a7 0)))))))) :: (R7 ++ T8)) ++ [(q9, .inr (5, [.int 0, .int 0, .int 0, .int 0, .int 0, .null]))]) := hD
  refine lv_dup hx hb d_Brt_init_108 rfl ?_
  have hPc := va_lastP hP
  have hDc := va_lastD hD
  have hKc := hK.sub (tys' := [(cI, .int)]) [0] rfl
  have hFc := va_freeL hD hS hA
  refine va_callv (va_runIN (Ts := tbl) (own := R_Brt) (host := "BreatheOut") (As := []) (rest := [.ref q9, .int 1, .ref q7]) ⟨hx, hb, hml, hown, hts⟩ (c_She_init l D cI q9 H.size) ⟨va_cnB 0 hts (good_code (tbl_at 333 rfl rfl)) rfl rfl rfl (hN.1 (R_Brt, 57, y_She_init) (by decide +kernel)) (hts _ (tbl_at 56 (by decide +kernel) rfl)) (by decide +kernel) ⟨Nat.le_of_ble_eq_true rfl, Nat.le_of_ble_eq_true rfl⟩, rfl, hts _ (tbl_at 332 (by decide +kernel) rfl)⟩ ⟨ini_blind, fun U hU hW => ⟨rfl, by rw [hU], by rw [hU]; exact hPc, va_K.moved hW.alike hKc, gC_warm hW hN, hDc.weaken (fun _ _ _ _ => trivial)⟩⟩ rfl rfl (hl.1.trans rfl) rfl (lv_room (Nat.le_of_ble_eq_true rfl)) d_Brt_init_109 ⟨Nat.le_of_ble_eq_true rfl, Nat.le_of_ble_eq_true rfl⟩) hS (fun q _ h => hFc q h) hFc (fun u t H1 locs ht hvm hw hB hz1 hk1 hS => ?_)
  obtain ⟨a8, cS8⟩ := u
  obtain ⟨hP1, hD1, -⟩ := hB
  rw [ht] at hP1
  dsimp only at hw hP1 hD1
  obtain ⟨hPn, hDn⟩ := va_joinL (w1 := sg cI cS8 a8 z_She 0 [9, 200]) hP hD hk1 hFc hP1 hD1
  clear hP hD hPc hDc hFc
  subst hw
  generalize H1 = H at hPn hS ⊢
  have hP := hPn
  have hD := hDn
  have hP : va_P D classes ((h0, .inr (8, [.ref (a1 0), .ref (a2 0), .ref (a3 0), .ref (a4 0), .ref (a5 0), .ref (a6 0), .ref q6, .ref q7, .int 0])) :: (q7, .inl (cS, 8, .inr (.inr (.inr (.inr (va_up (fun _ => none) 0 (some (a7 0)))))))) :: (sg cI cS8 a8 z_She 0 [9, 200] ++ (R7 ++ T8))) H := va_Pp (.cons _ (.cons _ List.perm_append_comm)) hP
  have hD : va_D A ((h0, .inr (8, [.ref (a1 0), .ref (a2 0), .ref (a3 0), .ref (a4 0), .ref (a5 0), .ref (a6 0), .ref q6, .ref q7, .int 0])) :: (q7, .inl (cS, 8, .inr (.inr (.inr (.inr (va_up (fun _ => none) 0 (some (a7 0)))))))) :: (sg cI cS8 a8 z_She 0 [9, 200] ++ (R7 ++ T8))) := va_Dp (.cons _ (.cons _ List.perm_append_comm)) hD
  refine va_astq hx hb hK hP hD hS 1 1 2 5 rfl rfl rfl rfl (by unfold vp_in; decide) d_Brt_init_112 (fun H locs hP hD hS => ?_)
  have hP : va_P D classes ((h0, .inr (8, [.ref (a1 0), .ref (a2 0), .ref (a3 0), .ref (a4 0), .ref (a5 0), .ref (a6 0), .ref q6, .ref q7, .int 0])) :: (q7, .inl (cS, 8, .inr (.inr (.inr (.inr (va_up (va_up (fun _ => none) 0 (some (a7 0))) 1 (some (a8 0)))))))) :: (sg cI cS8 a8 z_She 0 [9, 200] ++ (R7 ++ T8))) H := hP
  have hD : va_D A ((h0, .inr (8, [.ref (a1 0), .ref (a2 0), .ref (a3 0), .ref (a4 0), .ref (a5 0), .ref (a6 0), .ref q6, .ref q7, .int 0])) :: (q7, .inl (cS, 8, .inr (.inr (.inr (.inr (va_up (va_up (fun _ => none) 0 (some (a7 0))) 1 (some (a8 0)))))))) :: (sg cI cS8 a8 z_She 0 [9, 200] ++ (R7 ++ T8))) := hD
  have hP : va_P D classes ((h0, .inr (8, [.ref (a1 0), .ref (a2 0), .ref (a3 0), .ref (a4 0), .ref (a5 0), .ref (a6 0), .ref q6, .ref q7, .int 0])) :: (q7, .inl (cS, 8, .inr (.inr (.inr (.inr (va_up (va_up (fun _ => none) 0 (some (a7 0))) 1 (some (a8 0)))))))) :: (R7 ++ (T8 ++ sg cI cS8 a8 z_She 0 [9, 200]))) H := va_Pp (.cons _ (.cons _ (List.perm_append_comm.trans (.of_eq (List.append_assoc _ _ _))))) hP
  have hD : va_D A ((h0, .inr (8, [.ref (a1 0), .ref (a2 0), .ref (a3 0), .ref (a4 0), .ref (a5 0), .ref (a6 0), .ref q6, .ref q7, .int 0])) :: (q7, .inl (cS, 8, .inr (.inr (.inr (.inr (va_up (va_up (fun _ => none) 0 (some (a7 0))) 1 (some (a8 0)))))))) :: (R7 ++ (T8 ++ sg cI cS8 a8 z_She 0 [9, 200]))) := va_Dp (.cons _ (.cons _ (List.perm_append_comm.trans (.of_eq (List.append_assoc _ _ _))))) hD
  generalize eT9 : T8 ++ sg cI cS8 a8 z_She 0 [9, 200] = T9 at hP hD
  refine lv_iinc (v := 2) (lv' := [(1, .int 2), (0, .ref h0)]) hx hb d_Brt_init_113 hl (k := 0) rfl (by decide) (by decide) rfl (fun ls hl => ?_)
  refine lv_goto (tgt := 94) hx hb d_Brt_init_116 (by decide) ?_
  refine lv_iload_n hx hb d_Brt_init_94 rfl (lv_at hl 0 rfl) ?_
  refine lv_bipush (v := 8) hx hb d_Brt_init_95 (by decide) ?_
  refine lv_icmp_ge (tgt := 119) hx hb d_Brt_init_97 (by decide) (fun c_9 => absurd c_9 (by decide)) (fun _ => ?_)
  refine lv_aload_n hx hb d_Brt_init_100 rfl (lv_at hl 1 rfl) ?_
  refine va_get (D := D) (ci := 8) (v := .ref q7) (C := R_Brt) (T := F_Brt) (N := 9) hx hb hts i_Brt hown hK hP 0 rfl rfl 7 (by decide) (hts (.fieldLink R_Brt 49 "BreatheOut" "shelves" "[LBreatheOut$Shelf;") (tbl_at 369 (by decide +kernel) rfl)) (fun _ h9 => h9) rfl d_Brt_init_101 ?_
  refine lv_iload_n hx hb d_Brt_init_104 rfl (lv_at hl 0 rfl) ?_
  have h_10 : 69 + 1 ≤ 81 := by decide
  have i_10 : 757 + 6 ≤ 1393 := by decide
  refine va_new (ci := 5) (fs := [.int 0, .int 0, .int 0, .int 0, .int 0, .null]) (C := R_She) (T := F_She) (N := 6) hx hb hts i_She t_She t_She_ok hown (hts (.classLink R_Brt 47 R_She) (tbl_at 328 (by decide +kernel) rfl)) (hts (.instantiable R_She 6) (tbl_at 330 (by decide +kernel) rfl)) (hts (.initialized R_She) (tbl_at 56 (by decide +kernel) rfl)) hK hP hD hS hA rfl (fun j hj => by rcases (show j = 0 ∨ j = 1 ∨ j = 2 ∨ j = 3 ∨ j = 4 ∨ j = 5 by omega) with rfl | rfl | rfl | rfl | rfl | rfl <;> rfl) h_10 i_10 d_Brt_init_105 (fun q10 H hP hD hS => ?_)
  have hP : va_P D classes (((h0, .inr (8, [.ref (a1 0), .ref (a2 0), .ref (a3 0), .ref (a4 0), .ref (a5 0), .ref (a6 0), .ref q6, .ref q7, .int 0])) :: (q7, .inl (cS, 8, .inr (.inr (.inr (.inr (va_up (va_up (fun _ => none) 0 (some (a7 0))) 1 (some (a8 0)))))))) :: (R7 ++ T9)) ++ [(q10, .inr (5, [.int 0, .int 0, .int 0, .int 0, .int 0, .null]))]) H := hP
  have hD : va_D A (((h0, .inr (8, [.ref (a1 0), .ref (a2 0), .ref (a3 0), .ref (a4 0), .ref (a5 0), .ref (a6 0), .ref q6, .ref q7, .int 0])) :: (q7, .inl (cS, 8, .inr (.inr (.inr (.inr (va_up (va_up (fun _ => none) 0 (some (a7 0))) 1 (some (a8 0)))))))) :: (R7 ++ T9)) ++ [(q10, .inr (5, [.int 0, .int 0, .int 0, .int 0, .int 0, .null]))]) := hD
  refine lv_dup hx hb d_Brt_init_108 rfl ?_
  have hPc := va_lastP hP
  have hDc := va_lastD hD
  have hKc := hK.sub (tys' := [(cI, .int)]) [0] rfl
  have hFc := va_freeL hD hS hA
  refine va_callv (va_runIN (Ts := tbl) (own := R_Brt) (host := "BreatheOut") (As := []) (rest := [.ref q10, .int 2, .ref q7]) ⟨hx, hb, hml, hown, hts⟩ (c_She_init l D cI q10 H.size) ⟨va_cnB 0 hts (good_code (tbl_at 333 rfl rfl)) rfl rfl rfl (hN.1 (R_Brt, 57, y_She_init) (by decide +kernel)) (hts _ (tbl_at 56 (by decide +kernel) rfl)) (by decide +kernel) ⟨Nat.le_of_ble_eq_true rfl, Nat.le_of_ble_eq_true rfl⟩, rfl, hts _ (tbl_at 332 (by decide +kernel) rfl)⟩ ⟨ini_blind, fun U hU hW => ⟨rfl, by rw [hU], by rw [hU]; exact hPc, va_K.moved hW.alike hKc, gC_warm hW hN, hDc.weaken (fun _ _ _ _ => trivial)⟩⟩ rfl rfl (hl.1.trans rfl) rfl (lv_room (Nat.le_of_ble_eq_true rfl)) d_Brt_init_109 ⟨Nat.le_of_ble_eq_true rfl, Nat.le_of_ble_eq_true rfl⟩) hS (fun q _ h => hFc q h) hFc (fun u t H1 locs ht hvm hw hB hz1 hk1 hS => ?_)
  obtain ⟨a9, cS9⟩ := u
  obtain ⟨hP1, hD1, -⟩ := hB
  rw [ht] at hP1
  dsimp only at hw hP1 hD1
  obtain ⟨hPn, hDn⟩ := va_joinL (w1 := sg cI cS9 a9 z_She 0 [9, 200]) hP hD hk1 hFc hP1 hD1
  clear hP hD hPc hDc hFc
  subst hw
  generalize H1 = H at hPn hS ⊢
  have hP := hPn
  have hD := hDn
  have hP : va_P D classes ((h0, .inr (8, [.ref (a1 0), .ref (a2 0), .ref (a3 0), .ref (a4 0), .ref (a5 0), .ref (a6 0), .ref q6, .ref q7, .int 0])) :: (q7, .inl (cS, 8, .inr (.inr (.inr (.inr (va_up (va_up (fun _ => none) 0 (some (a7 0))) 1 (some (a8 0)))))))) :: (sg cI cS9 a9 z_She 0 [9, 200] ++ (R7 ++ T9))) H := va_Pp (.cons _ (.cons _ List.perm_append_comm)) hP
  have hD : va_D A ((h0, .inr (8, [.ref (a1 0), .ref (a2 0), .ref (a3 0), .ref (a4 0), .ref (a5 0), .ref (a6 0), .ref q6, .ref q7, .int 0])) :: (q7, .inl (cS, 8, .inr (.inr (.inr (.inr (va_up (va_up (fun _ => none) 0 (some (a7 0))) 1 (some (a8 0)))))))) :: (sg cI cS9 a9 z_She 0 [9, 200] ++ (R7 ++ T9))) := va_Dp (.cons _ (.cons _ List.perm_append_comm)) hD
  refine va_astq hx hb hK hP hD hS 1 1 2 5 rfl rfl rfl rfl (by unfold vp_in; decide) d_Brt_init_112 (fun H locs hP hD hS => ?_)
  have hP : va_P D classes ((h0, .inr (8, [.ref (a1 0), .ref (a2 0), .ref (a3 0), .ref (a4 0), .ref (a5 0), .ref (a6 0), .ref q6, .ref q7, .int 0])) :: (q7, .inl (cS, 8, .inr (.inr (.inr (.inr (va_up (va_up (va_up (fun _ => none) 0 (some (a7 0))) 1 (some (a8 0))) 2 (some (a9 0)))))))) :: (sg cI cS9 a9 z_She 0 [9, 200] ++ (R7 ++ T9))) H := hP
  have hD : va_D A ((h0, .inr (8, [.ref (a1 0), .ref (a2 0), .ref (a3 0), .ref (a4 0), .ref (a5 0), .ref (a6 0), .ref q6, .ref q7, .int 0])) :: (q7, .inl (cS, 8, .inr (.inr (.inr (.inr (va_up (va_up (va_up (fun _ => none) 0 (some (a7 0))) 1 (some (a8 0))) 2 (some (a9 0)))))))) :: (sg cI cS9 a9 z_She 0 [9, 200] ++ (R7 ++ T9))) := hD
  have hP : va_P D classes ((h0, .inr (8, [.ref (a1 0), .ref (a2 0), .ref (a3 0), .ref (a4 0), .ref (a5 0), .ref (a6 0), .ref q6, .ref q7, .int 0])) :: (q7, .inl (cS, 8, .inr (.inr (.inr (.inr (va_up (va_up (va_up (fun _ => none) 0 (some (a7 0))) 1 (some (a8 0))) 2 (some (a9 0)))))))) :: (R7 ++ (T9 ++ sg cI cS9 a9 z_She 0 [9, 200]))) H := va_Pp (.cons _ (.cons _ (List.perm_append_comm.trans (.of_eq (List.append_assoc _ _ _))))) hP
  have hD : va_D A ((h0, .inr (8, [.ref (a1 0), .ref (a2 0), .ref (a3 0), .ref (a4 0), .ref (a5 0), .ref (a6 0), .ref q6, .ref q7, .int 0])) :: (q7, .inl (cS, 8, .inr (.inr (.inr (.inr (va_up (va_up (va_up (fun _ => none) 0 (some (a7 0))) 1 (some (a8 0))) 2 (some (a9 0)))))))) :: (R7 ++ (T9 ++ sg cI cS9 a9 z_She 0 [9, 200]))) := va_Dp (.cons _ (.cons _ (List.perm_append_comm.trans (.of_eq (List.append_assoc _ _ _))))) hD
  generalize eT10 : T9 ++ sg cI cS9 a9 z_She 0 [9, 200] = T10 at hP hD
  refine lv_iinc (v := 3) (lv' := [(1, .int 3), (0, .ref h0)]) hx hb d_Brt_init_113 hl (k := 0) rfl (by decide) (by decide) rfl (fun ls hl => ?_)
  refine lv_goto (tgt := 94) hx hb d_Brt_init_116 (by decide) ?_
  refine lv_iload_n hx hb d_Brt_init_94 rfl (lv_at hl 0 rfl) ?_
  refine lv_bipush (v := 8) hx hb d_Brt_init_95 (by decide) ?_
  refine lv_icmp_ge (tgt := 119) hx hb d_Brt_init_97 (by decide) (fun c_9 => absurd c_9 (by decide)) (fun _ => ?_)
  refine lv_aload_n hx hb d_Brt_init_100 rfl (lv_at hl 1 rfl) ?_
  refine va_get (D := D) (ci := 8) (v := .ref q7) (C := R_Brt) (T := F_Brt) (N := 9) hx hb hts i_Brt hown hK hP 0 rfl rfl 7 (by decide) (hts (.fieldLink R_Brt 49 "BreatheOut" "shelves" "[LBreatheOut$Shelf;") (tbl_at 369 (by decide +kernel) rfl)) (fun _ h9 => h9) rfl d_Brt_init_101 ?_
  refine lv_iload_n hx hb d_Brt_init_104 rfl (lv_at hl 0 rfl) ?_
  have h_11 : 71 + 1 ≤ 81 := by decide
  have i_11 : 863 + 6 ≤ 1393 := by decide
  refine va_new (ci := 5) (fs := [.int 0, .int 0, .int 0, .int 0, .int 0, .null]) (C := R_She) (T := F_She) (N := 6) hx hb hts i_She t_She t_She_ok hown (hts (.classLink R_Brt 47 R_She) (tbl_at 328 (by decide +kernel) rfl)) (hts (.instantiable R_She 6) (tbl_at 330 (by decide +kernel) rfl)) (hts (.initialized R_She) (tbl_at 56 (by decide +kernel) rfl)) hK hP hD hS hA rfl (fun j hj => by rcases (show j = 0 ∨ j = 1 ∨ j = 2 ∨ j = 3 ∨ j = 4 ∨ j = 5 by omega) with rfl | rfl | rfl | rfl | rfl | rfl <;> rfl) h_11 i_11 d_Brt_init_105 (fun q11 H hP hD hS => ?_)
  have hP : va_P D classes (((h0, .inr (8, [.ref (a1 0), .ref (a2 0), .ref (a3 0), .ref (a4 0), .ref (a5 0), .ref (a6 0), .ref q6, .ref q7, .int 0])) :: (q7, .inl (cS, 8, .inr (.inr (.inr (.inr (va_up (va_up (va_up (fun _ => none) 0 (some (a7 0))) 1 (some (a8 0))) 2 (some (a9 0)))))))) :: (R7 ++ T10)) ++ [(q11, .inr (5, [.int 0, .int 0, .int 0, .int 0, .int 0, .null]))]) H := hP
  have hD : va_D A (((h0, .inr (8, [.ref (a1 0), .ref (a2 0), .ref (a3 0), .ref (a4 0), .ref (a5 0), .ref (a6 0), .ref q6, .ref q7, .int 0])) :: (q7, .inl (cS, 8, .inr (.inr (.inr (.inr (va_up (va_up (va_up (fun _ => none) 0 (some (a7 0))) 1 (some (a8 0))) 2 (some (a9 0)))))))) :: (R7 ++ T10)) ++ [(q11, .inr (5, [.int 0, .int 0, .int 0, .int 0, .int 0, .null]))]) := hD
  refine lv_dup hx hb d_Brt_init_108 rfl ?_
  have hPc := va_lastP hP
  have hDc := va_lastD hD
  have hKc := hK.sub (tys' := [(cI, .int)]) [0] rfl
  have hFc := va_freeL hD hS hA
  refine va_callv (va_runIN (Ts := tbl) (own := R_Brt) (host := "BreatheOut") (As := []) (rest := [.ref q11, .int 3, .ref q7]) ⟨hx, hb, hml, hown, hts⟩ (c_She_init l D cI q11 H.size) ⟨va_cnB 0 hts (good_code (tbl_at 333 rfl rfl)) rfl rfl rfl (hN.1 (R_Brt, 57, y_She_init) (by decide +kernel)) (hts _ (tbl_at 56 (by decide +kernel) rfl)) (by decide +kernel) ⟨Nat.le_of_ble_eq_true rfl, Nat.le_of_ble_eq_true rfl⟩, rfl, hts _ (tbl_at 332 (by decide +kernel) rfl)⟩ ⟨ini_blind, fun U hU hW => ⟨rfl, by rw [hU], by rw [hU]; exact hPc, va_K.moved hW.alike hKc, gC_warm hW hN, hDc.weaken (fun _ _ _ _ => trivial)⟩⟩ rfl rfl (hl.1.trans rfl) rfl (lv_room (Nat.le_of_ble_eq_true rfl)) d_Brt_init_109 ⟨Nat.le_of_ble_eq_true rfl, Nat.le_of_ble_eq_true rfl⟩) hS (fun q _ h => hFc q h) hFc (fun u t H1 locs ht hvm hw hB hz1 hk1 hS => ?_)
  obtain ⟨a10, cS10⟩ := u
  obtain ⟨hP1, hD1, -⟩ := hB
  rw [ht] at hP1
  dsimp only at hw hP1 hD1
  obtain ⟨hPn, hDn⟩ := va_joinL (w1 := sg cI cS10 a10 z_She 0 [9, 200]) hP hD hk1 hFc hP1 hD1
  clear hP hD hPc hDc hFc
  subst hw
  generalize H1 = H at hPn hS ⊢
  have hP := hPn
  have hD := hDn
  have hP : va_P D classes ((h0, .inr (8, [.ref (a1 0), .ref (a2 0), .ref (a3 0), .ref (a4 0), .ref (a5 0), .ref (a6 0), .ref q6, .ref q7, .int 0])) :: (q7, .inl (cS, 8, .inr (.inr (.inr (.inr (va_up (va_up (va_up (fun _ => none) 0 (some (a7 0))) 1 (some (a8 0))) 2 (some (a9 0)))))))) :: (sg cI cS10 a10 z_She 0 [9, 200] ++ (R7 ++ T10))) H := va_Pp (.cons _ (.cons _ List.perm_append_comm)) hP
  have hD : va_D A ((h0, .inr (8, [.ref (a1 0), .ref (a2 0), .ref (a3 0), .ref (a4 0), .ref (a5 0), .ref (a6 0), .ref q6, .ref q7, .int 0])) :: (q7, .inl (cS, 8, .inr (.inr (.inr (.inr (va_up (va_up (va_up (fun _ => none) 0 (some (a7 0))) 1 (some (a8 0))) 2 (some (a9 0)))))))) :: (sg cI cS10 a10 z_She 0 [9, 200] ++ (R7 ++ T10))) := va_Dp (.cons _ (.cons _ List.perm_append_comm)) hD
  refine va_astq hx hb hK hP hD hS 1 1 2 5 rfl rfl rfl rfl (by unfold vp_in; decide) d_Brt_init_112 (fun H locs hP hD hS => ?_)
  have hP : va_P D classes ((h0, .inr (8, [.ref (a1 0), .ref (a2 0), .ref (a3 0), .ref (a4 0), .ref (a5 0), .ref (a6 0), .ref q6, .ref q7, .int 0])) :: (q7, .inl (cS, 8, .inr (.inr (.inr (.inr (va_up (va_up (va_up (va_up (fun _ => none) 0 (some (a7 0))) 1 (some (a8 0))) 2 (some (a9 0))) 3 (some (a10 0)))))))) :: (sg cI cS10 a10 z_She 0 [9, 200] ++ (R7 ++ T10))) H := hP
  have hD : va_D A ((h0, .inr (8, [.ref (a1 0), .ref (a2 0), .ref (a3 0), .ref (a4 0), .ref (a5 0), .ref (a6 0), .ref q6, .ref q7, .int 0])) :: (q7, .inl (cS, 8, .inr (.inr (.inr (.inr (va_up (va_up (va_up (va_up (fun _ => none) 0 (some (a7 0))) 1 (some (a8 0))) 2 (some (a9 0))) 3 (some (a10 0)))))))) :: (sg cI cS10 a10 z_She 0 [9, 200] ++ (R7 ++ T10))) := hD
  have hP : va_P D classes ((h0, .inr (8, [.ref (a1 0), .ref (a2 0), .ref (a3 0), .ref (a4 0), .ref (a5 0), .ref (a6 0), .ref q6, .ref q7, .int 0])) :: (q7, .inl (cS, 8, .inr (.inr (.inr (.inr (va_up (va_up (va_up (va_up (fun _ => none) 0 (some (a7 0))) 1 (some (a8 0))) 2 (some (a9 0))) 3 (some (a10 0)))))))) :: (R7 ++ (T10 ++ sg cI cS10 a10 z_She 0 [9, 200]))) H := va_Pp (.cons _ (.cons _ (List.perm_append_comm.trans (.of_eq (List.append_assoc _ _ _))))) hP
  have hD : va_D A ((h0, .inr (8, [.ref (a1 0), .ref (a2 0), .ref (a3 0), .ref (a4 0), .ref (a5 0), .ref (a6 0), .ref q6, .ref q7, .int 0])) :: (q7, .inl (cS, 8, .inr (.inr (.inr (.inr (va_up (va_up (va_up (va_up (fun _ => none) 0 (some (a7 0))) 1 (some (a8 0))) 2 (some (a9 0))) 3 (some (a10 0)))))))) :: (R7 ++ (T10 ++ sg cI cS10 a10 z_She 0 [9, 200]))) := va_Dp (.cons _ (.cons _ (List.perm_append_comm.trans (.of_eq (List.append_assoc _ _ _))))) hD
  generalize eT11 : T10 ++ sg cI cS10 a10 z_She 0 [9, 200] = T11 at hP hD
  refine lv_iinc (v := 4) (lv' := [(1, .int 4), (0, .ref h0)]) hx hb d_Brt_init_113 hl (k := 0) rfl (by decide) (by decide) rfl (fun ls hl => ?_)
  refine lv_goto (tgt := 94) hx hb d_Brt_init_116 (by decide) ?_
  refine lv_iload_n hx hb d_Brt_init_94 rfl (lv_at hl 0 rfl) ?_
  refine lv_bipush (v := 8) hx hb d_Brt_init_95 (by decide) ?_
  refine lv_icmp_ge (tgt := 119) hx hb d_Brt_init_97 (by decide) (fun c_9 => absurd c_9 (by decide)) (fun _ => ?_)
  refine lv_aload_n hx hb d_Brt_init_100 rfl (lv_at hl 1 rfl) ?_
  refine va_get (D := D) (ci := 8) (v := .ref q7) (C := R_Brt) (T := F_Brt) (N := 9) hx hb hts i_Brt hown hK hP 0 rfl rfl 7 (by decide) (hts (.fieldLink R_Brt 49 "BreatheOut" "shelves" "[LBreatheOut$Shelf;") (tbl_at 369 (by decide +kernel) rfl)) (fun _ h9 => h9) rfl d_Brt_init_101 ?_
  refine lv_iload_n hx hb d_Brt_init_104 rfl (lv_at hl 0 rfl) ?_
  have h_12 : 73 + 1 ≤ 81 := by decide
  have i_12 : 969 + 6 ≤ 1393 := by decide
  refine va_new (ci := 5) (fs := [.int 0, .int 0, .int 0, .int 0, .int 0, .null]) (C := R_She) (T := F_She) (N := 6) hx hb hts i_She t_She t_She_ok hown (hts (.classLink R_Brt 47 R_She) (tbl_at 328 (by decide +kernel) rfl)) (hts (.instantiable R_She 6) (tbl_at 330 (by decide +kernel) rfl)) (hts (.initialized R_She) (tbl_at 56 (by decide +kernel) rfl)) hK hP hD hS hA rfl (fun j hj => by rcases (show j = 0 ∨ j = 1 ∨ j = 2 ∨ j = 3 ∨ j = 4 ∨ j = 5 by omega) with rfl | rfl | rfl | rfl | rfl | rfl <;> rfl) h_12 i_12 d_Brt_init_105 (fun q12 H hP hD hS => ?_)
  have hP : va_P D classes (((h0, .inr (8, [.ref (a1 0), .ref (a2 0), .ref (a3 0), .ref (a4 0), .ref (a5 0), .ref (a6 0), .ref q6, .ref q7, .int 0])) :: (q7, .inl (cS, 8, .inr (.inr (.inr (.inr (va_up (va_up (va_up (va_up (fun _ => none) 0 (some (a7 0))) 1 (some (a8 0))) 2 (some (a9 0))) 3 (some (a10 0)))))))) :: (R7 ++ T11)) ++ [(q12, .inr (5, [.int 0, .int 0, .int 0, .int 0, .int 0, .null]))]) H := hP
  have hD : va_D A (((h0, .inr (8, [.ref (a1 0), .ref (a2 0), .ref (a3 0), .ref (a4 0), .ref (a5 0), .ref (a6 0), .ref q6, .ref q7, .int 0])) :: (q7, .inl (cS, 8, .inr (.inr (.inr (.inr (va_up (va_up (va_up (va_up (fun _ => none) 0 (some (a7 0))) 1 (some (a8 0))) 2 (some (a9 0))) 3 (some (a10 0)))))))) :: (R7 ++ T11)) ++ [(q12, .inr (5, [.int 0, .int 0, .int 0, .int 0, .int 0, .null]))]) := hD
  refine lv_dup hx hb d_Brt_init_108 rfl ?_
  have hPc := va_lastP hP
  have hDc := va_lastD hD
  have hKc := hK.sub (tys' := [(cI, .int)]) [0] rfl
  have hFc := va_freeL hD hS hA
  refine va_callv (va_runIN (Ts := tbl) (own := R_Brt) (host := "BreatheOut") (As := []) (rest := [.ref q12, .int 4, .ref q7]) ⟨hx, hb, hml, hown, hts⟩ (c_She_init l D cI q12 H.size) ⟨va_cnB 0 hts (good_code (tbl_at 333 rfl rfl)) rfl rfl rfl (hN.1 (R_Brt, 57, y_She_init) (by decide +kernel)) (hts _ (tbl_at 56 (by decide +kernel) rfl)) (by decide +kernel) ⟨Nat.le_of_ble_eq_true rfl, Nat.le_of_ble_eq_true rfl⟩, rfl, hts _ (tbl_at 332 (by decide +kernel) rfl)⟩ ⟨ini_blind, fun U hU hW => ⟨rfl, by rw [hU], by rw [hU]; exact hPc, va_K.moved hW.alike hKc, gC_warm hW hN, hDc.weaken (fun _ _ _ _ => trivial)⟩⟩ rfl rfl (hl.1.trans rfl) rfl (lv_room (Nat.le_of_ble_eq_true rfl)) d_Brt_init_109 ⟨Nat.le_of_ble_eq_true rfl, Nat.le_of_ble_eq_true rfl⟩) hS (fun q _ h => hFc q h) hFc (fun u t H1 locs ht hvm hw hB hz1 hk1 hS => ?_)
  obtain ⟨a11, cS11⟩ := u
  obtain ⟨hP1, hD1, -⟩ := hB
  rw [ht] at hP1
  dsimp only at hw hP1 hD1
  obtain ⟨hPn, hDn⟩ := va_joinL (w1 := sg cI cS11 a11 z_She 0 [9, 200]) hP hD hk1 hFc hP1 hD1
  clear hP hD hPc hDc hFc
  subst hw
  generalize H1 = H at hPn hS ⊢
  have hP := hPn
  have hD := hDn
  have hP : va_P D classes ((h0, .inr (8, [.ref (a1 0), .ref (a2 0), .ref (a3 0), .ref (a4 0), .ref (a5 0), .ref (a6 0), .ref q6, .ref q7, .int 0])) :: (q7, .inl (cS, 8, .inr (.inr (.inr (.inr (va_up (va_up (va_up (va_up (fun _ => none) 0 (some (a7 0))) 1 (some (a8 0))) 2 (some (a9 0))) 3 (some (a10 0)))))))) :: (sg cI cS11 a11 z_She 0 [9, 200] ++ (R7 ++ T11))) H := va_Pp (.cons _ (.cons _ List.perm_append_comm)) hP
  have hD : va_D A ((h0, .inr (8, [.ref (a1 0), .ref (a2 0), .ref (a3 0), .ref (a4 0), .ref (a5 0), .ref (a6 0), .ref q6, .ref q7, .int 0])) :: (q7, .inl (cS, 8, .inr (.inr (.inr (.inr (va_up (va_up (va_up (va_up (fun _ => none) 0 (some (a7 0))) 1 (some (a8 0))) 2 (some (a9 0))) 3 (some (a10 0)))))))) :: (sg cI cS11 a11 z_She 0 [9, 200] ++ (R7 ++ T11))) := va_Dp (.cons _ (.cons _ List.perm_append_comm)) hD
  refine va_astq hx hb hK hP hD hS 1 1 2 5 rfl rfl rfl rfl (by unfold vp_in; decide) d_Brt_init_112 (fun H locs hP hD hS => ?_)
  have hP : va_P D classes ((h0, .inr (8, [.ref (a1 0), .ref (a2 0), .ref (a3 0), .ref (a4 0), .ref (a5 0), .ref (a6 0), .ref q6, .ref q7, .int 0])) :: (q7, .inl (cS, 8, .inr (.inr (.inr (.inr (va_up (va_up (va_up (va_up (va_up (fun _ => none) 0 (some (a7 0))) 1 (some (a8 0))) 2 (some (a9 0))) 3 (some (a10 0))) 4 (some (a11 0)))))))) :: (sg cI cS11 a11 z_She 0 [9, 200] ++ (R7 ++ T11))) H := hP
  have hD : va_D A ((h0, .inr (8, [.ref (a1 0), .ref (a2 0), .ref (a3 0), .ref (a4 0), .ref (a5 0), .ref (a6 0), .ref q6, .ref q7, .int 0])) :: (q7, .inl (cS, 8, .inr (.inr (.inr (.inr (va_up (va_up (va_up (va_up (va_up (fun _ => none) 0 (some (a7 0))) 1 (some (a8 0))) 2 (some (a9 0))) 3 (some (a10 0))) 4 (some (a11 0)))))))) :: (sg cI cS11 a11 z_She 0 [9, 200] ++ (R7 ++ T11))) := hD
  have hP : va_P D classes ((h0, .inr (8, [.ref (a1 0), .ref (a2 0), .ref (a3 0), .ref (a4 0), .ref (a5 0), .ref (a6 0), .ref q6, .ref q7, .int 0])) :: (q7, .inl (cS, 8, .inr (.inr (.inr (.inr (va_up (va_up (va_up (va_up (va_up (fun _ => none) 0 (some (a7 0))) 1 (some (a8 0))) 2 (some (a9 0))) 3 (some (a10 0))) 4 (some (a11 0)))))))) :: (R7 ++ (T11 ++ sg cI cS11 a11 z_She 0 [9, 200]))) H := va_Pp (.cons _ (.cons _ (List.perm_append_comm.trans (.of_eq (List.append_assoc _ _ _))))) hP
  have hD : va_D A ((h0, .inr (8, [.ref (a1 0), .ref (a2 0), .ref (a3 0), .ref (a4 0), .ref (a5 0), .ref (a6 0), .ref q6, .ref q7, .int 0])) :: (q7, .inl (cS, 8, .inr (.inr (.inr (.inr (va_up (va_up (va_up (va_up (va_up (fun _ => none) 0 (some (a7 0))) 1 (some (a8 0))) 2 (some (a9 0))) 3 (some (a10 0))) 4 (some (a11 0)))))))) :: (R7 ++ (T11 ++ sg cI cS11 a11 z_She 0 [9, 200]))) := va_Dp (.cons _ (.cons _ (List.perm_append_comm.trans (.of_eq (List.append_assoc _ _ _))))) hD
  generalize eT12 : T11 ++ sg cI cS11 a11 z_She 0 [9, 200] = T12 at hP hD
  refine lv_iinc (v := 5) (lv' := [(1, .int 5), (0, .ref h0)]) hx hb d_Brt_init_113 hl (k := 0) rfl (by decide) (by decide) rfl (fun ls hl => ?_)
  refine lv_goto (tgt := 94) hx hb d_Brt_init_116 (by decide) ?_
  refine lv_iload_n hx hb d_Brt_init_94 rfl (lv_at hl 0 rfl) ?_
  refine lv_bipush (v := 8) hx hb d_Brt_init_95 (by decide) ?_
  refine lv_icmp_ge (tgt := 119) hx hb d_Brt_init_97 (by decide) (fun c_9 => absurd c_9 (by decide)) (fun _ => ?_)
  refine lv_aload_n hx hb d_Brt_init_100 rfl (lv_at hl 1 rfl) ?_
  refine va_get (D := D) (ci := 8) (v := .ref q7) (C := R_Brt) (T := F_Brt) (N := 9) hx hb hts i_Brt hown hK hP 0 rfl rfl 7 (by decide) (hts (.fieldLink R_Brt 49 "BreatheOut" "shelves" "[LBreatheOut$Shelf;") (tbl_at 369 (by decide +kernel) rfl)) (fun _ h9 => h9) rfl d_Brt_init_101 ?_
  refine lv_iload_n hx hb d_Brt_init_104 rfl (lv_at hl 0 rfl) ?_
  have h_13 : 75 + 1 ≤ 81 := by decide
  have i_13 : 1075 + 6 ≤ 1393 := by decide
  refine va_new (ci := 5) (fs := [.int 0, .int 0, .int 0, .int 0, .int 0, .null]) (C := R_She) (T := F_She) (N := 6) hx hb hts i_She t_She t_She_ok hown (hts (.classLink R_Brt 47 R_She) (tbl_at 328 (by decide +kernel) rfl)) (hts (.instantiable R_She 6) (tbl_at 330 (by decide +kernel) rfl)) (hts (.initialized R_She) (tbl_at 56 (by decide +kernel) rfl)) hK hP hD hS hA rfl (fun j hj => by rcases (show j = 0 ∨ j = 1 ∨ j = 2 ∨ j = 3 ∨ j = 4 ∨ j = 5 by omega) with rfl | rfl | rfl | rfl | rfl | rfl <;> rfl) h_13 i_13 d_Brt_init_105 (fun q13 H hP hD hS => ?_)
  have hP : va_P D classes (((h0, .inr (8, [.ref (a1 0), .ref (a2 0), .ref (a3 0), .ref (a4 0), .ref (a5 0), .ref (a6 0), .ref q6, .ref q7, .int 0])) :: (q7, .inl (cS, 8, .inr (.inr (.inr (.inr (va_up (va_up (va_up (va_up (va_up (fun _ => none) 0 (some (a7 0))) 1 (some (a8 0))) 2 (some (a9 0))) 3 (some (a10 0))) 4 (some (a11 0)))))))) :: (R7 ++ T12)) ++ [(q13, .inr (5, [.int 0, .int 0, .int 0, .int 0, .int 0, .null]))]) H := hP
  have hD : va_D A (((h0, .inr (8, [.ref (a1 0), .ref (a2 0), .ref (a3 0), .ref (a4 0), .ref (a5 0), .ref (a6 0), .ref q6, .ref q7, .int 0])) :: (q7, .inl (cS, 8, .inr (.inr (.inr (.inr (va_up (va_up (va_up (va_up (va_up (fun _ => none) 0 (some (a7 0))) 1 (some (a8 0))) 2 (some (a9 0))) 3 (some (a10 0))) 4 (some (a11 0)))))))) :: (R7 ++ T12)) ++ [(q13, .inr (5, [.int 0, .int 0, .int 0, .int 0, .int 0, .null]))]) := hD
  refine lv_dup hx hb d_Brt_init_108 rfl ?_
  have hPc := va_lastP hP
  have hDc := va_lastD hD
  have hKc := hK.sub (tys' := [(cI, .int)]) [0] rfl
  have hFc := va_freeL hD hS hA
  refine va_callv (va_runIN (Ts := tbl) (own := R_Brt) (host := "BreatheOut") (As := []) (rest := [.ref q13, .int 5, .ref q7]) ⟨hx, hb, hml, hown, hts⟩ (c_She_init l D cI q13 H.size) ⟨va_cnB 0 hts (good_code (tbl_at 333 rfl rfl)) rfl rfl rfl (hN.1 (R_Brt, 57, y_She_init) (by decide +kernel)) (hts _ (tbl_at 56 (by decide +kernel) rfl)) (by decide +kernel) ⟨Nat.le_of_ble_eq_true rfl, Nat.le_of_ble_eq_true rfl⟩, rfl, hts _ (tbl_at 332 (by decide +kernel) rfl)⟩ ⟨ini_blind, fun U hU hW => ⟨rfl, by rw [hU], by rw [hU]; exact hPc, va_K.moved hW.alike hKc, gC_warm hW hN, hDc.weaken (fun _ _ _ _ => trivial)⟩⟩ rfl rfl (hl.1.trans rfl) rfl (lv_room (Nat.le_of_ble_eq_true rfl)) d_Brt_init_109 ⟨Nat.le_of_ble_eq_true rfl, Nat.le_of_ble_eq_true rfl⟩) hS (fun q _ h => hFc q h) hFc (fun u t H1 locs ht hvm hw hB hz1 hk1 hS => ?_)
  obtain ⟨a12, cS12⟩ := u
  obtain ⟨hP1, hD1, -⟩ := hB
  rw [ht] at hP1
  dsimp only at hw hP1 hD1
  obtain ⟨hPn, hDn⟩ := va_joinL (w1 := sg cI cS12 a12 z_She 0 [9, 200]) hP hD hk1 hFc hP1 hD1
  clear hP hD hPc hDc hFc
  subst hw
  generalize H1 = H at hPn hS ⊢
  have hP := hPn
  have hD := hDn
  have hP : va_P D classes ((h0, .inr (8, [.ref (a1 0), .ref (a2 0), .ref (a3 0), .ref (a4 0), .ref (a5 0), .ref (a6 0), .ref q6, .ref q7, .int 0])) :: (q7, .inl (cS, 8, .inr (.inr (.inr (.inr (va_up (va_up (va_up (va_up (va_up (fun _ => none) 0 (some (a7 0))) 1 (some (a8 0))) 2 (some (a9 0))) 3 (some (a10 0))) 4 (some (a11 0)))))))) :: (sg cI cS12 a12 z_She 0 [9, 200] ++ (R7 ++ T12))) H := va_Pp (.cons _ (.cons _ List.perm_append_comm)) hP
  have hD : va_D A ((h0, .inr (8, [.ref (a1 0), .ref (a2 0), .ref (a3 0), .ref (a4 0), .ref (a5 0), .ref (a6 0), .ref q6, .ref q7, .int 0])) :: (q7, .inl (cS, 8, .inr (.inr (.inr (.inr (va_up (va_up (va_up (va_up (va_up (fun _ => none) 0 (some (a7 0))) 1 (some (a8 0))) 2 (some (a9 0))) 3 (some (a10 0))) 4 (some (a11 0)))))))) :: (sg cI cS12 a12 z_She 0 [9, 200] ++ (R7 ++ T12))) := va_Dp (.cons _ (.cons _ List.perm_append_comm)) hD
  refine va_astq hx hb hK hP hD hS 1 1 2 5 rfl rfl rfl rfl (by unfold vp_in; decide) d_Brt_init_112 (fun H locs hP hD hS => ?_)
  have hP : va_P D classes ((h0, .inr (8, [.ref (a1 0), .ref (a2 0), .ref (a3 0), .ref (a4 0), .ref (a5 0), .ref (a6 0), .ref q6, .ref q7, .int 0])) :: (q7, .inl (cS, 8, .inr (.inr (.inr (.inr (va_up (va_up (va_up (va_up (va_up (va_up (fun _ => none) 0 (some (a7 0))) 1 (some (a8 0))) 2 (some (a9 0))) 3 (some (a10 0))) 4 (some (a11 0))) 5 (some (a12 0)))))))) :: (sg cI cS12 a12 z_She 0 [9, 200] ++ (R7 ++ T12))) H := hP
  have hD : va_D A ((h0, .inr (8, [.ref (a1 0), .ref (a2 0), .ref (a3 0), .ref (a4 0), .ref (a5 0), .ref (a6 0), .ref q6, .ref q7, .int 0])) :: (q7, .inl (cS, 8, .inr (.inr (.inr (.inr (va_up (va_up (va_up (va_up (va_up (va_up (fun _ => none) 0 (some (a7 0))) 1 (some (a8 0))) 2 (some (a9 0))) 3 (some (a10 0))) 4 (some (a11 0))) 5 (some (a12 0)))))))) :: (sg cI cS12 a12 z_She 0 [9, 200] ++ (R7 ++ T12))) := hD
  have hP : va_P D classes ((h0, .inr (8, [.ref (a1 0), .ref (a2 0), .ref (a3 0), .ref (a4 0), .ref (a5 0), .ref (a6 0), .ref q6, .ref q7, .int 0])) :: (q7, .inl (cS, 8, .inr (.inr (.inr (.inr (va_up (va_up (va_up (va_up (va_up (va_up (fun _ => none) 0 (some (a7 0))) 1 (some (a8 0))) 2 (some (a9 0))) 3 (some (a10 0))) 4 (some (a11 0))) 5 (some (a12 0)))))))) :: (R7 ++ (T12 ++ sg cI cS12 a12 z_She 0 [9, 200]))) H := va_Pp (.cons _ (.cons _ (List.perm_append_comm.trans (.of_eq (List.append_assoc _ _ _))))) hP
  have hD : va_D A ((h0, .inr (8, [.ref (a1 0), .ref (a2 0), .ref (a3 0), .ref (a4 0), .ref (a5 0), .ref (a6 0), .ref q6, .ref q7, .int 0])) :: (q7, .inl (cS, 8, .inr (.inr (.inr (.inr (va_up (va_up (va_up (va_up (va_up (va_up (fun _ => none) 0 (some (a7 0))) 1 (some (a8 0))) 2 (some (a9 0))) 3 (some (a10 0))) 4 (some (a11 0))) 5 (some (a12 0)))))))) :: (R7 ++ (T12 ++ sg cI cS12 a12 z_She 0 [9, 200]))) := va_Dp (.cons _ (.cons _ (List.perm_append_comm.trans (.of_eq (List.append_assoc _ _ _))))) hD
  generalize eT13 : T12 ++ sg cI cS12 a12 z_She 0 [9, 200] = T13 at hP hD
  refine lv_iinc (v := 6) (lv' := [(1, .int 6), (0, .ref h0)]) hx hb d_Brt_init_113 hl (k := 0) rfl (by decide) (by decide) rfl (fun ls hl => ?_)
  refine lv_goto (tgt := 94) hx hb d_Brt_init_116 (by decide) ?_
  refine lv_iload_n hx hb d_Brt_init_94 rfl (lv_at hl 0 rfl) ?_
  refine lv_bipush (v := 8) hx hb d_Brt_init_95 (by decide) ?_
  refine lv_icmp_ge (tgt := 119) hx hb d_Brt_init_97 (by decide) (fun c_9 => absurd c_9 (by decide)) (fun _ => ?_)
  refine lv_aload_n hx hb d_Brt_init_100 rfl (lv_at hl 1 rfl) ?_
  refine va_get (D := D) (ci := 8) (v := .ref q7) (C := R_Brt) (T := F_Brt) (N := 9) hx hb hts i_Brt hown hK hP 0 rfl rfl 7 (by decide) (hts (.fieldLink R_Brt 49 "BreatheOut" "shelves" "[LBreatheOut$Shelf;") (tbl_at 369 (by decide +kernel) rfl)) (fun _ h9 => h9) rfl d_Brt_init_101 ?_
  refine lv_iload_n hx hb d_Brt_init_104 rfl (lv_at hl 0 rfl) ?_
  have h_14 : 77 + 1 ≤ 81 := by decide
  have i_14 : 1181 + 6 ≤ 1393 := by decide
  refine va_new (ci := 5) (fs := [.int 0, .int 0, .int 0, .int 0, .int 0, .null]) (C := R_She) (T := F_She) (N := 6) hx hb hts i_She t_She t_She_ok hown (hts (.classLink R_Brt 47 R_She) (tbl_at 328 (by decide +kernel) rfl)) (hts (.instantiable R_She 6) (tbl_at 330 (by decide +kernel) rfl)) (hts (.initialized R_She) (tbl_at 56 (by decide +kernel) rfl)) hK hP hD hS hA rfl (fun j hj => by rcases (show j = 0 ∨ j = 1 ∨ j = 2 ∨ j = 3 ∨ j = 4 ∨ j = 5 by omega) with rfl | rfl | rfl | rfl | rfl | rfl <;> rfl) h_14 i_14 d_Brt_init_105 (fun q14 H hP hD hS => ?_)
  have hP : va_P D classes (((h0, .inr (8, [.ref (a1 0), .ref (a2 0), .ref (a3 0), .ref (a4 0), .ref (a5 0), .ref (a6 0), .ref q6, .ref q7, .int 0])) :: (q7, .inl (cS, 8, .inr (.inr (.inr (.inr (va_up (va_up (va_up (va_up (va_up (va_up (fun _ => none) 0 (some (a7 0))) 1 (some (a8 0))) 2 (some (a9 0))) 3 (some (a10 0))) 4 (some (a11 0))) 5 (some (a12 0)))))))) :: (R7 ++ T13)) ++ [(q14, .inr (5, [.int 0, .int 0, .int 0, .int 0, .int 0, .null]))]) H := hP
  have hD : va_D A (((h0, .inr (8, [.ref (a1 0), .ref (a2 0), .ref (a3 0), .ref (a4 0), .ref (a5 0), .ref (a6 0), .ref q6, .ref q7, .int 0])) :: (q7, .inl (cS, 8, .inr (.inr (.inr (.inr (va_up (va_up (va_up (va_up (va_up (va_up (fun _ => none) 0 (some (a7 0))) 1 (some (a8 0))) 2 (some (a9 0))) 3 (some (a10 0))) 4 (some (a11 0))) 5 (some (a12 0)))))))) :: (R7 ++ T13)) ++ [(q14, .inr (5, [.int 0, .int 0, .int 0, .int 0, .int 0, .null]))]) := hD
  refine lv_dup hx hb d_Brt_init_108 rfl ?_
  have hPc := va_lastP hP
  have hDc := va_lastD hD
  have hKc := hK.sub (tys' := [(cI, .int)]) [0] rfl
  have hFc := va_freeL hD hS hA
  refine va_callv (va_runIN (Ts := tbl) (own := R_Brt) (host := "BreatheOut") (As := []) (rest := [.ref q14, .int 6, .ref q7]) ⟨hx, hb, hml, hown, hts⟩ (c_She_init l D cI q14 H.size) ⟨va_cnB 0 hts (good_code (tbl_at 333 rfl rfl)) rfl rfl rfl (hN.1 (R_Brt, 57, y_She_init) (by decide +kernel)) (hts _ (tbl_at 56 (by decide +kernel) rfl)) (by decide +kernel) ⟨Nat.le_of_ble_eq_true rfl, Nat.le_of_ble_eq_true rfl⟩, rfl, hts _ (tbl_at 332 (by decide +kernel) rfl)⟩ ⟨ini_blind, fun U hU hW => ⟨rfl, by rw [hU], by rw [hU]; exact hPc, va_K.moved hW.alike hKc, gC_warm hW hN, hDc.weaken (fun _ _ _ _ => trivial)⟩⟩ rfl rfl (hl.1.trans rfl) rfl (lv_room (Nat.le_of_ble_eq_true rfl)) d_Brt_init_109 ⟨Nat.le_of_ble_eq_true rfl, Nat.le_of_ble_eq_true rfl⟩) hS (fun q _ h => hFc q h) hFc (fun u t H1 locs ht hvm hw hB hz1 hk1 hS => ?_)
  obtain ⟨a13, cS13⟩ := u
  obtain ⟨hP1, hD1, -⟩ := hB
  rw [ht] at hP1
  dsimp only at hw hP1 hD1
  obtain ⟨hPn, hDn⟩ := va_joinL (w1 := sg cI cS13 a13 z_She 0 [9, 200]) hP hD hk1 hFc hP1 hD1
  clear hP hD hPc hDc hFc
  subst hw
  generalize H1 = H at hPn hS ⊢
  have hP := hPn
  have hD := hDn
  have hP : va_P D classes ((h0, .inr (8, [.ref (a1 0), .ref (a2 0), .ref (a3 0), .ref (a4 0), .ref (a5 0), .ref (a6 0), .ref q6, .ref q7, .int 0])) :: (q7, .inl (cS, 8, .inr (.inr (.inr (.inr (va_up (va_up (va_up (va_up (va_up (va_up (fun _ => none) 0 (some (a7 0))) 1 (some (a8 0))) 2 (some (a9 0))) 3 (some (a10 0))) 4 (some (a11 0))) 5 (some (a12 0)))))))) :: (sg cI cS13 a13 z_She 0 [9, 200] ++ (R7 ++ T13))) H := va_Pp (.cons _ (.cons _ List.perm_append_comm)) hP
  have hD : va_D A ((h0, .inr (8, [.ref (a1 0), .ref (a2 0), .ref (a3 0), .ref (a4 0), .ref (a5 0), .ref (a6 0), .ref q6, .ref q7, .int 0])) :: (q7, .inl (cS, 8, .inr (.inr (.inr (.inr (va_up (va_up (va_up (va_up (va_up (va_up (fun _ => none) 0 (some (a7 0))) 1 (some (a8 0))) 2 (some (a9 0))) 3 (some (a10 0))) 4 (some (a11 0))) 5 (some (a12 0)))))))) :: (sg cI cS13 a13 z_She 0 [9, 200] ++ (R7 ++ T13))) := va_Dp (.cons _ (.cons _ List.perm_append_comm)) hD
  refine va_astq hx hb hK hP hD hS 1 1 2 5 rfl rfl rfl rfl (by unfold vp_in; decide) d_Brt_init_112 (fun H locs hP hD hS => ?_)
  have hP : va_P D classes ((h0, .inr (8, [.ref (a1 0), .ref (a2 0), .ref (a3 0), .ref (a4 0), .ref (a5 0), .ref (a6 0), .ref q6, .ref q7, .int 0])) :: (q7, .inl (cS, 8, .inr (.inr (.inr (.inr (va_up (va_up (va_up (va_up (va_up (va_up (va_up (fun _ => none) 0 (some (a7 0))) 1 (some (a8 0))) 2 (some (a9 0))) 3 (some (a10 0))) 4 (some (a11 0))) 5 (some (a12 0))) 6 (some (a13 0)))))))) :: (sg cI cS13 a13 z_She 0 [9, 200] ++ (R7 ++ T13))) H := hP
  have hD : va_D A ((h0, .inr (8, [.ref (a1 0), .ref (a2 0), .ref (a3 0), .ref (a4 0), .ref (a5 0), .ref (a6 0), .ref q6, .ref q7, .int 0])) :: (q7, .inl (cS, 8, .inr (.inr (.inr (.inr (va_up (va_up (va_up (va_up (va_up (va_up (va_up (fun _ => none) 0 (some (a7 0))) 1 (some (a8 0))) 2 (some (a9 0))) 3 (some (a10 0))) 4 (some (a11 0))) 5 (some (a12 0))) 6 (some (a13 0)))))))) :: (sg cI cS13 a13 z_She 0 [9, 200] ++ (R7 ++ T13))) := hD
  have hP : va_P D classes ((h0, .inr (8, [.ref (a1 0), .ref (a2 0), .ref (a3 0), .ref (a4 0), .ref (a5 0), .ref (a6 0), .ref q6, .ref q7, .int 0])) :: (q7, .inl (cS, 8, .inr (.inr (.inr (.inr (va_up (va_up (va_up (va_up (va_up (va_up (va_up (fun _ => none) 0 (some (a7 0))) 1 (some (a8 0))) 2 (some (a9 0))) 3 (some (a10 0))) 4 (some (a11 0))) 5 (some (a12 0))) 6 (some (a13 0)))))))) :: (R7 ++ (T13 ++ sg cI cS13 a13 z_She 0 [9, 200]))) H := va_Pp (.cons _ (.cons _ (List.perm_append_comm.trans (.of_eq (List.append_assoc _ _ _))))) hP
  have hD : va_D A ((h0, .inr (8, [.ref (a1 0), .ref (a2 0), .ref (a3 0), .ref (a4 0), .ref (a5 0), .ref (a6 0), .ref q6, .ref q7, .int 0])) :: (q7, .inl (cS, 8, .inr (.inr (.inr (.inr (va_up (va_up (va_up (va_up (va_up (va_up (va_up (fun _ => none) 0 (some (a7 0))) 1 (some (a8 0))) 2 (some (a9 0))) 3 (some (a10 0))) 4 (some (a11 0))) 5 (some (a12 0))) 6 (some (a13 0)))))))) :: (R7 ++ (T13 ++ sg cI cS13 a13 z_She 0 [9, 200]))) := va_Dp (.cons _ (.cons _ (List.perm_append_comm.trans (.of_eq (List.append_assoc _ _ _))))) hD
  generalize eT14 : T13 ++ sg cI cS13 a13 z_She 0 [9, 200] = T14 at hP hD
  refine lv_iinc (v := 7) (lv' := [(1, .int 7), (0, .ref h0)]) hx hb d_Brt_init_113 hl (k := 0) rfl (by decide) (by decide) rfl (fun ls hl => ?_)
  refine lv_goto (tgt := 94) hx hb d_Brt_init_116 (by decide) ?_
  refine lv_iload_n hx hb d_Brt_init_94 rfl (lv_at hl 0 rfl) ?_
  refine lv_bipush (v := 8) hx hb d_Brt_init_95 (by decide) ?_
  refine lv_icmp_ge (tgt := 119) hx hb d_Brt_init_97 (by decide) (fun c_9 => absurd c_9 (by decide)) (fun _ => ?_)
  refine lv_aload_n hx hb d_Brt_init_100 rfl (lv_at hl 1 rfl) ?_
  refine va_get (D := D) (ci := 8) (v := .ref q7) (C := R_Brt) (T := F_Brt) (N := 9) hx hb hts i_Brt hown hK hP 0 rfl rfl 7 (by decide) (hts (.fieldLink R_Brt 49 "BreatheOut" "shelves" "[LBreatheOut$Shelf;") (tbl_at 369 (by decide +kernel) rfl)) (fun _ h9 => h9) rfl d_Brt_init_101 ?_
  refine lv_iload_n hx hb d_Brt_init_104 rfl (lv_at hl 0 rfl) ?_
  have h_15 : 79 + 1 ≤ 81 := by decide
  have i_15 : 1287 + 6 ≤ 1393 := by decide
  refine va_new (ci := 5) (fs := [.int 0, .int 0, .int 0, .int 0, .int 0, .null]) (C := R_She) (T := F_She) (N := 6) hx hb hts i_She t_She t_She_ok hown (hts (.classLink R_Brt 47 R_She) (tbl_at 328 (by decide +kernel) rfl)) (hts (.instantiable R_She 6) (tbl_at 330 (by decide +kernel) rfl)) (hts (.initialized R_She) (tbl_at 56 (by decide +kernel) rfl)) hK hP hD hS hA rfl (fun j hj => by rcases (show j = 0 ∨ j = 1 ∨ j = 2 ∨ j = 3 ∨ j = 4 ∨ j = 5 by omega) with rfl | rfl | rfl | rfl | rfl | rfl <;> rfl) h_15 i_15 d_Brt_init_105 (fun q15 H hP hD hS => ?_)
  have hP : va_P D classes (((h0, .inr (8, [.ref (a1 0), .ref (a2 0), .ref (a3 0), .ref (a4 0), .ref (a5 0), .ref (a6 0), .ref q6, .ref q7, .int 0])) :: (q7, .inl (cS, 8, .inr (.inr (.inr (.inr (va_up (va_up (va_up (va_up (va_up (va_up (va_up (fun _ => none) 0 (some (a7 0))) 1 (some (a8 0))) 2 (some (a9 0))) 3 (some (a10 0))) 4 (some (a11 0))) 5 (some (a12 0))) 6 (some (a13 0)))))))) :: (R7 ++ T14)) ++ [(q15, .inr (5, [.int 0, .int 0, .int 0, .int 0, .int 0, .null]))]) H := hP
  have hD : va_D A (((h0, .inr (8, [.ref (a1 0), .ref (a2 0), .ref (a3 0), .ref (a4 0), .ref (a5 0), .ref (a6 0), .ref q6, .ref q7, .int 0])) :: (q7, .inl (cS, 8, .inr (.inr (.inr (.inr (va_up (va_up (va_up (va_up (va_up (va_up (va_up (fun _ => none) 0 (some (a7 0))) 1 (some (a8 0))) 2 (some (a9 0))) 3 (some (a10 0))) 4 (some (a11 0))) 5 (some (a12 0))) 6 (some (a13 0)))))))) :: (R7 ++ T14)) ++ [(q15, .inr (5, [.int 0, .int 0, .int 0, .int 0, .int 0, .null]))]) := hD
  refine lv_dup hx hb d_Brt_init_108 rfl ?_
  have hPc := va_lastP hP
  have hDc := va_lastD hD
  have hKc := hK.sub (tys' := [(cI, .int)]) [0] rfl
  have hFc := va_freeL hD hS hA
  refine va_callv (va_runIN (Ts := tbl) (own := R_Brt) (host := "BreatheOut") (As := []) (rest := [.ref q15, .int 7, .ref q7]) ⟨hx, hb, hml, hown, hts⟩ (c_She_init l D cI q15 H.size) ⟨va_cnB 0 hts (good_code (tbl_at 333 rfl rfl)) rfl rfl rfl (hN.1 (R_Brt, 57, y_She_init) (by decide +kernel)) (hts _ (tbl_at 56 (by decide +kernel) rfl)) (by decide +kernel) ⟨Nat.le_of_ble_eq_true rfl, Nat.le_of_ble_eq_true rfl⟩, rfl, hts _ (tbl_at 332 (by decide +kernel) rfl)⟩ ⟨ini_blind, fun U hU hW => ⟨rfl, by rw [hU], by rw [hU]; exact hPc, va_K.moved hW.alike hKc, gC_warm hW hN, hDc.weaken (fun _ _ _ _ => trivial)⟩⟩ rfl rfl (hl.1.trans rfl) rfl (lv_room (Nat.le_of_ble_eq_true rfl)) d_Brt_init_109 ⟨Nat.le_of_ble_eq_true rfl, Nat.le_of_ble_eq_true rfl⟩) hS (fun q _ h => hFc q h) hFc (fun u t H1 locs ht hvm hw hB hz1 hk1 hS => ?_)
  obtain ⟨a14, cS14⟩ := u
  obtain ⟨hP1, hD1, -⟩ := hB
  rw [ht] at hP1
  dsimp only at hw hP1 hD1
  obtain ⟨hPn, hDn⟩ := va_joinL (w1 := sg cI cS14 a14 z_She 0 [9, 200]) hP hD hk1 hFc hP1 hD1
  clear hP hD hPc hDc hFc
  subst hw
  generalize H1 = H at hPn hS ⊢
  have hP := hPn
  have hD := hDn
  have hP : va_P D classes ((h0, .inr (8, [.ref (a1 0), .ref (a2 0), .ref (a3 0), .ref (a4 0), .ref (a5 0), .ref (a6 0), .ref q6, .ref q7, .int 0])) :: (q7, .inl (cS, 8, .inr (.inr (.inr (.inr (va_up (va_up (va_up (va_up (va_up (va_up (va_up (fun _ => none) 0 (some (a7 0))) 1 (some (a8 0))) 2 (some (a9 0))) 3 (some (a10 0))) 4 (some (a11 0))) 5 (some (a12 0))) 6 (some (a13 0)))))))) :: (sg cI cS14 a14 z_She 0 [9, 200] ++ (R7 ++ T14))) H := va_Pp (.cons _ (.cons _ List.perm_append_comm)) hP
  have hD : va_D A ((h0, .inr (8, [.ref (a1 0), .ref (a2 0), .ref (a3 0), .ref (a4 0), .ref (a5 0), .ref (a6 0), .ref q6, .ref q7, .int 0])) :: (q7, .inl (cS, 8, .inr (.inr (.inr (.inr (va_up (va_up (va_up (va_up (va_up (va_up (va_up (fun _ => none) 0 (some (a7 0))) 1 (some (a8 0))) 2 (some (a9 0))) 3 (some (a10 0))) 4 (some (a11 0))) 5 (some (a12 0))) 6 (some (a13 0)))))))) :: (sg cI cS14 a14 z_She 0 [9, 200] ++ (R7 ++ T14))) := va_Dp (.cons _ (.cons _ List.perm_append_comm)) hD
  refine va_astq hx hb hK hP hD hS 1 1 2 5 rfl rfl rfl rfl (by unfold vp_in; decide) d_Brt_init_112 (fun H locs hP hD hS => ?_)
  have hP : va_P D classes ((h0, .inr (8, [.ref (a1 0), .ref (a2 0), .ref (a3 0), .ref (a4 0), .ref (a5 0), .ref (a6 0), .ref q6, .ref q7, .int 0])) :: (q7, .inl (cS, 8, .inr (.inr (.inr (.inr (va_up (va_up (va_up (va_up (va_up (va_up (va_up (va_up (fun _ => none) 0 (some (a7 0))) 1 (some (a8 0))) 2 (some (a9 0))) 3 (some (a10 0))) 4 (some (a11 0))) 5 (some (a12 0))) 6 (some (a13 0))) 7 (some (a14 0)))))))) :: (sg cI cS14 a14 z_She 0 [9, 200] ++ (R7 ++ T14))) H := hP
  have hD : va_D A ((h0, .inr (8, [.ref (a1 0), .ref (a2 0), .ref (a3 0), .ref (a4 0), .ref (a5 0), .ref (a6 0), .ref q6, .ref q7, .int 0])) :: (q7, .inl (cS, 8, .inr (.inr (.inr (.inr (va_up (va_up (va_up (va_up (va_up (va_up (va_up (va_up (fun _ => none) 0 (some (a7 0))) 1 (some (a8 0))) 2 (some (a9 0))) 3 (some (a10 0))) 4 (some (a11 0))) 5 (some (a12 0))) 6 (some (a13 0))) 7 (some (a14 0)))))))) :: (sg cI cS14 a14 z_She 0 [9, 200] ++ (R7 ++ T14))) := hD
  have hP : va_P D classes ((h0, .inr (8, [.ref (a1 0), .ref (a2 0), .ref (a3 0), .ref (a4 0), .ref (a5 0), .ref (a6 0), .ref q6, .ref q7, .int 0])) :: (q7, .inl (cS, 8, .inr (.inr (.inr (.inr (va_up (va_up (va_up (va_up (va_up (va_up (va_up (va_up (fun _ => none) 0 (some (a7 0))) 1 (some (a8 0))) 2 (some (a9 0))) 3 (some (a10 0))) 4 (some (a11 0))) 5 (some (a12 0))) 6 (some (a13 0))) 7 (some (a14 0)))))))) :: (R7 ++ (T14 ++ sg cI cS14 a14 z_She 0 [9, 200]))) H := va_Pp (.cons _ (.cons _ (List.perm_append_comm.trans (.of_eq (List.append_assoc _ _ _))))) hP
  have hD : va_D A ((h0, .inr (8, [.ref (a1 0), .ref (a2 0), .ref (a3 0), .ref (a4 0), .ref (a5 0), .ref (a6 0), .ref q6, .ref q7, .int 0])) :: (q7, .inl (cS, 8, .inr (.inr (.inr (.inr (va_up (va_up (va_up (va_up (va_up (va_up (va_up (va_up (fun _ => none) 0 (some (a7 0))) 1 (some (a8 0))) 2 (some (a9 0))) 3 (some (a10 0))) 4 (some (a11 0))) 5 (some (a12 0))) 6 (some (a13 0))) 7 (some (a14 0)))))))) :: (R7 ++ (T14 ++ sg cI cS14 a14 z_She 0 [9, 200]))) := va_Dp (.cons _ (.cons _ (List.perm_append_comm.trans (.of_eq (List.append_assoc _ _ _))))) hD
  generalize eT15 : T14 ++ sg cI cS14 a14 z_She 0 [9, 200] = T15 at hP hD
  refine lv_iinc (v := 8) (lv' := [(1, .int 8), (0, .ref h0)]) hx hb d_Brt_init_113 hl (k := 0) rfl (by decide) (by decide) rfl (fun ls hl => ?_)
  refine lv_goto (tgt := 94) hx hb d_Brt_init_116 (by decide) ?_
  refine lv_iload_n hx hb d_Brt_init_94 rfl (lv_at hl 0 rfl) ?_
  refine lv_bipush (v := 8) hx hb d_Brt_init_95 (by decide) ?_
  refine lv_icmp_ge (tgt := 119) hx hb d_Brt_init_97 (by decide) (fun _ => ?_) (fun c_9 => absurd (by decide) c_9)
  have hP := va_rp (q := 1) (g := (fun i => some ((fun j => if j < 1 then h0 else if j < 18 then a1 (j - 1) else if j < 35 then a2 (j - 18) else if j < 52 then a3 (j - 35) else if j < 58 then a4 (j - 52) else if j < 61 then a5 (j - 58) else if j < 64 then a6 (j - 61) else if j < 65 then q6 else if j < 66 then q7 else if j < 68 then a7 (j - 66) else if j < 70 then a8 (j - 68) else if j < 72 then a9 (j - 70) else if j < 74 then a10 (j - 72) else if j < 76 then a11 (j - 74) else if j < 78 then a12 (j - 76) else if j < 80 then a13 (j - 78) else if j < 82 then a14 (j - 80) else 0) (65 + 1 + 2 * i)))) hP rfl (fun j hj => by rcases (show j = 0 ∨ j = 1 ∨ j = 2 ∨ j = 3 ∨ j = 4 ∨ j = 5 ∨ j = 6 ∨ j = 7 by omega) with rfl | rfl | rfl | rfl | rfl | rfl | rfl | rfl <;> rfl)
  have hD := va_D.set (p := 1) (e := .inl (cS, 8, .inr (.inr (.inr (.inr (fun i => some ((fun j => if j < 1 then h0 else if j < 18 then a1 (j - 1) else if j < 35 then a2 (j - 18) else if j < 52 then a3 (j - 35) else if j < 58 then a4 (j - 52) else if j < 61 then a5 (j - 58) else if j < 64 then a6 (j - 61) else if j < 65 then q6 else if j < 66 then q7 else if j < 68 then a7 (j - 66) else if j < 70 then a8 (j - 68) else if j < 72 then a9 (j - 70) else if j < 74 then a10 (j - 72) else if j < 76 then a11 (j - 74) else if j < 78 then a12 (j - 76) else if j < 80 then a13 (j - 78) else if j < 82 then a14 (j - 80) else 0) (65 + 1 + 2 * i)))))))) hD rfl
  have hP : va_P D classes ((h0, .inr (8, [.ref (a1 0), .ref (a2 0), .ref (a3 0), .ref (a4 0), .ref (a5 0), .ref (a6 0), .ref q6, .ref q7, .int 0])) :: (q7, .inl (cS, 8, .inr (.inr (.inr (.inr (fun i => some ((fun j => if j < 1 then h0 else if j < 18 then a1 (j - 1) else if j < 35 then a2 (j - 18) else if j < 52 then a3 (j - 35) else if j < 58 then a4 (j - 52) else if j < 61 then a5 (j - 58) else if j < 64 then a6 (j - 61) else if j < 65 then q6 else if j < 66 then q7 else if j < 68 then a7 (j - 66) else if j < 70 then a8 (j - 68) else if j < 72 then a9 (j - 70) else if j < 74 then a10 (j - 72) else if j < 76 then a11 (j - 74) else if j < 78 then a12 (j - 76) else if j < 80 then a13 (j - 78) else if j < 82 then a14 (j - 80) else 0) (65 + 1 + 2 * i)))))))) :: (R7 ++ T15)) H := hP
  have hD : va_D A ((h0, .inr (8, [.ref (a1 0), .ref (a2 0), .ref (a3 0), .ref (a4 0), .ref (a5 0), .ref (a6 0), .ref q6, .ref q7, .int 0])) :: (q7, .inl (cS, 8, .inr (.inr (.inr (.inr (fun i => some ((fun j => if j < 1 then h0 else if j < 18 then a1 (j - 1) else if j < 35 then a2 (j - 18) else if j < 52 then a3 (j - 35) else if j < 58 then a4 (j - 52) else if j < 61 then a5 (j - 58) else if j < 64 then a6 (j - 61) else if j < 65 then q6 else if j < 66 then q7 else if j < 68 then a7 (j - 66) else if j < 70 then a8 (j - 68) else if j < 72 then a9 (j - 70) else if j < 74 then a10 (j - 72) else if j < 76 then a11 (j - 74) else if j < 78 then a12 (j - 76) else if j < 80 then a13 (j - 78) else if j < 82 then a14 (j - 80) else 0) (65 + 1 + 2 * i)))))))) :: (R7 ++ T15)) := hD
  have hP : va_P D classes ((h0, .inr (8, [.ref (a1 0), .ref (a2 0), .ref (a3 0), .ref (a4 0), .ref (a5 0), .ref (a6 0), .ref q6, .ref q7, .int 0])) :: (R7 ++ (q7, .inl (cS, 8, .inr (.inr (.inr (.inr (fun i => some ((fun j => if j < 1 then h0 else if j < 18 then a1 (j - 1) else if j < 35 then a2 (j - 18) else if j < 52 then a3 (j - 35) else if j < 58 then a4 (j - 52) else if j < 61 then a5 (j - 58) else if j < 64 then a6 (j - 61) else if j < 65 then q6 else if j < 66 then q7 else if j < 68 then a7 (j - 66) else if j < 70 then a8 (j - 68) else if j < 72 then a9 (j - 70) else if j < 74 then a10 (j - 72) else if j < 76 then a11 (j - 74) else if j < 78 then a12 (j - 76) else if j < 80 then a13 (j - 78) else if j < 82 then a14 (j - 80) else 0) (65 + 1 + 2 * i)))))))) :: T15)) H := va_Pp (.cons _ List.perm_middle.symm) hP
  have hD : va_D A ((h0, .inr (8, [.ref (a1 0), .ref (a2 0), .ref (a3 0), .ref (a4 0), .ref (a5 0), .ref (a6 0), .ref q6, .ref q7, .int 0])) :: (R7 ++ (q7, .inl (cS, 8, .inr (.inr (.inr (.inr (fun i => some ((fun j => if j < 1 then h0 else if j < 18 then a1 (j - 1) else if j < 35 then a2 (j - 18) else if j < 52 then a3 (j - 35) else if j < 58 then a4 (j - 52) else if j < 61 then a5 (j - 58) else if j < 64 then a6 (j - 61) else if j < 65 then q6 else if j < 66 then q7 else if j < 68 then a7 (j - 66) else if j < 70 then a8 (j - 68) else if j < 72 then a9 (j - 70) else if j < 74 then a10 (j - 72) else if j < 76 then a11 (j - 74) else if j < 78 then a12 (j - 76) else if j < 80 then a13 (j - 78) else if j < 82 then a14 (j - 80) else 0) (65 + 1 + 2 * i)))))))) :: T15)) := va_Dp (.cons _ List.perm_middle.symm) hD
  subst eT15
  subst eT14
  subst eT13
  subst eT12
  subst eT11
  subst eT10
  subst eT9
  subst eT8
  subst eR7
  subst eR6
  subst eR5
  subst eR4
  subst eR3
  subst eR2
  subst eR1
  simp only [sg, List.nil_append, List.cons_append] at hP
  simp only [sg, List.nil_append, List.cons_append] at hD
  have hP9 : va_P D classes (sg cI cS (fun j => if j < 1 then h0 else if j < 18 then a1 (j - 1) else if j < 35 then a2 (j - 18) else if j < 52 then a3 (j - 35) else if j < 58 then a4 (j - 52) else if j < 61 then a5 (j - 58) else if j < 64 then a6 (j - 61) else if j < 65 then q6 else if j < 66 then q7 else if j < 68 then a7 (j - 66) else if j < 70 then a8 (j - 68) else if j < 72 then a9 (j - 70) else if j < 74 then a10 (j - 72) else if j < 76 then a11 (j - 74) else if j < 78 then a12 (j - 76) else if j < 80 then a13 (j - 78) else if j < 82 then a14 (j - 80) else 0) z_Brt 0 [1, 2, 3, 112, 112, 112, 112, 112, 112, 112, 112, 4, 106, 106, 106, 106, 106, 106, 2, 3, 112, 112, 112, 112, 112, 112, 112, 112, 4, 106, 106, 106, 106, 106, 106, 2, 3, 112, 112, 112, 112, 112, 112, 112, 112, 4, 106, 106, 106, 106, 106, 106, 5, 6, 106, 6, 106, 101, 7, 106, 106, 8, 106, 106, 106, 11, 9, 200, 9, 200, 9, 200, 9, 200, 9, 200, 9, 200, 9, 200, 9, 200]) H := hP
  have hD9 : va_D A (sg cI cS (fun j => if j < 1 then h0 else if j < 18 then a1 (j - 1) else if j < 35 then a2 (j - 18) else if j < 52 then a3 (j - 35) else if j < 58 then a4 (j - 52) else if j < 61 then a5 (j - 58) else if j < 64 then a6 (j - 61) else if j < 65 then q6 else if j < 66 then q7 else if j < 68 then a7 (j - 66) else if j < 70 then a8 (j - 68) else if j < 72 then a9 (j - 70) else if j < 74 then a10 (j - 72) else if j < 76 then a11 (j - 74) else if j < 78 then a12 (j - 76) else if j < 80 then a13 (j - 78) else if j < 82 then a14 (j - 80) else 0) z_Brt 0 [1, 2, 3, 112, 112, 112, 112, 112, 112, 112, 112, 4, 106, 106, 106, 106, 106, 106, 2, 3, 112, 112, 112, 112, 112, 112, 112, 112, 4, 106, 106, 106, 106, 106, 106, 2, 3, 112, 112, 112, 112, 112, 112, 112, 112, 4, 106, 106, 106, 106, 106, 106, 5, 6, 106, 6, 106, 101, 7, 106, 106, 8, 106, 106, 106, 11, 9, 200, 9, 200, 9, 200, 9, 200, 9, 200, 9, 200, 9, 200, 9, 200]) := hD
  exact W.vret hx hb hr (fun t ht hW => ⟨⟨(fun j => if j < 1 then h0 else if j < 18 then a1 (j - 1) else if j < 35 then a2 (j - 18) else if j < 52 then a3 (j - 35) else if j < 58 then a4 (j - 52) else if j < 61 then a5 (j - 58) else if j < 64 then a6 (j - 61) else if j < 65 then q6 else if j < 66 then q7 else if j < 68 then a7 (j - 66) else if j < 70 then a8 (j - 68) else if j < 72 then a9 (j - 70) else if j < 74 then a10 (j - 72) else if j < 76 then a11 (j - 74) else if j < 78 then a12 (j - 76) else if j < 80 then a13 (j - 78) else if j < 82 then a14 (j - 80) else 0, cS), rfl, rfl, by rw [ht]; exact hP9, hD9, (fun _ => va_K.moved hW.alike hK)⟩, hS.F ht⟩) hS.2.2 d_Brt_init_119
