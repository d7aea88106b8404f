def z_Cav : St := fun p k => if p = 0 then (if k = 2 then 1 else if k = 3 then 15 else if k = 4 then 120 else 0) else 0
theorem d_Cav_init_0 : decode b_Cav_init 0 = .ok (.aload_n 0, 1) := by decide +kernel
theorem d_Cav_init_1 : decode b_Cav_init 1 = .ok (.invokespecial 3, 3) := by decide +kernel
theorem d_Cav_init_4 : decode b_Cav_init 4 = .ok (.aload_n 0, 1) := by decide +kernel
theorem d_Cav_init_5 : decode b_Cav_init 5 = .ok (.new 9, 3) := by decide +kernel
theorem d_Cav_init_8 : decode b_Cav_init 8 = .ok (.dup, 1) := by decide +kernel
theorem d_Cav_init_9 : decode b_Cav_init 9 = .ok (.invokespecial 11, 3) := by decide +kernel
theorem d_Cav_init_12 : decode b_Cav_init 12 = .ok (.putfield 12, 3) := by decide +kernel
theorem d_Cav_init_15 : decode b_Cav_init 15 = .ok (.aload_n 0, 1) := by decide +kernel
theorem d_Cav_init_16 : decode b_Cav_init 16 = .ok (.new 18, 3) := by decide +kernel
theorem d_Cav_init_19 : decode b_Cav_init 19 = .ok (.dup, 1) := by decide +kernel
theorem d_Cav_init_20 : decode b_Cav_init 20 = .ok (.invokespecial 20, 3) := by decide +kernel
theorem d_Cav_init_23 : decode b_Cav_init 23 = .ok (.putfield 21, 3) := by decide +kernel
theorem d_Cav_init_26 : decode b_Cav_init 26 = .ok (.aload_n 0, 1) := by decide +kernel
theorem d_Cav_init_27 : decode b_Cav_init 27 = .ok (.iconst 1, 1) := by decide +kernel
theorem d_Cav_init_28 : decode b_Cav_init 28 = .ok (.putfield 25, 3) := by decide +kernel
theorem d_Cav_init_31 : decode b_Cav_init 31 = .ok (.aload_n 0, 1) := by decide +kernel
theorem d_Cav_init_32 : decode b_Cav_init 32 = .ok (.bipush 15, 2) := by decide +kernel
theorem d_Cav_init_34 : decode b_Cav_init 34 = .ok (.putfield 29, 3) := by decide +kernel
theorem d_Cav_init_37 : decode b_Cav_init 37 = .ok (.aload_n 0, 1) := by decide +kernel
theorem d_Cav_init_38 : decode b_Cav_init 38 = .ok (.bipush 120, 2) := by decide +kernel
theorem d_Cav_init_40 : decode b_Cav_init 40 = .ok (.putfield 32, 3) := by decide +kernel
theorem d_Cav_init_43 : decode b_Cav_init 43 = .ok (.aload_n 0, 1) := by decide +kernel
theorem d_Cav_init_44 : decode b_Cav_init 44 = .ok (.iconst 0, 1) := by decide +kernel
theorem d_Cav_init_45 : decode b_Cav_init 45 = .ok (.putfield 35, 3) := by decide +kernel
theorem d_Cav_init_48 : decode b_Cav_init 48 = .ok (.return_, 1) := by decide +kernel
set_option maxHeartbeats 4000000 in
set_option maxRecDepth 100000 in
theorem c_Cav_init (l : Launch) (D : va_G) (cI : ClassId) : Ini l D cI y_Cav_init b_Cav_init 1 ({ frames := 2, cells := 16, slots := 148, locals := 32 }) 16 148 (.inr (2, [.null, .null, .int 0, .int 0, .int 0, .int 0])) [2, 3, 112, 112, 112, 112, 112, 112, 112, 112, 4, 106, 106, 106, 106, 106, 106] z_Cav := by
  intro h0 sz
  refine Met.ofW (cc := b_Cav_init) (maxL := 1) (ret := none) (by decide) rfl ?_
  intro p e s m args below meth c s₁ B hml hv
  obtain ⟨rfl, hsz, hP, hK, hN, hD0⟩ := hv
  have hx := B.exec
  have hb := B.bytes
  have hr := B.returns
  have hts0 := atoms_spec (ws := Cond.code y_Cav_init b_Cav_init 1 none :: tbl) B.pre
  have hts : ∀ w ∈ tbl, w.before _ s = true := fun w hw => hts0 w (List.mem_cons_of_mem _ hw)
  have hown : s.vm.findClass R_Cav = some m.cls := findClass_of_methodNamed B.named
  have hlocks := B.notSynchronized
  have hin : meth.name = "<init>" := (name_of_methodNamed B.named B.method).1
  subst hsz
  have hD := hD0.self (sz := s.heap.size)
  unfold iniQ
  generalize hAe : va_A [(h0, .inr (2, [.null, .null, .int 0, .int 0, .int 0, .int 0]))] s.heap.size = A at hD ⊢
  have hA : ∀ q : Nat, s.heap.size ≤ q → A q := fun q h => by rw [← hAe]; exact Or.inr h
  have hS : va_S A s.heap s.heap [] := va_S.rf
  have hP : va_P D classes [(h0, .inr (2, [.null, .null, .int 0, .int 0, .int 0, .int 0]))] s.heap := hP
  have hl := lv_entry ([.ref h0]) (n := 1) (Nat.le_of_ble_eq_true rfl)
  rw [lg_entry_eq]
  generalize (lg_sl ([.ref h0]) ++ List.replicate (1 - (lg_sl ([.ref h0])).length) Slot.unset).toArray = ls at hl ⊢
  have hl : lv_has ls 1 [(0, .ref h0)] := hl
  refine lv_aload_n hx hb d_Cav_init_0 rfl (lv_at hl 0 rfl) ?_
  refine W.objInit hx hb hown (hts (.methodLink R_Cav 3 objectInit) (tbl_at 83 (by decide +kernel) rfl)) (hts (.instanceMethod objectInit) oi_w.1) (hts _ oi_w.2) rfl (by rw [hml]; exact hl.1) rfl d_Cav_init_1 (Nat.le_of_ble_eq_true rfl) (Nat.le_of_ble_eq_true rfl) ?_
  refine W.eq (g2 := F0 m 4 ls []) rfl ?_
  refine lv_aload_n hx hb d_Cav_init_4 rfl (lv_at hl 0 rfl) ?_
  have h_0 : 0 + 1 ≤ 16 := by decide
  have i_0 : 0 + 9 ≤ 148 := by decide
  refine va_new (ci := 7) (fs := [.int 0, .null, .null, .null, .null, .null, .null, .null, .null]) (C := R_Yar) (T := F_Yar) (N := 9) hx hb hts i_Yar t_Yar t_Yar_ok hown (hts (.classLink R_Cav 9 R_Yar) (tbl_at 84 (by decide +kernel) rfl)) (hts (.instantiable R_Yar 9) (tbl_at 85 (by decide +kernel) rfl)) (hts (.initialized R_Yar) (tbl_at 50 (by decide +kernel) rfl)) hK hP hD hS hA rfl (fun j hj => by rcases (show j = 0 ∨ j = 1 ∨ j = 2 ∨ j = 3 ∨ j = 4 ∨ j = 5 ∨ j = 6 ∨ j = 7 ∨ j = 8 by omega) with rfl | rfl | rfl | rfl | rfl | rfl | rfl | rfl | rfl <;> rfl) h_0 i_0 d_Cav_init_5 (fun q0 H hP hD hS => ?_)
  have hP : va_P D classes [(h0, .inr (2, [.null, .null, .int 0, .int 0, .int 0, .int 0])), (q0, .inr (7, [.int 0, .null, .null, .null, .null, .null, .null, .null, .null]))] H := hP
  have hD : va_D A [(h0, .inr (2, [.null, .null, .int 0, .int 0, .int 0, .int 0])), (q0, .inr (7, [.int 0, .null, .null, .null, .null, .null, .null, .null, .null]))] := hD
  refine lv_dup hx hb d_Cav_init_8 rfl ?_
  have hPc := hP.sub (ws' := [(q0, .inr (7, [.int 0, .null, .null, .null, .null, .null, .null, .null, .null]))]) [1] rfl
  have hDc := hD.sub (ws' := [(q0, .inr (7, [.int 0, .null, .null, .null, .null, .null, .null, .null, .null]))]) [1] (by decide) rfl
  have hKc := hK.sub (tys' := [(cI, .int)]) [0] rfl
  have hFc := va_free (wc := [(q0, .inr (7, [.int 0, .null, .null, .null, .null, .null, .null, .null, .null]))]) hD hS hA [1] rfl
  refine va_callv (va_runIN (Ts := tbl) (own := R_Cav) (host := "BreatheOut") (As := []) (rest := [.ref q0, .ref h0]) ⟨hx, hb, hml, hown, hts⟩ (c_Yar_init l D cI q0 H.size) ⟨va_cnB 0 hts (good_code (tbl_at 88 rfl rfl)) rfl rfl rfl (hN.1 (R_Cav, 11, y_Yar_init) (by decide +kernel)) (hts _ (tbl_at 50 (by decide +kernel) rfl)) (by decide +kernel) ⟨Nat.le_of_ble_eq_true rfl, Nat.le_of_ble_eq_true rfl⟩, rfl, hts _ (tbl_at 87 (by decide +kernel) rfl)⟩ ⟨ini_blind, fun U hU hW => ⟨rfl, by rw [hU], by rw [hU]; exact hPc, va_K.moved hW.alike hKc, gC_warm hW hN, hDc.weaken (fun _ _ _ _ => trivial)⟩⟩ rfl rfl (hl.1.trans rfl) rfl (lv_room (Nat.le_of_ble_eq_true rfl)) d_Cav_init_9 ⟨Nat.le_of_ble_eq_true rfl, Nat.le_of_ble_eq_true rfl⟩) hS (fun q _ h => hFc q h) hFc (fun u t H1 locs ht hvm hw hB hz1 hk1 hS => ?_)
  obtain ⟨a1, cS1⟩ := u
  obtain ⟨hP1, hD1, -⟩ := hB
  rw [ht] at hP1
  dsimp only at hw hP1 hD1
  obtain ⟨hPn, hDn⟩ := va_join (wr := [(h0, .inr (2, [.null, .null, .int 0, .int 0, .int 0, .int 0]))]) (w1 := sg cI cS1 a1 z_Yar 0 [3, 112, 112, 112, 112, 112, 112, 112, 112]) hP hD [1] [0] rfl rfl (by decide) (by decide) hk1 hFc hP1 hD1
  clear hP hD hPc hDc hFc
  subst hw
  generalize H1 = H at hPn hS ⊢
  have hP := hPn
  have hD := hDn
  have hP : va_P D classes ([(h0, .inr (2, [.null, .null, .int 0, .int 0, .int 0, .int 0]))] ++ sg cI cS1 a1 z_Yar 0 [3, 112, 112, 112, 112, 112, 112, 112, 112]) H := hP
  have hD : va_D A ([(h0, .inr (2, [.null, .null, .int 0, .int 0, .int 0, .int 0]))] ++ sg cI cS1 a1 z_Yar 0 [3, 112, 112, 112, 112, 112, 112, 112, 112]) := hD
  refine va_putF (D := D) (ci := 2) (v := .ref (a1 0)) (ty := .object "BreatheOut$Yards") (C := R_Cav) (T := F_Cav) (N := 6) hx hb hts i_Cav t_Cav t_Cav_ok n_Cav hown hK hP hD hS 0 rfl rfl 0 (by decide) (hts (.fieldLink R_Cav 12 "BreatheOut$Cave" "yards" "LBreatheOut$Yards;") (tbl_at 170 (by decide +kernel) rfl)) (fun _ h9 => h9) rfl hin rfl (by decide +kernel) rfl rfl (Nat.le_of_ble_eq_true rfl) d_Cav_init_12 (fun H locs hP hD hS => ?_)
  have hP : va_P D classes ([(h0, .inr (2, [.ref (a1 0), .null, .int 0, .int 0, .int 0, .int 0]))] ++ sg cI cS1 a1 z_Yar 0 [3, 112, 112, 112, 112, 112, 112, 112, 112]) H := hP
  have hD : va_D A ([(h0, .inr (2, [.ref (a1 0), .null, .int 0, .int 0, .int 0, .int 0]))] ++ sg cI cS1 a1 z_Yar 0 [3, 112, 112, 112, 112, 112, 112, 112, 112]) := hD
  refine lv_aload_n hx hb d_Cav_init_15 rfl (lv_at hl 0 rfl) ?_
  have h_1 : 9 + 1 ≤ 16 := by decide
  have i_1 : 105 + 7 ≤ 148 := by decide
  refine va_new (ci := 1) (fs := [.int 0, .null, .null, .null, .null, .null, .null]) (C := R_Bod) (T := F_Bod) (N := 7) hx hb hts i_Bod t_Bod t_Bod_ok hown (hts (.classLink R_Cav 18 R_Bod) (tbl_at 128 (by decide +kernel) rfl)) (hts (.instantiable R_Bod 7) (tbl_at 129 (by decide +kernel) rfl)) (hts (.initialized R_Bod) (tbl_at 51 (by decide +kernel) rfl)) hK hP hD hS hA rfl (fun j hj => by rcases (show j = 0 ∨ j = 1 ∨ j = 2 ∨ j = 3 ∨ j = 4 ∨ j = 5 ∨ j = 6 by omega) with rfl | rfl | rfl | rfl | rfl | rfl | rfl <;> rfl) h_1 i_1 d_Cav_init_16 (fun q1 H hP hD hS => ?_)
  have hP : va_P D classes ([(h0, .inr (2, [.ref (a1 0), .null, .int 0, .int 0, .int 0, .int 0]))] ++ sg cI cS1 a1 z_Yar 0 [3, 112, 112, 112, 112, 112, 112, 112, 112] ++ [(q1, .inr (1, [.int 0, .null, .null, .null, .null, .null, .null]))]) H := hP
  have hD : va_D A ([(h0, .inr (2, [.ref (a1 0), .null, .int 0, .int 0, .int 0, .int 0]))] ++ sg cI cS1 a1 z_Yar 0 [3, 112, 112, 112, 112, 112, 112, 112, 112] ++ [(q1, .inr (1, [.int 0, .null, .null, .null, .null, .null, .null]))]) := hD
  refine lv_dup hx hb d_Cav_init_19 rfl ?_
  have hPc := hP.sub (ws' := [(q1, .inr (1, [.int 0, .null, .null, .null, .null, .null, .null]))]) [10] rfl
  have hDc := hD.sub (ws' := [(q1, .inr (1, [.int 0, .null, .null, .null, .null, .null, .null]))]) [10] (by decide) rfl
  have hKc := hK.sub (tys' := [(cI, .int)]) [0] rfl
  have hFc := va_free (wc := [(q1, .inr (1, [.int 0, .null, .null, .null, .null, .null, .null]))]) hD hS hA [10] rfl
  refine va_callv (va_runIN (Ts := tbl) (own := R_Cav) (host := "BreatheOut") (As := []) (rest := [.ref q1, .ref h0]) ⟨hx, hb, hml, hown, hts⟩ (c_Bod_init l D cI q1 H.size) ⟨va_cnB 0 hts (good_code (tbl_at 132 rfl rfl)) rfl rfl rfl (hN.1 (R_Cav, 20, y_Bod_init) (by decide +kernel)) (hts _ (tbl_at 51 (by decide +kernel) rfl)) (by decide +kernel) ⟨Nat.le_of_ble_eq_true rfl, Nat.le_of_ble_eq_true rfl⟩, rfl, hts _ (tbl_at 131 (by decide +kernel) rfl)⟩ ⟨ini_blind, fun U hU hW => ⟨rfl, by rw [hU], by rw [hU]; exact hPc, va_K.moved hW.alike hKc, gC_warm hW hN, hDc.weaken (fun _ _ _ _ => trivial)⟩⟩ rfl rfl (hl.1.trans rfl) rfl (lv_room (Nat.le_of_ble_eq_true rfl)) d_Cav_init_20 ⟨Nat.le_of_ble_eq_true rfl, Nat.le_of_ble_eq_true rfl⟩) hS (fun q _ h => hFc q h) hFc (fun u t H1 locs ht hvm hw hB hz1 hk1 hS => ?_)
  obtain ⟨a2, cS2⟩ := u
  obtain ⟨hP1, hD1, -⟩ := hB
  rw [ht] at hP1
  dsimp only at hw hP1 hD1
  obtain ⟨hPn, hDn⟩ := va_join (wr := ([(h0, .inr (2, [.ref (a1 0), .null, .int 0, .int 0, .int 0, .int 0]))] ++ sg cI cS1 a1 z_Yar 0 [3, 112, 112, 112, 112, 112, 112, 112, 112])) (w1 := sg cI cS2 a2 z_Bod 0 [4, 106, 106, 106, 106, 106, 106]) hP hD [10] [0, 1, 2, 3, 4, 5, 6, 7, 8, 9] rfl rfl (by decide) (by decide) hk1 hFc hP1 hD1
  clear hP hD hPc hDc hFc
  subst hw
  generalize H1 = H at hPn hS ⊢
  have hP := hPn
  have hD := hDn
  have hP : va_P D classes ([(h0, .inr (2, [.ref (a1 0), .null, .int 0, .int 0, .int 0, .int 0]))] ++ sg cI cS1 a1 z_Yar 0 [3, 112, 112, 112, 112, 112, 112, 112, 112] ++ sg cI cS2 a2 z_Bod 0 [4, 106, 106, 106, 106, 106, 106]) H := hP
  have hD : va_D A ([(h0, .inr (2, [.ref (a1 0), .null, .int 0, .int 0, .int 0, .int 0]))] ++ sg cI cS1 a1 z_Yar 0 [3, 112, 112, 112, 112, 112, 112, 112, 112] ++ sg cI cS2 a2 z_Bod 0 [4, 106, 106, 106, 106, 106, 106]) := hD
  refine va_putF (D := D) (ci := 2) (v := .ref (a2 0)) (ty := .object "BreatheOut$Bodies") (C := R_Cav) (T := F_Cav) (N := 6) hx hb hts i_Cav t_Cav t_Cav_ok n_Cav hown hK hP hD hS 0 rfl rfl 1 (by decide) (hts (.fieldLink R_Cav 21 "BreatheOut$Cave" "bodies" "LBreatheOut$Bodies;") (tbl_at 174 (by decide +kernel) rfl)) (fun _ h9 => h9) rfl hin rfl (by decide +kernel) rfl rfl (Nat.le_of_ble_eq_true rfl) d_Cav_init_23 (fun H locs hP hD hS => ?_)
  have hP : va_P D classes ([(h0, .inr (2, [.ref (a1 0), .ref (a2 0), .int 0, .int 0, .int 0, .int 0]))] ++ sg cI cS1 a1 z_Yar 0 [3, 112, 112, 112, 112, 112, 112, 112, 112] ++ sg cI cS2 a2 z_Bod 0 [4, 106, 106, 106, 106, 106, 106]) H := hP
  have hD : va_D A ([(h0, .inr (2, [.ref (a1 0), .ref (a2 0), .int 0, .int 0, .int 0, .int 0]))] ++ sg cI cS1 a1 z_Yar 0 [3, 112, 112, 112, 112, 112, 112, 112, 112] ++ sg cI cS2 a2 z_Bod 0 [4, 106, 106, 106, 106, 106, 106]) := hD
  refine lv_aload_n hx hb d_Cav_init_26 rfl (lv_at hl 0 rfl) ?_
  refine lv_iconst (v := 1) hx hb d_Cav_init_27 (by decide) ?_
  refine va_put (D := D) (ci := 2) (v := .int 1) (ty := .int) (C := R_Cav) (T := F_Cav) (N := 6) hx hb hts i_Cav t_Cav t_Cav_ok n_Cav hown hK hP hD hS 0 rfl rfl 2 (by decide) (hts (.fieldLink R_Cav 25 "BreatheOut$Cave" "rise" "I") (tbl_at 180 (by decide +kernel) rfl)) (fun _ h9 => h9) rfl (by decide +kernel) rfl rfl (Nat.le_of_ble_eq_true rfl) d_Cav_init_28 (fun H locs hP hD hS => ?_)
  have hP : va_P D classes ([(h0, .inr (2, [.ref (a1 0), .ref (a2 0), .int 1, .int 0, .int 0, .int 0]))] ++ sg cI cS1 a1 z_Yar 0 [3, 112, 112, 112, 112, 112, 112, 112, 112] ++ sg cI cS2 a2 z_Bod 0 [4, 106, 106, 106, 106, 106, 106]) H := hP
  have hD : va_D A ([(h0, .inr (2, [.ref (a1 0), .ref (a2 0), .int 1, .int 0, .int 0, .int 0]))] ++ sg cI cS1 a1 z_Yar 0 [3, 112, 112, 112, 112, 112, 112, 112, 112] ++ sg cI cS2 a2 z_Bod 0 [4, 106, 106, 106, 106, 106, 106]) := hD
  refine lv_aload_n hx hb d_Cav_init_31 rfl (lv_at hl 0 rfl) ?_
  refine lv_bipush (v := 15) hx hb d_Cav_init_32 (by decide) ?_
  refine va_put (D := D) (ci := 2) (v := .int 15) (ty := .int) (C := R_Cav) (T := F_Cav) (N := 6) hx hb hts i_Cav t_Cav t_Cav_ok n_Cav hown hK hP hD hS 0 rfl rfl 3 (by decide) (hts (.fieldLink R_Cav 29 "BreatheOut$Cave" "calm" "I") (tbl_at 182 (by decide +kernel) rfl)) (fun _ h9 => h9) rfl (by decide +kernel) rfl rfl (Nat.le_of_ble_eq_true rfl) d_Cav_init_34 (fun H locs hP hD hS => ?_)
  have hP : va_P D classes ([(h0, .inr (2, [.ref (a1 0), .ref (a2 0), .int 1, .int 15, .int 0, .int 0]))] ++ sg cI cS1 a1 z_Yar 0 [3, 112, 112, 112, 112, 112, 112, 112, 112] ++ sg cI cS2 a2 z_Bod 0 [4, 106, 106, 106, 106, 106, 106]) H := hP
  have hD : va_D A ([(h0, .inr (2, [.ref (a1 0), .ref (a2 0), .int 1, .int 15, .int 0, .int 0]))] ++ sg cI cS1 a1 z_Yar 0 [3, 112, 112, 112, 112, 112, 112, 112, 112] ++ sg cI cS2 a2 z_Bod 0 [4, 106, 106, 106, 106, 106, 106]) := hD
  refine lv_aload_n hx hb d_Cav_init_37 rfl (lv_at hl 0 rfl) ?_
  refine lv_bipush (v := 120) hx hb d_Cav_init_38 (by decide) ?_
  refine va_put (D := D) (ci := 2) (v := .int 120) (ty := .int) (C := R_Cav) (T := F_Cav) (N := 6) hx hb hts i_Cav t_Cav t_Cav_ok n_Cav hown hK hP hD hS 0 rfl rfl 4 (by decide) (hts (.fieldLink R_Cav 32 "BreatheOut$Cave" "light" "I") (tbl_at 185 (by decide +kernel) rfl)) (fun _ h9 => h9) rfl (by decide +kernel) rfl rfl (Nat.le_of_ble_eq_true rfl) d_Cav_init_40 (fun H locs hP hD hS => ?_)
  have hP : va_P D classes ([(h0, .inr (2, [.ref (a1 0), .ref (a2 0), .int 1, .int 15, .int 120, .int 0]))] ++ sg cI cS1 a1 z_Yar 0 [3, 112, 112, 112, 112, 112, 112, 112, 112] ++ sg cI cS2 a2 z_Bod 0 [4, 106, 106, 106, 106, 106, 106]) H := hP
  have hD : va_D A ([(h0, .inr (2, [.ref (a1 0), .ref (a2 0), .int 1, .int 15, .int 120, .int 0]))] ++ sg cI cS1 a1 z_Yar 0 [3, 112, 112, 112, 112, 112, 112, 112, 112] ++ sg cI cS2 a2 z_Bod 0 [4, 106, 106, 106, 106, 106, 106]) := hD
  refine lv_aload_n hx hb d_Cav_init_43 rfl (lv_at hl 0 rfl) ?_
  refine lv_iconst (v := 0) hx hb d_Cav_init_44 (by decide) ?_
  refine va_put (D := D) (ci := 2) (v := .int 0) (ty := .int) (C := R_Cav) (T := F_Cav) (N := 6) hx hb hts i_Cav t_Cav t_Cav_ok n_Cav hown hK hP hD hS 0 rfl rfl 5 (by decide) (hts (.fieldLink R_Cav 35 "BreatheOut$Cave" "clock" "I") (tbl_at 187 (by decide +kernel) rfl)) (fun _ h9 => h9) rfl (by decide +kernel) rfl rfl (Nat.le_of_ble_eq_true rfl) d_Cav_init_45 (fun H locs hP hD hS => ?_)
  have hP : va_P D classes ([(h0, .inr (2, [.ref (a1 0), .ref (a2 0), .int 1, .int 15, .int 120, .int 0]))] ++ sg cI cS1 a1 z_Yar 0 [3, 112, 112, 112, 112, 112, 112, 112, 112] ++ sg cI cS2 a2 z_Bod 0 [4, 106, 106, 106, 106, 106, 106]) H := hP
  have hD : va_D A ([(h0, .inr (2, [.ref (a1 0), .ref (a2 0), .int 1, .int 15, .int 120, .int 0]))] ++ sg cI cS1 a1 z_Yar 0 [3, 112, 112, 112, 112, 112, 112, 112, 112] ++ sg cI cS2 a2 z_Bod 0 [4, 106, 106, 106, 106, 106, 106]) := hD
  have hP9 : va_P D classes (sg cI 0 (fun j => if j < 1 then h0 else if j < 10 then a1 (j - 1) else if j < 17 then a2 (j - 10) else 0) z_Cav 0 [2, 3, 112, 112, 112, 112, 112, 112, 112, 112, 4, 106, 106, 106, 106, 106, 106]) H := hP
  have hD9 : va_D A (sg cI 0 (fun j => if j < 1 then h0 else if j < 10 then a1 (j - 1) else if j < 17 then a2 (j - 10) else 0) z_Cav 0 [2, 3, 112, 112, 112, 112, 112, 112, 112, 112, 4, 106, 106, 106, 106, 106, 106]) := hD
  exact W.vret hx hb hr (fun t ht hW => ⟨⟨(fun j => if j < 1 then h0 else if j < 10 then a1 (j - 1) else if j < 17 then a2 (j - 10) else 0, 0), rfl, rfl, by rw [ht]; exact hP9, hD9, (fun h => absurd h (by decide))⟩, hS.F ht⟩) hS.2.2 d_Cav_init_48
def z_Tri : St := fun p k => if p = 1 ∨ p = 3 then (if k = 2 then -4 else if k = 3 then -4 else 0) else 0
theorem d_Tri_init_0 : decode b_Tri_init 0 = .ok (.aload_n 0, 1) := by decide +kernel
theorem d_Tri_init_1 : decode b_Tri_init 1 = .ok (.invokespecial 3, 3) := by decide +kernel
theorem d_Tri_init_4 : decode b_Tri_init 4 = .ok (.aload_n 0, 1) := by decide +kernel
theorem d_Tri_init_5 : decode b_Tri_init 5 = .ok (.new 9, 3) := by decide +kernel
theorem d_Tri_init_8 : decode b_Tri_init 8 = .ok (.dup, 1) := by decide +kernel
theorem d_Tri_init_9 : decode b_Tri_init 9 = .ok (.invokespecial 11, 3) := by decide +kernel
theorem d_Tri_init_12 : decode b_Tri_init 12 = .ok (.putfield 12, 3) := by decide +kernel
theorem d_Tri_init_15 : decode b_Tri_init 15 = .ok (.aload_n 0, 1) := by decide +kernel
theorem d_Tri_init_16 : decode b_Tri_init 16 = .ok (.new 9, 3) := by decide +kernel
theorem d_Tri_init_19 : decode b_Tri_init 19 = .ok (.dup, 1) := by decide +kernel
theorem d_Tri_init_20 : decode b_Tri_init 20 = .ok (.invokespecial 11, 3) := by decide +kernel
theorem d_Tri_init_23 : decode b_Tri_init 23 = .ok (.putfield 18, 3) := by decide +kernel
theorem d_Tri_init_26 : decode b_Tri_init 26 = .ok (.aload_n 0, 1) := by decide +kernel
theorem d_Tri_init_27 : decode b_Tri_init 27 = .ok (.iconst 1, 1) := by decide +kernel
theorem d_Tri_init_28 : decode b_Tri_init 28 = .ok (.newarray .int, 2) := by decide +kernel
theorem d_Tri_init_30 : decode b_Tri_init 30 = .ok (.putfield 21, 3) := by decide +kernel
theorem d_Tri_init_33 : decode b_Tri_init 33 = .ok (.return_, 1) := by decide +kernel
set_option maxHeartbeats 4000000 in
set_option maxRecDepth 100000 in
theorem c_Tri_init (l : Launch) (D : va_G) (cI : ClassId) : Ini l D cI y_Tri_init b_Tri_init 1 ({ frames := 2, cells := 5, slots := 27, locals := 32 }) 5 27 (.inr (6, [.null, .null, .null])) [5, 6, 106, 6, 106, 101] z_Tri := by
  intro h0 sz
  refine Met.ofW (cc := b_Tri_init) (maxL := 1) (ret := none) (by decide) rfl ?_
  intro p e s m args below meth c s₁ B hml hv
  obtain ⟨rfl, hsz, hP, hK, hN, hD0⟩ := hv
  have hx := B.exec
  have hb := B.bytes
  have hr := B.returns
  have hts0 := atoms_spec (ws := Cond.code y_Tri_init b_Tri_init 1 none :: tbl) B.pre
  have hts : ∀ w ∈ tbl, w.before _ s = true := fun w hw => hts0 w (List.mem_cons_of_mem _ hw)
  have hown : s.vm.findClass R_Tri = some m.cls := findClass_of_methodNamed B.named
  have hlocks := B.notSynchronized
  have hin : meth.name = "<init>" := (name_of_methodNamed B.named B.method).1
  subst hsz
  have hD := hD0.self (sz := s.heap.size)
  unfold iniQ
  generalize hAe : va_A [(h0, .inr (6, [.null, .null, .null]))] s.heap.size = A at hD ⊢
  have hA : ∀ q : Nat, s.heap.size ≤ q → A q := fun q h => by rw [← hAe]; exact Or.inr h
  have hS : va_S A s.heap s.heap [] := va_S.rf
  have hP : va_P D classes [(h0, .inr (6, [.null, .null, .null]))] s.heap := hP
  have hl := lv_entry ([.ref h0]) (n := 1) (Nat.le_of_ble_eq_true rfl)
  rw [lg_entry_eq]
  generalize (lg_sl ([.ref h0]) ++ List.replicate (1 - (lg_sl ([.ref h0])).length) Slot.unset).toArray = ls at hl ⊢
  have hl : lv_has ls 1 [(0, .ref h0)] := hl
  refine lv_aload_n hx hb d_Tri_init_0 rfl (lv_at hl 0 rfl) ?_
  refine W.objInit hx hb hown (hts (.methodLink R_Tri 3 objectInit) (tbl_at 209 (by decide +kernel) rfl)) (hts (.instanceMethod objectInit) oi_w.1) (hts _ oi_w.2) rfl (by rw [hml]; exact hl.1) rfl d_Tri_init_1 (Nat.le_of_ble_eq_true rfl) (Nat.le_of_ble_eq_true rfl) ?_
  refine W.eq (g2 := F0 m 4 ls []) rfl ?_
  refine lv_aload_n hx hb d_Tri_init_4 rfl (lv_at hl 0 rfl) ?_
  have h_0 : 0 + 1 ≤ 5 := by decide
  have i_0 : 0 + 7 ≤ 27 := by decide
  refine va_new (ci := 3) (fs := [.int 0, .int 0, .int 0, .int 0, .int 0, .int 0, .null]) (C := R_Leg) (T := F_Leg) (N := 7) hx hb hts i_Leg t_Leg t_Leg_ok hown (hts (.classLink R_Tri 9 R_Leg) (tbl_at 210 (by decide +kernel) rfl)) (hts (.instantiable R_Leg 7) (tbl_at 211 (by decide +kernel) rfl)) (hts (.initialized R_Leg) (tbl_at 53 (by decide +kernel) rfl)) hK hP hD hS hA rfl (fun j hj => by rcases (show j = 0 ∨ j = 1 ∨ j = 2 ∨ j = 3 ∨ j = 4 ∨ j = 5 ∨ j = 6 by omega) with rfl | rfl | rfl | rfl | rfl | rfl | rfl <;> rfl) h_0 i_0 d_Tri_init_5 (fun q0 H hP hD hS => ?_)
  have hP : va_P D classes [(h0, .inr (6, [.null, .null, .null])), (q0, .inr (3, [.int 0, .int 0, .int 0, .int 0, .int 0, .int 0, .null]))] H := hP
  have hD : va_D A [(h0, .inr (6, [.null, .null, .null])), (q0, .inr (3, [.int 0, .int 0, .int 0, .int 0, .int 0, .int 0, .null]))] := hD
  refine lv_dup hx hb d_Tri_init_8 rfl ?_
  have hPc := hP.sub (ws' := [(q0, .inr (3, [.int 0, .int 0, .int 0, .int 0, .int 0, .int 0, .null]))]) [1] rfl
  have hDc := hD.sub (ws' := [(q0, .inr (3, [.int 0, .int 0, .int 0, .int 0, .int 0, .int 0, .null]))]) [1] (by decide) rfl
  have hKc := hK.sub (tys' := [(cI, .int)]) [0] rfl
  have hFc := va_free (wc := [(q0, .inr (3, [.int 0, .int 0, .int 0, .int 0, .int 0, .int 0, .null]))]) hD hS hA [1] rfl
  refine va_callv (va_runIN (Ts := tbl) (own := R_Tri) (host := "BreatheOut") (As := []) (rest := [.ref q0, .ref h0]) ⟨hx, hb, hml, hown, hts⟩ (c_Leg_init l D cI q0 H.size) ⟨va_cnB 0 hts (good_code (tbl_at 214 rfl rfl)) rfl rfl rfl (hN.1 (R_Tri, 11, y_Leg_init) (by decide +kernel)) (hts _ (tbl_at 53 (by decide +kernel) rfl)) (by decide +kernel) ⟨Nat.le_of_ble_eq_true rfl, Nat.le_of_ble_eq_true rfl⟩, rfl, hts _ (tbl_at 213 (by decide +kernel) rfl)⟩ ⟨ini_blind, fun U hU hW => ⟨rfl, by rw [hU], by rw [hU]; exact hPc, va_K.moved hW.alike hKc, gC_warm hW hN, hDc.weaken (fun _ _ _ _ => trivial)⟩⟩ rfl rfl (hl.1.trans rfl) rfl (lv_room (Nat.le_of_ble_eq_true rfl)) d_Tri_init_9 ⟨Nat.le_of_ble_eq_true rfl, Nat.le_of_ble_eq_true rfl⟩) hS (fun q _ h => hFc q h) hFc (fun u t H1 locs ht hvm hw hB hz1 hk1 hS => ?_)
  obtain ⟨a1, cS1⟩ := u
  obtain ⟨hP1, hD1, -⟩ := hB
  rw [ht] at hP1
  dsimp only at hw hP1 hD1
  obtain ⟨hPn, hDn⟩ := va_join (wr := [(h0, .inr (6, [.null, .null, .null]))]) (w1 := sg cI cS1 a1 z_Leg 0 [6, 106]) hP hD [1] [0] rfl rfl (by decide) (by decide) hk1 hFc hP1 hD1
  clear hP hD hPc hDc hFc
  subst hw
  generalize H1 = H at hPn hS ⊢
  have hP := hPn
  have hD := hDn
  have hP : va_P D classes ([(h0, .inr (6, [.null, .null, .null]))] ++ sg cI cS1 a1 z_Leg 0 [6, 106]) H := hP
  have hD : va_D A ([(h0, .inr (6, [.null, .null, .null]))] ++ sg cI cS1 a1 z_Leg 0 [6, 106]) := hD
  refine va_putF (D := D) (ci := 6) (v := .ref (a1 0)) (ty := .object "BreatheOut$Leg") (C := R_Tri) (T := F_Tri) (N := 3) hx hb hts i_Tri t_Tri t_Tri_ok n_Tri hown hK hP hD hS 0 rfl rfl 0 (by decide) (hts (.fieldLink R_Tri 12 "BreatheOut$Trip" "there" "LBreatheOut$Leg;") (tbl_at 250 (by decide +kernel) rfl)) (fun _ h9 => h9) rfl hin rfl (by decide +kernel) rfl rfl (Nat.le_of_ble_eq_true rfl) d_Tri_init_12 (fun H locs hP hD hS => ?_)
  have hP : va_P D classes ([(h0, .inr (6, [.ref (a1 0), .null, .null]))] ++ sg cI cS1 a1 z_Leg 0 [6, 106]) H := hP
  have hD : va_D A ([(h0, .inr (6, [.ref (a1 0), .null, .null]))] ++ sg cI cS1 a1 z_Leg 0 [6, 106]) := hD
  refine lv_aload_n hx hb d_Tri_init_15 rfl (lv_at hl 0 rfl) ?_
  have h_1 : 2 + 1 ≤ 5 := by decide
  have i_1 : 13 + 7 ≤ 27 := by decide
  refine va_new (ci := 3) (fs := [.int 0, .int 0, .int 0, .int 0, .int 0, .int 0, .null]) (C := R_Leg) (T := F_Leg) (N := 7) hx hb hts i_Leg t_Leg t_Leg_ok hown (hts (.classLink R_Tri 9 R_Leg) (tbl_at 210 (by decide +kernel) rfl)) (hts (.instantiable R_Leg 7) (tbl_at 211 (by decide +kernel) rfl)) (hts (.initialized R_Leg) (tbl_at 53 (by decide +kernel) rfl)) hK hP hD hS hA rfl (fun j hj => by rcases (show j = 0 ∨ j = 1 ∨ j = 2 ∨ j = 3 ∨ j = 4 ∨ j = 5 ∨ j = 6 by omega) with rfl | rfl | rfl | rfl | rfl | rfl | rfl <;> rfl) h_1 i_1 d_Tri_init_16 (fun q1 H hP hD hS => ?_)
  have hP : va_P D classes ([(h0, .inr (6, [.ref (a1 0), .null, .null]))] ++ sg cI cS1 a1 z_Leg 0 [6, 106] ++ [(q1, .inr (3, [.int 0, .int 0, .int 0, .int 0, .int 0, .int 0, .null]))]) H := hP
  have hD : va_D A ([(h0, .inr (6, [.ref (a1 0), .null, .null]))] ++ sg cI cS1 a1 z_Leg 0 [6, 106] ++ [(q1, .inr (3, [.int 0, .int 0, .int 0, .int 0, .int 0, .int 0, .null]))]) := hD
  refine lv_dup hx hb d_Tri_init_19 rfl ?_
  have hPc := hP.sub (ws' := [(q1, .inr (3, [.int 0, .int 0, .int 0, .int 0, .int 0, .int 0, .null]))]) [3] rfl
  have hDc := hD.sub (ws' := [(q1, .inr (3, [.int 0, .int 0, .int 0, .int 0, .int 0, .int 0, .null]))]) [3] (by decide) rfl
  have hKc := hK.sub (tys' := [(cI, .int)]) [0] rfl
  have hFc := va_free (wc := [(q1, .inr (3, [.int 0, .int 0, .int 0, .int 0, .int 0, .int 0, .null]))]) hD hS hA [3] rfl
  refine va_callv (va_runIN (Ts := tbl) (own := R_Tri) (host := "BreatheOut") (As := []) (rest := [.ref q1, .ref h0]) ⟨hx, hb, hml, hown, hts⟩ (c_Leg_init l D cI q1 H.size) ⟨va_cnB 0 hts (good_code (tbl_at 214 rfl rfl)) rfl rfl rfl (hN.1 (R_Tri, 11, y_Leg_init) (by decide +kernel)) (hts _ (tbl_at 53 (by decide +kernel) rfl)) (by decide +kernel) ⟨Nat.le_of_ble_eq_true rfl, Nat.le_of_ble_eq_true rfl⟩, rfl, hts _ (tbl_at 213 (by decide +kernel) rfl)⟩ ⟨ini_blind, fun U hU hW => ⟨rfl, by rw [hU], by rw [hU]; exact hPc, va_K.moved hW.alike hKc, gC_warm hW hN, hDc.weaken (fun _ _ _ _ => trivial)⟩⟩ rfl rfl (hl.1.trans rfl) rfl (lv_room (Nat.le_of_ble_eq_true rfl)) d_Tri_init_20 ⟨Nat.le_of_ble_eq_true rfl, Nat.le_of_ble_eq_true rfl⟩) hS (fun q _ h => hFc q h) hFc (fun u t H1 locs ht hvm hw hB hz1 hk1 hS => ?_)
  obtain ⟨a2, cS2⟩ := u
  obtain ⟨hP1, hD1, -⟩ := hB
  rw [ht] at hP1
  dsimp only at hw hP1 hD1
  obtain ⟨hPn, hDn⟩ := va_join (wr := ([(h0, .inr (6, [.ref (a1 0), .null, .null]))] ++ sg cI cS1 a1 z_Leg 0 [6, 106])) (w1 := sg cI cS2 a2 z_Leg 0 [6, 106]) hP hD [3] [0, 1, 2] rfl rfl (by decide) (by decide) hk1 hFc hP1 hD1
  clear hP hD hPc hDc hFc
  subst hw
  generalize H1 = H at hPn hS ⊢
  have hP := hPn
  have hD := hDn
  have hP : va_P D classes ([(h0, .inr (6, [.ref (a1 0), .null, .null]))] ++ sg cI cS1 a1 z_Leg 0 [6, 106] ++ sg cI cS2 a2 z_Leg 0 [6, 106]) H := hP
  have hD : va_D A ([(h0, .inr (6, [.ref (a1 0), .null, .null]))] ++ sg cI cS1 a1 z_Leg 0 [6, 106] ++ sg cI cS2 a2 z_Leg 0 [6, 106]) := hD
  refine va_putF (D := D) (ci := 6) (v := .ref (a2 0)) (ty := .object "BreatheOut$Leg") (C := R_Tri) (T := F_Tri) (N := 3) hx hb hts i_Tri t_Tri t_Tri_ok n_Tri hown hK hP hD hS 0 rfl rfl 1 (by decide) (hts (.fieldLink R_Tri 18 "BreatheOut$Trip" "home" "LBreatheOut$Leg;") (tbl_at 252 (by decide +kernel) rfl)) (fun _ h9 => h9) rfl hin rfl (by decide +kernel) rfl rfl (Nat.le_of_ble_eq_true rfl) d_Tri_init_23 (fun H locs hP hD hS => ?_)
  have hP : va_P D classes ([(h0, .inr (6, [.ref (a1 0), .ref (a2 0), .null]))] ++ sg cI cS1 a1 z_Leg 0 [6, 106] ++ sg cI cS2 a2 z_Leg 0 [6, 106]) H := hP
  have hD : va_D A ([(h0, .inr (6, [.ref (a1 0), .ref (a2 0), .null]))] ++ sg cI cS1 a1 z_Leg 0 [6, 106] ++ sg cI cS2 a2 z_Leg 0 [6, 106]) := hD
  refine lv_aload_n hx hb d_Tri_init_26 rfl (lv_at hl 0 rfl) ?_
  refine lv_iconst (v := 1) hx hb d_Tri_init_27 (by decide) ?_
  have h_2 : 4 + 1 ≤ 5 := by decide
  have i_2 : 26 + 1 ≤ 27 := by decide
  refine va_newa (atype := .int) (N' := 1) (a0 := (1, .inl (fun _ => 0))) hx hb (hts _ ai_w) rfl hK hP hD hS hA (fun _ => rfl) (by decide) (by decide) (by decide) h_2 i_2 d_Tri_init_28 (fun q2 cA H hK2 hP hD hS => ?_)
  obtain rfl : cI = cA := (va_one hK2).symm
  have hP : va_P D classes ([(h0, .inr (6, [.ref (a1 0), .ref (a2 0), .null]))] ++ sg cI cS1 a1 z_Leg 0 [6, 106] ++ sg cI cS2 a2 z_Leg 0 [6, 106] ++ [(q2, .inl (cI, 1, .inl (fun _ => 0)))]) H := hP
  have hD : va_D A ([(h0, .inr (6, [.ref (a1 0), .ref (a2 0), .null]))] ++ sg cI cS1 a1 z_Leg 0 [6, 106] ++ sg cI cS2 a2 z_Leg 0 [6, 106] ++ [(q2, .inl (cI, 1, .inl (fun _ => 0)))]) := hD
  refine va_putF (D := D) (ci := 6) (v := .ref q2) (ty := .array .int) (C := R_Tri) (T := F_Tri) (N := 3) hx hb hts i_Tri t_Tri t_Tri_ok n_Tri hown hK hP hD hS 0 rfl rfl 2 (by decide) (hts (.fieldLink R_Tri 21 "BreatheOut$Trip" "one" "[I") (tbl_at 255 (by decide +kernel) rfl)) (fun _ h9 => h9) rfl hin rfl (by decide +kernel) rfl rfl (Nat.le_of_ble_eq_true rfl) d_Tri_init_30 (fun H locs hP hD hS => ?_)
  have hP : va_P D classes ([(h0, .inr (6, [.ref (a1 0), .ref (a2 0), .ref q2]))] ++ sg cI cS1 a1 z_Leg 0 [6, 106] ++ sg cI cS2 a2 z_Leg 0 [6, 106] ++ [(q2, .inl (cI, 1, .inl (fun _ => 0)))]) H := hP
  have hD : va_D A ([(h0, .inr (6, [.ref (a1 0), .ref (a2 0), .ref q2]))] ++ sg cI cS1 a1 z_Leg 0 [6, 106] ++ sg cI cS2 a2 z_Leg 0 [6, 106] ++ [(q2, .inl (cI, 1, .inl (fun _ => 0)))]) := hD
  have hP9 : va_P D classes (sg cI 0 (fun j => if j < 1 then h0 else if j < 3 then a1 (j - 1) else if j < 5 then a2 (j - 3) else if j < 6 then q2 else 0) z_Tri 0 [5, 6, 106, 6, 106, 101]) H := hP
  have hD9 : va_D A (sg cI 0 (fun j => if j < 1 then h0 else if j < 3 then a1 (j - 1) else if j < 5 then a2 (j - 3) else if j < 6 then q2 else 0) z_Tri 0 [5, 6, 106, 6, 106, 101]) := hD
  exact W.vret hx hb hr (fun t ht hW => ⟨⟨(fun j => if j < 1 then h0 else if j < 3 then a1 (j - 1) else if j < 5 then a2 (j - 3) else if j < 6 then q2 else 0, 0), rfl, rfl, by rw [ht]; exact hP9, hD9, (fun h => absurd h (by decide))⟩, hS.F ht⟩) hS.2.2 d_Tri_init_33
