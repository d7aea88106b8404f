theorem d_Kin_fail_0 : decode b_Kin_fail 0 = .ok (.iload_n 0, 1) := by decide +kernel
theorem d_Kin_fail_1 : decode b_Kin_fail 1 = .ok (.bipush 7, 2) := by decide +kernel
theorem d_Kin_fail_3 : decode b_Kin_fail 3 = .ok (.if_icmp .eq 7, 3) := by decide +kernel
theorem d_Kin_fail_6 : decode b_Kin_fail 6 = .ok (.iload_n 1, 1) := by decide +kernel
theorem d_Kin_fail_7 : decode b_Kin_fail 7 = .ok (.ifCond .ne 4, 3) := by decide +kernel
theorem d_Kin_fail_10 : decode b_Kin_fail 10 = .ok (.return_, 1) := by decide +kernel
theorem d_Kin_fail_11 : decode b_Kin_fail 11 = .ok (.iload_n 0, 1) := by decide +kernel
theorem d_Kin_fail_12 : decode b_Kin_fail 12 = .ok (.bipush 6, 2) := by decide +kernel
theorem d_Kin_fail_14 : decode b_Kin_fail 14 = .ok (.if_icmp .ne 13, 3) := by decide +kernel
theorem d_Kin_fail_17 : decode b_Kin_fail 17 = .ok (.new 28, 3) := by decide +kernel
theorem d_Kin_fail_20 : decode b_Kin_fail 20 = .ok (.dup, 1) := by decide +kernel
theorem d_Kin_fail_21 : decode b_Kin_fail 21 = .ok (.ldc 30, 2) := by decide +kernel
theorem d_Kin_fail_23 : decode b_Kin_fail 23 = .ok (.invokespecial 32, 3) := by decide +kernel
theorem d_Kin_fail_26 : decode b_Kin_fail 26 = .ok (.athrow, 1) := by decide +kernel
theorem d_Kin_fail_27 : decode b_Kin_fail 27 = .ok (.iload_n 0, 1) := by decide +kernel
theorem d_Kin_fail_28 : decode b_Kin_fail 28 = .ok (.iconst 2, 1) := by decide +kernel
theorem d_Kin_fail_29 : decode b_Kin_fail 29 = .ok (.if_icmp .eq 8, 3) := by decide +kernel
theorem d_Kin_fail_32 : decode b_Kin_fail 32 = .ok (.iload_n 0, 1) := by decide +kernel
theorem d_Kin_fail_33 : decode b_Kin_fail 33 = .ok (.iconst 3, 1) := by decide +kernel
theorem d_Kin_fail_34 : decode b_Kin_fail 34 = .ok (.if_icmp .ne 13, 3) := by decide +kernel
theorem d_Kin_fail_37 : decode b_Kin_fail 37 = .ok (.new 35, 3) := by decide +kernel
theorem d_Kin_fail_40 : decode b_Kin_fail 40 = .ok (.dup, 1) := by decide +kernel
theorem d_Kin_fail_41 : decode b_Kin_fail 41 = .ok (.ldc 37, 2) := by decide +kernel
theorem d_Kin_fail_43 : decode b_Kin_fail 43 = .ok (.invokespecial 39, 3) := by decide +kernel
theorem d_Kin_fail_46 : decode b_Kin_fail 46 = .ok (.athrow, 1) := by decide +kernel
theorem d_Kin_fail_47 : decode b_Kin_fail 47 = .ok (.new 40, 3) := by decide +kernel
theorem d_Kin_fail_50 : decode b_Kin_fail 50 = .ok (.dup, 1) := by decide +kernel
theorem d_Kin_fail_51 : decode b_Kin_fail 51 = .ok (.ldc 42, 2) := by decide +kernel
theorem d_Kin_fail_53 : decode b_Kin_fail 53 = .ok (.invokespecial 44, 3) := by decide +kernel
theorem d_Kin_fail_56 : decode b_Kin_fail 56 = .ok (.athrow, 1) := by decide +kernel
def rm_Kin_fail : Room := { frames := 6, cells := 1, slots := 6, locals := 82 }
def failE (k : Int32) : String := if k = 6 then kUO else if k = 2 ∨ k = 3 then kIS else kIA
theorem cl_Kin_28 : Cond.classLink R_Kin 28 kUO ∈ tbl := tbl_at 875 (by decide +kernel) rfl
theorem cl_Kin_35 : Cond.classLink R_Kin 35 kIS ∈ tbl := tbl_at 943 (by decide +kernel) rfl
theorem cl_Kin_40 : Cond.classLink R_Kin 40 kIA ∈ tbl := tbl_at 959 (by decide +kernel) rfl
set_option maxRecDepth 100000 in
theorem ini_ex : ∀ q ∈ gTc, Cond.initialized q ∈ tbl := by
  intro q hq
  refine tbl_in ?_ rfl
  revert q
  decide +kernel
set_option maxHeartbeats 4000000 in
set_option maxRecDepth 20000 in
theorem m_Kin_fail (g : Gx) (hg : gOk g) (hfl : (gl g).stackTraces = false) (k f : Int32) (s : St) : vx_Met (gl g) y_Kin_fail (Cond.code y_Kin_fail b_Kin_fail 2 none :: tbl) rm_Kin_fail (PcT g [.int k, .int f] s) (Qx g (fun v s' => v = none ∧ s = s' ∧ (k = 7 ∨ f = 0))) (XT g s (fun E => ¬ (k = 7 ∨ f = 0) ∧ E = failE k)) 1 6 (gA g) := by
  refine mt_ofV (j := 0) (L := [some (.int k), some (.int f)]) hg (by decide) (Nat.le_of_ble_eq_true rfl) rfl ?_
  intro X hX C hT hZ htab
  subst hX
  refine x_iload_n C d_Kin_fail_0 rfl ?_
  refine x_bipush (v := 7) C d_Kin_fail_1 rfl ?_
  refine x_icmp_eq (tgt := 10) C d_Kin_fail_3 (by decide) (fun c => ?_) (fun c => ?_)
  · exact xt_return C d_Kin_fail_10 (Nat.zero_le _) (Nat.zero_le _) ⟨rfl, rfl, Or.inl c⟩
  refine x_iload_n C d_Kin_fail_6 rfl ?_
  refine x_if_ne (tgt := 11) C d_Kin_fail_7 (by decide) (fun c2 => ?_) (fun c2 => ?_)
  · have hn : ¬ (k = 7 ∨ f = 0) := fun z => z.elim c c2
    refine x_iload_n C d_Kin_fail_11 rfl ?_
    refine x_bipush (v := 6) C d_Kin_fail_12 rfl ?_
    refine x_icmp_ne (tgt := 27) C d_Kin_fail_14 (by decide) (fun c6 => ?_) (fun c6 => ?_)
    · refine x_iload_n C d_Kin_fail_27 rfl ?_
      refine x_iconst (v := 2) C d_Kin_fail_28 rfl ?_
      have sq : (k = 2 ∨ k = 3) → V X (xT X (fun v s' => v = none ∧ s = s' ∧ (k = 7 ∨ f = 0)) (XT (xg X) s (fun E => ¬ (k = 7 ∨ f = 0) ∧ E = failE k)) 1 6) 0 0 s 37 [some (.int k), some (.int f)] [] := fun h =>
        x_throwS (ik := 35) (is := 37) (ic := 39) (cls := kIS) (text := "squeezed") C hfl hT hZ htab (by decide) cl_Kin_35 (ini_ex _ (by decide)) (by decide) at_is at_is_ok at_is_ng d_Kin_fail_37 d_Kin_fail_40 d_Kin_fail_41 d_Kin_fail_43 d_Kin_fail_46 (by decide) (by decide) (by decide) (by decide) ⟨hn, by unfold failE; rw [if_neg c6, if_pos h]⟩
      refine x_icmp_eq (tgt := 37) C d_Kin_fail_29 (by decide) (fun c7 => sq (Or.inl c7)) (fun c7 => ?_)
      refine x_iload_n C d_Kin_fail_32 rfl ?_
      refine x_iconst (v := 3) C d_Kin_fail_33 rfl ?_
      refine x_icmp_ne (tgt := 47) C d_Kin_fail_34 (by decide) (fun c8 => ?_) (fun c8 => sq (Or.inr c8))
      exact x_throwS (ik := 40) (is := 42) (ic := 44) (cls := kIA) (text := "failed") C hfl hT hZ htab (by decide) cl_Kin_40 (ini_ex _ (by decide)) (by decide) at_ia at_ia_ok at_ia_ng d_Kin_fail_47 d_Kin_fail_50 d_Kin_fail_51 d_Kin_fail_53 d_Kin_fail_56 (by decide) (by decide) (by decide) (by decide) ⟨hn, by unfold failE; rw [if_neg c6, if_neg (fun z => z.elim c7 c8)]⟩
    · exact x_throwS (ik := 28) (is := 30) (ic := 32) (cls := kUO) (text := "caught") C hfl hT hZ htab (by decide) cl_Kin_28 (ini_ex _ (by decide)) (by decide) at_un at_un_ok at_un_ng d_Kin_fail_17 d_Kin_fail_20 d_Kin_fail_21 d_Kin_fail_23 d_Kin_fail_26 (by decide) (by decide) (by decide) (by decide) ⟨hn, by unfold failE; rw [if_pos c6]⟩
  · exact xt_return C d_Kin_fail_10 (Nat.zero_le _) (Nat.zero_le _) ⟨rfl, rfl, Or.inr c2⟩
