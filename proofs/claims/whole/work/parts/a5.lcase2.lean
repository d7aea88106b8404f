/-! THE LAW: a case of its switch each -/
theorem lc_widest {X : Xx} {o : Nat} {cL : ClassId} {b L : Nat} {xs1 : Nat → Int32} {Q : State → Prop} {kc ks : Nat} {s : St} {A : Ab} {f : Nat → Int64} {j : Nat} (K : Lok X o cL b L xs1) (hj : 6 * j + 6 ≤ L) (hk : kc + 1 ≤ 601024 ∧ ks + 6 ≤ 7293034) (hR : RR s A) (next : ∀ (s2 : St) (A2 : Ab) (f2 : Nat → Int64), RR s2 A2 → LV X o cL Q (kc + 1) (ks + 6) s2 f2 1600 (lwL X o b j) []) : LV X o cL Q kc ks s f 714 (lwL X o b j) [] := by
  refine l_aload_n K d_law_714 rfl ?_
  refine l_arg K (j := j) (k := 1) (by omega) rfl rfl d_law_715 d_law_716 d_law_718 d_law_719 d_law_720 ?_
  refine l_call (As := [.int (xs1 (6 * j + 1))]) (rest := []) (p := 0) K (m_Brt_widest (xg X) K.1.2.2.2.2.2.2.1 (xs1 (6 * j + 1)) s _ (e_widest hR _)) cw_Brt_widest ml_Law_82 rfl (by decide) (by decide) rfl rfl rfl ⟨rfl, rfl, Nat.le_of_ble_eq_true rfl, Nat.le_of_ble_eq_true rfl⟩ ⟨by omega, by omega⟩ rfl (Nat.le_of_ble_eq_true rfl) d_law_721 ?_
  rintro _ s1 ⟨r, rfl, hw⟩
  show LV X o cL Q kc ks s1 f 724 (lwL X o b j) [.int r]
  refine l_aload_n K d_law_724 rfl ?_
  refine l_arg K (j := j) (k := 1) (by omega) rfl rfl d_law_725 d_law_726 d_law_728 d_law_729 d_law_730 ?_
  refine l_call (As := [.int (xs1 (6 * j + 1))]) (rest := [.int r]) (p := 82) K (m_Mod_widest (xg X) K.1.2.2.2.2.2.2.1 (xs1 (6 * j + 1)) s1 _ hw) cw_Mod_widest ml_Law_85 rfl (by decide) (by decide) rfl rfl rfl ⟨rfl, rfl, Nat.le_of_ble_eq_true rfl, Nat.le_of_ble_eq_true rfl⟩ ⟨by omega, by omega⟩ rfl (Nat.le_of_ble_eq_true rfl) d_law_731 ?_
  rintro _ s2 ⟨r', rfl, hw⟩
  show LV X o cL Q kc ks s2 f 734 (lwL X o b j) [.int r', .int r]
  obtain ⟨rfl, hR'⟩ := hw
  exact l_icmp_eq (tgt := 1600) K d_law_734 (by decide) (fun _ => l_widen (Nat.le_succ _) (Nat.le_add_right _ _) (next _ _ f hR')) (fun c => absurd rfl c)
theorem lc_go {X : Xx} {o : Nat} {cL : ClassId} {b L : Nat} {xs1 : Nat → Int32} {Q : State → Prop} {kc ks : Nat} {s : St} {A : Ab} {f : Nat → Int64} {j : Nat} (K : Lok X o cL b L xs1) (hj : 6 * j + 6 ≤ L) (hk : kc + 1 ≤ 601024 ∧ ks + 6 ≤ 7293034) (hR : RR s A) (next : ∀ (s2 : St) (A2 : Ab) (f2 : Nat → Int64), RR s2 A2 → LV X o cL Q (kc + 1) (ks + 6) s2 f2 1600 (lwL X o b j) []) : LV X o cL Q kc ks s f 739 (lwL X o b j) [] := by
  refine l_aload_n K d_law_739 rfl ?_
  refine l_arg K (j := j) (k := 1) (by omega) rfl rfl d_law_740 d_law_741 d_law_743 d_law_744 d_law_745 ?_
  refine l_call (As := [.int (xs1 (6 * j + 1))]) (rest := []) (p := 0) K (m_Brt_go (xg X) K.1.2.2.2.2.2.2.1 (xs1 (6 * j + 1)) s _ (e_go hR _)) cw_Brt_go ml_Law_86 rfl (by decide) (by decide) rfl rfl rfl ⟨rfl, rfl, Nat.le_of_ble_eq_true rfl, Nat.le_of_ble_eq_true rfl⟩ ⟨by omega, by omega⟩ rfl (Nat.le_of_ble_eq_true rfl) d_law_746 ?_
  rintro _ s1 ⟨r, rfl, hw⟩
  show LV X o cL Q kc ks s1 f 749 (lwL X o b j) [.int r]
  refine l_aload_n K d_law_749 rfl ?_
  refine l_arg K (j := j) (k := 1) (by omega) rfl rfl d_law_750 d_law_751 d_law_753 d_law_754 d_law_755 ?_
  refine l_call (As := [.int (xs1 (6 * j + 1))]) (rest := [.int r]) (p := 82) K (m_Mod_go (xg X) K.1.2.2.2.2.2.2.1 (xs1 (6 * j + 1)) s1 _ hw) cw_Mod_go ml_Law_89 rfl (by decide) (by decide) rfl rfl rfl ⟨rfl, rfl, Nat.le_of_ble_eq_true rfl, Nat.le_of_ble_eq_true rfl⟩ ⟨by omega, by omega⟩ rfl (Nat.le_of_ble_eq_true rfl) d_law_756 ?_
  rintro _ s2 ⟨r', rfl, hw⟩
  show LV X o cL Q kc ks s2 f 759 (lwL X o b j) [.int r', .int r]
  obtain ⟨rfl, hR'⟩ := hw
  exact l_icmp_eq (tgt := 1600) K d_law_759 (by decide) (fun _ => l_widen (Nat.le_succ _) (Nat.le_add_right _ _) (next _ _ f hR')) (fun c => absurd rfl c)
theorem lc_back {X : Xx} {o : Nat} {cL : ClassId} {b L : Nat} {xs1 : Nat → Int32} {Q : State → Prop} {kc ks : Nat} {s : St} {A : Ab} {f : Nat → Int64} {j : Nat} (K : Lok X o cL b L xs1) (hj : 6 * j + 6 ≤ L) (hk : kc + 1 ≤ 601024 ∧ ks + 6 ≤ 7293034) (hR : RR s A) (next : ∀ (s2 : St) (A2 : Ab) (f2 : Nat → Int64), RR s2 A2 → LV X o cL Q (kc + 1) (ks + 6) s2 f2 1600 (lwL X o b j) []) : LV X o cL Q kc ks s f 764 (lwL X o b j) [] := by
  refine l_aload_n K d_law_764 rfl ?_
  refine l_arg K (j := j) (k := 1) (by omega) rfl rfl d_law_765 d_law_766 d_law_768 d_law_769 d_law_770 ?_
  refine l_call (As := [.int (xs1 (6 * j + 1))]) (rest := []) (p := 0) K (m_Brt_back (xg X) K.1.2.2.2.2.2.2.1 (xs1 (6 * j + 1)) s _ (e_back hR _)) cw_Brt_back ml_Law_90 rfl (by decide) (by decide) rfl rfl rfl ⟨rfl, rfl, Nat.le_of_ble_eq_true rfl, Nat.le_of_ble_eq_true rfl⟩ ⟨by omega, by omega⟩ rfl (Nat.le_of_ble_eq_true rfl) d_law_771 ?_
  rintro _ s1 ⟨r, rfl, hw⟩
  show LV X o cL Q kc ks s1 f 774 (lwL X o b j) [.int r]
  refine l_aload_n K d_law_774 rfl ?_
  refine l_arg K (j := j) (k := 1) (by omega) rfl rfl d_law_775 d_law_776 d_law_778 d_law_779 d_law_780 ?_
  refine l_call (As := [.int (xs1 (6 * j + 1))]) (rest := [.int r]) (p := 82) K (m_Mod_back (xg X) K.1.2.2.2.2.2.2.1 (xs1 (6 * j + 1)) s1 _ hw) cw_Mod_back ml_Law_93 rfl (by decide) (by decide) rfl rfl rfl ⟨rfl, rfl, Nat.le_of_ble_eq_true rfl, Nat.le_of_ble_eq_true rfl⟩ ⟨by omega, by omega⟩ rfl (Nat.le_of_ble_eq_true rfl) d_law_781 ?_
  rintro _ s2 ⟨r', rfl, hw⟩
  show LV X o cL Q kc ks s2 f 784 (lwL X o b j) [.int r', .int r]
  obtain ⟨rfl, hR'⟩ := hw
  exact l_icmp_eq (tgt := 1600) K d_law_784 (by decide) (fun _ => l_widen (Nat.le_succ _) (Nat.le_add_right _ _) (next _ _ f hR')) (fun c => absurd rfl c)
theorem lc_help {X : Xx} {o : Nat} {cL : ClassId} {b L : Nat} {xs1 : Nat → Int32} {Q : State → Prop} {kc ks : Nat} {s : St} {A : Ab} {f : Nat → Int64} {j : Nat} (K : Lok X o cL b L xs1) (hj : 6 * j + 6 ≤ L) (hk : kc + 1 ≤ 601024 ∧ ks + 6 ≤ 7293034) (hR : RR s A) (next : ∀ (s2 : St) (A2 : Ab) (f2 : Nat → Int64), RR s2 A2 → LV X o cL Q (kc + 1) (ks + 6) s2 f2 1600 (lwL X o b j) []) : LV X o cL Q kc ks s f 789 (lwL X o b j) [] := by
  refine l_aload_n K d_law_789 rfl ?_
  refine l_arg K (j := j) (k := 1) (by omega) rfl rfl d_law_790 d_law_791 d_law_793 d_law_794 d_law_795 ?_
  refine l_call (As := [.int (xs1 (6 * j + 1))]) (rest := []) (p := 0) K (m_Brt_help (xg X) K.1.2.2.2.2.2.2.1 (xs1 (6 * j + 1)) s _ (e_help hR _)) cw_Brt_help ml_Law_94 rfl (by decide) (by decide) rfl rfl rfl ⟨rfl, rfl, Nat.le_of_ble_eq_true rfl, Nat.le_of_ble_eq_true rfl⟩ ⟨by omega, by omega⟩ rfl (Nat.le_of_ble_eq_true rfl) d_law_796 ?_
  rintro _ _ ⟨r, rfl, rfl, hw⟩
  show LV X o cL Q kc ks s f 799 (lwL X o b j) [.int r]
  refine l_aload_n K d_law_799 rfl ?_
  refine l_arg K (j := j) (k := 1) (by omega) rfl rfl d_law_800 d_law_801 d_law_803 d_law_804 d_law_805 ?_
  refine l_call (As := [.int (xs1 (6 * j + 1))]) (rest := [.int r]) (p := 82) K (m_Mod_help (xg X) K.1.2.2.2.2.2.2.1 (xs1 (6 * j + 1)) s _ hw) cw_Mod_help ml_Law_97 rfl (by decide) (by decide) rfl rfl rfl ⟨rfl, rfl, Nat.le_of_ble_eq_true rfl, Nat.le_of_ble_eq_true rfl⟩ ⟨by omega, by omega⟩ rfl (Nat.le_of_ble_eq_true rfl) d_law_806 ?_
  rintro _ s2 ⟨r', rfl, hw⟩
  show LV X o cL Q kc ks s2 f 809 (lwL X o b j) [.int r', .int r]
  obtain ⟨rfl, hR'⟩ := hw
  exact l_icmp_eq (tgt := 1600) K d_law_809 (by decide) (fun _ => l_widen (Nat.le_succ _) (Nat.le_add_right _ _) (next _ _ f hR')) (fun c => absurd rfl c)
theorem lc_order {X : Xx} {o : Nat} {cL : ClassId} {b L : Nat} {xs1 : Nat → Int32} {Q : State → Prop} {kc ks : Nat} {s : St} {A : Ab} {f : Nat → Int64} {j : Nat} (K : Lok X o cL b L xs1) (hj : 6 * j + 6 ≤ L) (hk : kc + 1 ≤ 601024 ∧ ks + 6 ≤ 7293034) (hR : RR s A) (next : ∀ (s2 : St) (A2 : Ab) (f2 : Nat → Int64), RR s2 A2 → LV X o cL Q (kc + 1) (ks + 6) s2 f2 1600 (lwL X o b j) []) : LV X o cL Q kc ks s f 814 (lwL X o b j) [] := by
  refine l_aload_n K d_law_814 rfl ?_
  refine l_arg K (j := j) (k := 1) (by omega) rfl rfl d_law_815 d_law_816 d_law_818 d_law_819 d_law_820 ?_
  refine l_call (As := [.int (xs1 (6 * j + 1))]) (rest := []) (p := 0) K (m_Brt_order (xg X) K.1.2.2.2.2.2.2.1 (xs1 (6 * j + 1)) s _ (e_order hR _)) cw_Brt_order ml_Law_98 rfl (by decide) (by decide) rfl rfl rfl ⟨rfl, rfl, Nat.le_of_ble_eq_true rfl, Nat.le_of_ble_eq_true rfl⟩ ⟨by omega, by omega⟩ rfl (Nat.le_of_ble_eq_true rfl) d_law_821 ?_
  rintro _ s1 ⟨r, rfl, hw⟩
  show LV X o cL Q kc ks s1 f 824 (lwL X o b j) [.int r]
  refine l_aload_n K d_law_824 rfl ?_
  refine l_arg K (j := j) (k := 1) (by omega) rfl rfl d_law_825 d_law_826 d_law_828 d_law_829 d_law_830 ?_
  refine l_call (As := [.int (xs1 (6 * j + 1))]) (rest := [.int r]) (p := 82) K (m_Mod_order (xg X) K.1.2.2.2.2.2.2.1 (xs1 (6 * j + 1)) s1 _ hw) cw_Mod_order ml_Law_101 rfl (by decide) (by decide) rfl rfl rfl ⟨rfl, rfl, Nat.le_of_ble_eq_true rfl, Nat.le_of_ble_eq_true rfl⟩ ⟨by omega, by omega⟩ rfl (Nat.le_of_ble_eq_true rfl) d_law_831 ?_
  rintro _ s2 ⟨r', rfl, hw⟩
  show LV X o cL Q kc ks s2 f 834 (lwL X o b j) [.int r', .int r]
  obtain ⟨rfl, hR'⟩ := hw
  exact l_icmp_eq (tgt := 1600) K d_law_834 (by decide) (fun _ => l_widen (Nat.le_succ _) (Nat.le_add_right _ _) (next _ _ f hR')) (fun c => absurd rfl c)
theorem lc_stays {X : Xx} {o : Nat} {cL : ClassId} {b L : Nat} {xs1 : Nat → Int32} {Q : State → Prop} {kc ks : Nat} {s : St} {A : Ab} {f : Nat → Int64} {j : Nat} (K : Lok X o cL b L xs1) (hj : 6 * j + 6 ≤ L) (hk : kc + 1 ≤ 601024 ∧ ks + 6 ≤ 7293034) (hR : RR s A) (next : ∀ (s2 : St) (A2 : Ab) (f2 : Nat → Int64), RR s2 A2 → LV X o cL Q (kc + 1) (ks + 6) s2 f2 1600 (lwL X o b j) []) : LV X o cL Q kc ks s f 839 (lwL X o b j) [] := by
  refine l_aload_n K d_law_839 rfl ?_
  refine l_call (As := []) (rest := []) (p := 0) K (m_Brt_stays (xg X) K.1.2.2.2.2.2.2.1 s _ (e_stays hR)) cw_Brt_stays ml_Law_102 rfl (by decide) (by decide) rfl rfl rfl ⟨rfl, rfl, Nat.le_of_ble_eq_true rfl, Nat.le_of_ble_eq_true rfl⟩ ⟨by omega, by omega⟩ rfl (Nat.le_of_ble_eq_true rfl) d_law_840 ?_
  rintro _ s1 ⟨r, rfl, hw⟩
  show LV X o cL Q kc ks s1 f 843 (lwL X o b j) [.int r]
  refine l_aload_n K d_law_843 rfl ?_
  refine l_call (As := []) (rest := [.int r]) (p := 82) K (m_Mod_stays (xg X) K.1.2.2.2.2.2.2.1 s1 _ hw) cw_Mod_stays ml_Law_105 rfl (by decide) (by decide) rfl rfl rfl ⟨rfl, rfl, Nat.le_of_ble_eq_true rfl, Nat.le_of_ble_eq_true rfl⟩ ⟨by omega, by omega⟩ rfl (Nat.le_of_ble_eq_true rfl) d_law_844 ?_
  rintro _ s2 ⟨r', rfl, hw⟩
  show LV X o cL Q kc ks s2 f 847 (lwL X o b j) [.int r', .int r]
  obtain ⟨rfl, hR'⟩ := hw
  exact l_icmp_eq (tgt := 1600) K d_law_847 (by decide) (fun _ => l_widen (Nat.le_succ _) (Nat.le_add_right _ _) (next _ _ f hR')) (fun c => absurd rfl c)
theorem lc_calms {X : Xx} {o : Nat} {cL : ClassId} {b L : Nat} {xs1 : Nat → Int32} {Q : State → Prop} {kc ks : Nat} {s : St} {A : Ab} {f : Nat → Int64} {j : Nat} (K : Lok X o cL b L xs1) (hj : 6 * j + 6 ≤ L) (hk : kc + 1 ≤ 601024 ∧ ks + 6 ≤ 7293034) (hR : RR s A) (next : ∀ (s2 : St) (A2 : Ab) (f2 : Nat → Int64), RR s2 A2 → LV X o cL Q (kc + 1) (ks + 6) s2 f2 1600 (lwL X o b j) []) : LV X o cL Q kc ks s f 852 (lwL X o b j) [] := by
  refine l_aload_n K d_law_852 rfl ?_
  refine l_arg K (j := j) (k := 1) (by omega) rfl rfl d_law_853 d_law_854 d_law_856 d_law_857 d_law_858 ?_
  refine l_call (As := [.int (xs1 (6 * j + 1))]) (rest := []) (p := 0) K (m_Brt_calms (xg X) K.1.2.2.2.2.2.2.1 (xs1 (6 * j + 1)) s _ (e_calms hR _)) cw_Brt_calms ml_Law_106 rfl (by decide) (by decide) rfl rfl rfl ⟨rfl, rfl, Nat.le_of_ble_eq_true rfl, Nat.le_of_ble_eq_true rfl⟩ ⟨by omega, by omega⟩ rfl (Nat.le_of_ble_eq_true rfl) d_law_859 ?_
  rintro _ s1 ⟨r, rfl, hw⟩
  show LV X o cL Q kc ks s1 f 862 (lwL X o b j) [.int r]
  refine l_aload_n K d_law_862 rfl ?_
  refine l_arg K (j := j) (k := 1) (by omega) rfl rfl d_law_863 d_law_864 d_law_866 d_law_867 d_law_868 ?_
  refine l_call (As := [.int (xs1 (6 * j + 1))]) (rest := [.int r]) (p := 82) K (m_Mod_calms (xg X) K.1.2.2.2.2.2.2.1 (xs1 (6 * j + 1)) s1 _ hw) cw_Mod_calms ml_Law_109 rfl (by decide) (by decide) rfl rfl rfl ⟨rfl, rfl, Nat.le_of_ble_eq_true rfl, Nat.le_of_ble_eq_true rfl⟩ ⟨by omega, by omega⟩ rfl (Nat.le_of_ble_eq_true rfl) d_law_869 ?_
  rintro _ s2 ⟨r', rfl, hw⟩
  show LV X o cL Q kc ks s2 f 872 (lwL X o b j) [.int r', .int r]
  obtain ⟨rfl, hR'⟩ := hw
  exact l_icmp_eq (tgt := 1600) K d_law_872 (by decide) (fun _ => l_widen (Nat.le_succ _) (Nat.le_add_right _ _) (next _ _ f hR')) (fun c => absurd rfl c)
