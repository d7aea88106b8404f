/-! THE LAW: a case of its switch each -/
theorem lc_rescue {X : Xx} {o : Nat} {cL : ClassId} {b L : Nat} {xs1 : Nat → Int32} {Q : State → Prop} {kc ks : Nat} {s : St} {A : Ab} {f : Nat → Int64} {j : Nat} (K : Lok X o cL b L xs1) (hj : 6 * j + 6 ≤ L) (hk : kc + 1 ≤ 601024 ∧ ks + 6 ≤ 7293034) (hR : RR s A) (next : ∀ (s2 : St) (A2 : Ab) (f2 : Nat → Int64), RR s2 A2 → LV X o cL Q (kc + 1) (ks + 6) s2 f2 1600 (lwL X o b j) []) : LV X o cL Q kc ks s f 877 (lwL X o b j) [] := by
  refine l_aload_n K d_law_877 rfl ?_
  refine l_arg K (j := j) (k := 1) (by omega) rfl rfl d_law_878 d_law_879 d_law_881 d_law_882 d_law_883 ?_
  refine l_arg K (j := j) (k := 2) (by omega) rfl rfl d_law_884 d_law_885 d_law_887 d_law_888 d_law_889 ?_
  refine l_arg K (j := j) (k := 3) (by omega) rfl rfl d_law_890 d_law_891 d_law_893 d_law_894 d_law_895 ?_
  refine l_arg K (j := j) (k := 4) (by omega) rfl rfl d_law_896 d_law_897 d_law_899 d_law_900 d_law_901 ?_
  refine l_call (As := [.int (xs1 (6 * j + 1)), .int (xs1 (6 * j + 2)), .int (xs1 (6 * j + 3)), .int (xs1 (6 * j + 4))]) (rest := []) (p := 0) K (m_Brt_rescue (xg X) K.1.2.2.2.2.2.2.1 (xs1 (6 * j + 1)) (xs1 (6 * j + 2)) (xs1 (6 * j + 3)) (xs1 (6 * j + 4)) s _ (e_rescue hR _ _ _ _)) cw_Brt_rescue ml_Law_110 rfl (by decide) (by decide) rfl rfl rfl ⟨rfl, rfl, Nat.le_of_ble_eq_true rfl, Nat.le_of_ble_eq_true rfl⟩ ⟨by omega, by omega⟩ rfl (Nat.le_of_ble_eq_true rfl) d_law_902 ?_
  rintro _ s1 ⟨r, rfl, hw⟩
  show LV X o cL Q kc ks s1 f 905 (lwL X o b j) [.int r]
  refine l_aload_n K d_law_905 rfl ?_
  refine l_arg K (j := j) (k := 1) (by omega) rfl rfl d_law_906 d_law_907 d_law_909 d_law_910 d_law_911 ?_
  refine l_arg K (j := j) (k := 2) (by omega) rfl rfl d_law_912 d_law_913 d_law_915 d_law_916 d_law_917 ?_
  refine l_arg K (j := j) (k := 3) (by omega) rfl rfl d_law_918 d_law_919 d_law_921 d_law_922 d_law_923 ?_
  refine l_arg K (j := j) (k := 4) (by omega) rfl rfl d_law_924 d_law_925 d_law_927 d_law_928 d_law_929 ?_
  refine l_call (As := [.int (xs1 (6 * j + 1)), .int (xs1 (6 * j + 2)), .int (xs1 (6 * j + 3)), .int (xs1 (6 * j + 4))]) (rest := [.int r]) (p := 82) K (m_Mod_rescue (xg X) K.1.2.2.2.2.2.2.1 (xs1 (6 * j + 1)) (xs1 (6 * j + 2)) (xs1 (6 * j + 3)) (xs1 (6 * j + 4)) s1 _ hw) cw_Mod_rescue ml_Law_113 rfl (by decide) (by decide) rfl rfl rfl ⟨rfl, rfl, Nat.le_of_ble_eq_true rfl, Nat.le_of_ble_eq_true rfl⟩ ⟨by omega, by omega⟩ rfl (Nat.le_of_ble_eq_true rfl) d_law_930 ?_
  rintro _ s2 ⟨r', rfl, hw⟩
  show LV X o cL Q kc ks s2 f 933 (lwL X o b j) [.int r', .int r]
  obtain ⟨rfl, hR'⟩ := hw
  exact l_icmp_eq (tgt := 1600) K d_law_933 (by decide) (fun _ => l_widen (Nat.le_succ _) (Nat.le_add_right _ _) (next _ _ f hR')) (fun c => absurd rfl c)
theorem lc_turns {X : Xx} {o : Nat} {cL : ClassId} {b L : Nat} {xs1 : Nat → Int32} {Q : State → Prop} {kc ks : Nat} {s : St} {A : Ab} {f : Nat → Int64} {j : Nat} (K : Lok X o cL b L xs1) (hj : 6 * j + 6 ≤ L) (hk : kc + 1 ≤ 601024 ∧ ks + 6 ≤ 7293034) (hR : RR s A) (next : ∀ (s2 : St) (A2 : Ab) (f2 : Nat → Int64), RR s2 A2 → LV X o cL Q (kc + 1) (ks + 6) s2 f2 1600 (lwL X o b j) []) : LV X o cL Q kc ks s f 938 (lwL X o b j) [] := by
  refine l_aload_n K d_law_938 rfl ?_
  refine l_call (As := []) (rest := []) (p := 0) K (m_Brt_turns (xg X) K.1.2.2.2.2.2.2.1 s _ (e_turns hR)) cw_Brt_turns ml_Law_114 rfl (by decide) (by decide) rfl rfl rfl ⟨rfl, rfl, Nat.le_of_ble_eq_true rfl, Nat.le_of_ble_eq_true rfl⟩ ⟨by omega, by omega⟩ rfl (Nat.le_of_ble_eq_true rfl) d_law_939 ?_
  rintro _ s1 ⟨r, rfl, hw⟩
  show LV X o cL Q kc ks s1 f 942 (lwL X o b j) [.int r]
  refine l_aload_n K d_law_942 rfl ?_
  refine l_call (As := []) (rest := [.int r]) (p := 82) K (m_Mod_turns (xg X) K.1.2.2.2.2.2.2.1 s1 _ hw) cw_Mod_turns ml_Law_117 rfl (by decide) (by decide) rfl rfl rfl ⟨rfl, rfl, Nat.le_of_ble_eq_true rfl, Nat.le_of_ble_eq_true rfl⟩ ⟨by omega, by omega⟩ rfl (Nat.le_of_ble_eq_true rfl) d_law_943 ?_
  rintro _ s2 ⟨r', rfl, hw⟩
  show LV X o cL Q kc ks s2 f 946 (lwL X o b j) [.int r', .int r]
  obtain ⟨rfl, hR'⟩ := hw
  exact l_icmp_eq (tgt := 1600) K d_law_946 (by decide) (fun _ => l_widen (Nat.le_succ _) (Nat.le_add_right _ _) (next _ _ f hR')) (fun c => absurd rfl c)
theorem lc_floods {X : Xx} {o : Nat} {cL : ClassId} {b L : Nat} {xs1 : Nat → Int32} {Q : State → Prop} {kc ks : Nat} {s : St} {A : Ab} {f : Nat → Int64} {j : Nat} (K : Lok X o cL b L xs1) (hj : 6 * j + 6 ≤ L) (hk : kc + 1 ≤ 601024 ∧ ks + 6 ≤ 7293034) (hR : RR s A) (next : ∀ (s2 : St) (A2 : Ab) (f2 : Nat → Int64), RR s2 A2 → LV X o cL Q (kc + 1) (ks + 6) s2 f2 1600 (lwL X o b j) []) : LV X o cL Q kc ks s f 951 (lwL X o b j) [] := by
  refine l_aload_n K d_law_951 rfl ?_
  refine l_arg K (j := j) (k := 1) (by omega) rfl rfl d_law_952 d_law_953 d_law_955 d_law_956 d_law_957 ?_
  refine l_arg K (j := j) (k := 2) (by omega) rfl rfl d_law_958 d_law_959 d_law_961 d_law_962 d_law_963 ?_
  refine l_call (As := [.int (xs1 (6 * j + 1)), .int (xs1 (6 * j + 2))]) (rest := []) (p := 0) K (m_Brt_floods (xg X) K.1.2.2.2.2.2.2.1 (xs1 (6 * j + 1)) (xs1 (6 * j + 2)) s _ (e_floods hR _ _)) cw_Brt_floods ml_Law_118 rfl (by decide) (by decide) rfl rfl rfl ⟨rfl, rfl, Nat.le_of_ble_eq_true rfl, Nat.le_of_ble_eq_true rfl⟩ ⟨by omega, by omega⟩ rfl (Nat.le_of_ble_eq_true rfl) d_law_964 ?_
  rintro _ _ ⟨r, rfl, rfl, hw⟩
  show LV X o cL Q kc ks s f 967 (lwL X o b j) [.int r]
  refine l_aload_n K d_law_967 rfl ?_
  refine l_arg K (j := j) (k := 1) (by omega) rfl rfl d_law_968 d_law_969 d_law_971 d_law_972 d_law_973 ?_
  refine l_arg K (j := j) (k := 2) (by omega) rfl rfl d_law_974 d_law_975 d_law_977 d_law_978 d_law_979 ?_
  refine l_call (As := [.int (xs1 (6 * j + 1)), .int (xs1 (6 * j + 2))]) (rest := [.int r]) (p := 82) K (m_Mod_floods (xg X) K.1.2.2.2.2.2.2.1 (xs1 (6 * j + 1)) (xs1 (6 * j + 2)) s _ hw) cw_Mod_floods ml_Law_121 rfl (by decide) (by decide) rfl rfl rfl ⟨rfl, rfl, Nat.le_of_ble_eq_true rfl, Nat.le_of_ble_eq_true rfl⟩ ⟨by omega, by omega⟩ rfl (Nat.le_of_ble_eq_true rfl) d_law_980 ?_
  rintro _ _ ⟨r', rfl, rfl, hw⟩
  show LV X o cL Q kc ks s f 983 (lwL X o b j) [.int r', .int r]
  obtain rfl := hw
  have hR' := hR
  exact l_icmp_eq (tgt := 1600) K d_law_983 (by decide) (fun _ => l_widen (Nat.le_succ _) (Nat.le_add_right _ _) (next _ _ f hR')) (fun c => absurd rfl c)
theorem lc_haste {X : Xx} {o : Nat} {cL : ClassId} {b L : Nat} {xs1 : Nat → Int32} {Q : State → Prop} {kc ks : Nat} {s : St} {A : Ab} {f : Nat → Int64} {j : Nat} (K : Lok X o cL b L xs1) (hj : 6 * j + 6 ≤ L) (hk : kc + 1 ≤ 601024 ∧ ks + 6 ≤ 7293034) (hR : RR s A) (next : ∀ (s2 : St) (A2 : Ab) (f2 : Nat → Int64), RR s2 A2 → LV X o cL Q (kc + 1) (ks + 6) s2 f2 1600 (lwL X o b j) []) : LV X o cL Q kc ks s f 988 (lwL X o b j) [] := by
  refine l_aload_n K d_law_988 rfl ?_
  refine l_call (As := []) (rest := []) (p := 0) K (m_Brt_haste (xg X) K.1.2.2.2.2.2.2.1 s _ (e_haste hR)) cw_Brt_haste ml_Law_122 rfl (by decide) (by decide) rfl rfl rfl ⟨rfl, rfl, Nat.le_of_ble_eq_true rfl, Nat.le_of_ble_eq_true rfl⟩ ⟨by omega, by omega⟩ rfl (Nat.le_of_ble_eq_true rfl) d_law_989 ?_
  rintro _ s1 ⟨r, rfl, hw⟩
  show LV X o cL Q kc ks s1 f 992 (lwL X o b j) [.int r]
  refine l_aload_n K d_law_992 rfl ?_
  refine l_call (As := []) (rest := [.int r]) (p := 82) K (m_Mod_haste (xg X) K.1.2.2.2.2.2.2.1 s1 _ hw) cw_Mod_haste ml_Law_125 rfl (by decide) (by decide) rfl rfl rfl ⟨rfl, rfl, Nat.le_of_ble_eq_true rfl, Nat.le_of_ble_eq_true rfl⟩ ⟨by omega, by omega⟩ rfl (Nat.le_of_ble_eq_true rfl) d_law_993 ?_
  rintro _ s2 ⟨r', rfl, hw⟩
  show LV X o cL Q kc ks s2 f 996 (lwL X o b j) [.int r', .int r]
  obtain ⟨rfl, hR'⟩ := hw
  exact l_icmp_eq (tgt := 1600) K d_law_996 (by decide) (fun _ => l_widen (Nat.le_succ _) (Nat.le_add_right _ _) (next _ _ f hR')) (fun c => absurd rfl c)
theorem lc_panic {X : Xx} {o : Nat} {cL : ClassId} {b L : Nat} {xs1 : Nat → Int32} {Q : State → Prop} {kc ks : Nat} {s : St} {A : Ab} {f : Nat → Int64} {j : Nat} (K : Lok X o cL b L xs1) (hj : 6 * j + 6 ≤ L) (hk : kc + 1 ≤ 601024 ∧ ks + 6 ≤ 7293034) (hR : RR s A) (next : ∀ (s2 : St) (A2 : Ab) (f2 : Nat → Int64), RR s2 A2 → LV X o cL Q (kc + 1) (ks + 6) s2 f2 1600 (lwL X o b j) []) : LV X o cL Q kc ks s f 1001 (lwL X o b j) [] := by
  refine l_aload_n K d_law_1001 rfl ?_
  refine l_arg K (j := j) (k := 1) (by omega) rfl rfl d_law_1002 d_law_1003 d_law_1005 d_law_1006 d_law_1007 ?_
  refine l_call (As := [.int (xs1 (6 * j + 1))]) (rest := []) (p := 0) K (m_Brt_panic (xg X) K.1.2.2.2.2.2.2.1 (xs1 (6 * j + 1)) s _ (e_panic hR _)) cw_Brt_panic ml_Law_126 rfl (by decide) (by decide) rfl rfl rfl ⟨rfl, rfl, Nat.le_of_ble_eq_true rfl, Nat.le_of_ble_eq_true rfl⟩ ⟨by omega, by omega⟩ rfl (Nat.le_of_ble_eq_true rfl) d_law_1008 ?_
  rintro _ s1 ⟨r, rfl, hw⟩
  show LV X o cL Q kc ks s1 f 1011 (lwL X o b j) [.long r]
  refine l_aload_n K d_law_1011 rfl ?_
  refine l_arg K (j := j) (k := 1) (by omega) rfl rfl d_law_1012 d_law_1013 d_law_1015 d_law_1016 d_law_1017 ?_
  refine l_call (As := [.int (xs1 (6 * j + 1))]) (rest := [.long r]) (p := 82) K (m_Mod_panic (xg X) K.1.2.2.2.2.2.2.1 (xs1 (6 * j + 1)) s1 _ hw) cw_Mod_panic ml_Law_130 rfl (by decide) (by decide) rfl rfl rfl ⟨rfl, rfl, Nat.le_of_ble_eq_true rfl, Nat.le_of_ble_eq_true rfl⟩ ⟨by omega, by omega⟩ rfl (Nat.le_of_ble_eq_true rfl) d_law_1018 ?_
  rintro _ s2 ⟨r', rfl, hw⟩
  show LV X o cL Q kc ks s2 f 1021 (lwL X o b j) [.long r', .long r]
  obtain ⟨rfl, hR'⟩ := hw
  refine l_lcmp K d_law_1021 ?_
  exact l_if_eq (tgt := 1600) K d_law_1022 (by decide) (fun _ => l_widen (Nat.le_succ _) (Nat.le_add_right _ _) (next _ _ f hR')) (fun c => absurd lgc_self c)
theorem lc_firstWays {X : Xx} {o : Nat} {cL : ClassId} {b L : Nat} {xs1 : Nat → Int32} {Q : State → Prop} {kc ks : Nat} {s : St} {A : Ab} {f : Nat → Int64} {j : Nat} (K : Lok X o cL b L xs1) (hj : 6 * j + 6 ≤ L) (hk : kc + 1 ≤ 601024 ∧ ks + 6 ≤ 7293034) (hR : RR s A) (next : ∀ (s2 : St) (A2 : Ab) (f2 : Nat → Int64), RR s2 A2 → LV X o cL Q (kc + 1) (ks + 6) s2 f2 1600 (lwL X o b j) []) : LV X o cL Q kc ks s f 1027 (lwL X o b j) [] := by
  refine l_aload_n K d_law_1027 rfl ?_
  refine l_call (As := []) (rest := []) (p := 0) K (m_Brt_firstWays (xg X) K.1.2.2.2.2.2.2.1 s _ (e_firstWays hR)) cw_Brt_firstWays ml_Law_131 rfl (by decide) (by decide) rfl rfl rfl ⟨rfl, rfl, Nat.le_of_ble_eq_true rfl, Nat.le_of_ble_eq_true rfl⟩ ⟨by omega, by omega⟩ rfl (Nat.le_of_ble_eq_true rfl) d_law_1028 ?_
  rintro _ s1 ⟨r, rfl, hw⟩
  show LV X o cL Q kc ks s1 f 1031 (lwL X o b j) [.int r]
  refine l_aload_n K d_law_1031 rfl ?_
  refine l_call (As := []) (rest := [.int r]) (p := 82) K (m_Mod_firstWays (xg X) K.1.2.2.2.2.2.2.1 s1 _ hw) cw_Mod_firstWays ml_Law_134 rfl (by decide) (by decide) rfl rfl rfl ⟨rfl, rfl, Nat.le_of_ble_eq_true rfl, Nat.le_of_ble_eq_true rfl⟩ ⟨by omega, by omega⟩ rfl (Nat.le_of_ble_eq_true rfl) d_law_1032 ?_
  rintro _ s2 ⟨r', rfl, hw⟩
  show LV X o cL Q kc ks s2 f 1035 (lwL X o b j) [.int r', .int r]
  obtain ⟨rfl, hR'⟩ := hw
  exact l_icmp_eq (tgt := 1600) K d_law_1035 (by decide) (fun _ => l_widen (Nat.le_succ _) (Nat.le_add_right _ _) (next _ _ f hR')) (fun c => absurd rfl c)
theorem lc_rock {X : Xx} {o : Nat} {cL : ClassId} {b L : Nat} {xs1 : Nat → Int32} {Q : State → Prop} {kc ks : Nat} {s : St} {A : Ab} {f : Nat → Int64} {j : Nat} (K : Lok X o cL b L xs1) (hj : 6 * j + 6 ≤ L) (hk : kc + 1 ≤ 601024 ∧ ks + 6 ≤ 7293034) (hR : RR s A) (next : ∀ (s2 : St) (A2 : Ab) (f2 : Nat → Int64), RR s2 A2 → LV X o cL Q (kc + 1) (ks + 6) s2 f2 1600 (lwL X o b j) []) : LV X o cL Q kc ks s f 1040 (lwL X o b j) [] := by
  refine l_aload_n K d_law_1040 rfl ?_
  refine l_arg K (j := j) (k := 1) (by omega) rfl rfl d_law_1041 d_law_1042 d_law_1044 d_law_1045 d_law_1046 ?_
  refine l_arg K (j := j) (k := 2) (by omega) rfl rfl d_law_1047 d_law_1048 d_law_1050 d_law_1051 d_law_1052 ?_
  refine l_arg K (j := j) (k := 3) (by omega) rfl rfl d_law_1053 d_law_1054 d_law_1056 d_law_1057 d_law_1058 ?_
  refine l_call (As := [.int (xs1 (6 * j + 1)), .int (xs1 (6 * j + 2)), .int (xs1 (6 * j + 3))]) (rest := []) (p := 0) K (m_Brt_rock (xg X) K.1.2.2.2.2.2.2.1 (xs1 (6 * j + 1)) (xs1 (6 * j + 2)) (xs1 (6 * j + 3)) s _ (e_rock hR _ _ _)) cw_Brt_rock ml_Law_135 rfl (by decide) (by decide) rfl rfl rfl ⟨rfl, rfl, Nat.le_of_ble_eq_true rfl, Nat.le_of_ble_eq_true rfl⟩ ⟨by omega, by omega⟩ rfl (Nat.le_of_ble_eq_true rfl) d_law_1059 ?_
  rintro _ s1 ⟨r, rfl, hw⟩
  show LV X o cL Q kc ks s1 f 1062 (lwL X o b j) [.int r]
  refine l_aload_n K d_law_1062 rfl ?_
  refine l_arg K (j := j) (k := 1) (by omega) rfl rfl d_law_1063 d_law_1064 d_law_1066 d_law_1067 d_law_1068 ?_
  refine l_arg K (j := j) (k := 2) (by omega) rfl rfl d_law_1069 d_law_1070 d_law_1072 d_law_1073 d_law_1074 ?_
  refine l_arg K (j := j) (k := 3) (by omega) rfl rfl d_law_1075 d_law_1076 d_law_1078 d_law_1079 d_law_1080 ?_
  refine l_call (As := [.int (xs1 (6 * j + 1)), .int (xs1 (6 * j + 2)), .int (xs1 (6 * j + 3))]) (rest := [.int r]) (p := 82) K (m_Mod_rock (xg X) K.1.2.2.2.2.2.2.1 (xs1 (6 * j + 1)) (xs1 (6 * j + 2)) (xs1 (6 * j + 3)) s1 _ hw) cw_Mod_rock ml_Law_138 rfl (by decide) (by decide) rfl rfl rfl ⟨rfl, rfl, Nat.le_of_ble_eq_true rfl, Nat.le_of_ble_eq_true rfl⟩ ⟨by omega, by omega⟩ rfl (Nat.le_of_ble_eq_true rfl) d_law_1081 ?_
  rintro _ s2 ⟨r', rfl, hw⟩
  show LV X o cL Q kc ks s2 f 1084 (lwL X o b j) [.int r', .int r]
  obtain ⟨rfl, hR'⟩ := hw
  exact l_icmp_eq (tgt := 1600) K d_law_1084 (by decide) (fun _ => l_widen (Nat.le_succ _) (Nat.le_add_right _ _) (next _ _ f hR')) (fun c => absurd rfl c)
