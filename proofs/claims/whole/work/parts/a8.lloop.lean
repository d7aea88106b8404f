/-! THE LAW: its switch and its loop -/
set_option maxRecDepth 20000 in
theorem l_switch {X : Xx} {o : Nat} {cL : ClassId} {b L : Nat} {xs1 : Nat → Int32} {Q : State → Prop} {kc ks : Nat} {s : St} {A : Ab} {f : Nat → Int64} {j : Nat} (K : Lok X o cL b L xs1) (hj : 6 * j + 6 ≤ L) (hk : kc + 1 ≤ 601024 ∧ ks + 6 ≤ 7293034) (hR : RR s A) (x : Int32) (next : ∀ (s2 : St) (A2 : Ab) (f2 : Nat → Int64), RR s2 A2 → LV X o cL Q (kc + 1) (ks + 6) s2 f2 1600 (lwL X o b j) []) : LV X o cL Q kc ks s f 40 (lwL X o b j) [.int x] := by
  by_cases h0 : x = 0
  · exact l_tswIn (v := 0) (tgt := 220) K d_law_40 h0 (by decide) (by decide) rfl (by decide) (lc_cave K hj hk hR next)
  by_cases h1 : x = 1
  · exact l_tswIn (v := 1) (tgt := 245) K d_law_40 h1 (by decide) (by decide) rfl (by decide) (lc_yard K hj hk hR next)
  by_cases h2 : x = 2
  · exact l_tswIn (v := 2) (tgt := 282) K d_law_40 h2 (by decide) (by decide) rfl (by decide) (lc_body K hj hk hR next)
  by_cases h3 : x = 3
  · exact l_tswIn (v := 3) (tgt := 319) K d_law_40 h3 (by decide) (by decide) rfl (by decide) (lc_lays K hj hk hR next)
  by_cases h4 : x = 4
  · exact l_tswIn (v := 4) (tgt := 356) K d_law_40 h4 (by decide) (by decide) rfl (by decide) (lc_shorter K hj hk hR next)
  by_cases h5 : x = 5
  · exact l_tswIn (v := 5) (tgt := 369) K d_law_40 h5 (by decide) (by decide) rfl (by decide) (lc_makes K hj hk hR next)
  by_cases h6 : x = 6
  · exact l_tswIn (v := 6) (tgt := 418) K d_law_40 h6 (by decide) (by decide) rfl (by decide) (lc_change K hj hk hR next)
  by_cases h7 : x = 7
  · exact l_tswIn (v := 7) (tgt := 455) K d_law_40 h7 (by decide) (by decide) rfl (by decide) (lc_set K hj hk hR next)
  by_cases h8 : x = 8
  · exact l_tswIn (v := 8) (tgt := 492) K d_law_40 h8 (by decide) (by decide) rfl (by decide) (lc_waits K hj hk hR next)
  by_cases h9 : x = 9
  · exact l_tswIn (v := 9) (tgt := 517) K d_law_40 h9 (by decide) (by decide) rfl (by decide) (lc_size K hj hk hR next)
  by_cases h10 : x = 10
  · exact l_tswIn (v := 10) (tgt := 578) K d_law_40 h10 (by decide) (by decide) rfl (by decide) (lc_fits K hj hk hR next)
  by_cases h11 : x = 11
  · exact l_tswIn (v := 11) (tgt := 615) K d_law_40 h11 (by decide) (by decide) rfl (by decide) (lc_way K hj hk hR next)
  by_cases h12 : x = 12
  · exact l_tswIn (v := 12) (tgt := 664) K d_law_40 h12 (by decide) (by decide) rfl (by decide) (lc_posture K hj hk hR next)
  by_cases h13 : x = 13
  · exact l_tswIn (v := 13) (tgt := 689) K d_law_40 h13 (by decide) (by decide) rfl (by decide) (lc_lacks K hj hk hR next)
  by_cases h14 : x = 14
  · exact l_tswIn (v := 14) (tgt := 714) K d_law_40 h14 (by decide) (by decide) rfl (by decide) (lc_widest K hj hk hR next)
  by_cases h15 : x = 15
  · exact l_tswIn (v := 15) (tgt := 739) K d_law_40 h15 (by decide) (by decide) rfl (by decide) (lc_go K hj hk hR next)
  by_cases h16 : x = 16
  · exact l_tswIn (v := 16) (tgt := 764) K d_law_40 h16 (by decide) (by decide) rfl (by decide) (lc_back K hj hk hR next)
  by_cases h17 : x = 17
  · exact l_tswIn (v := 17) (tgt := 789) K d_law_40 h17 (by decide) (by decide) rfl (by decide) (lc_help K hj hk hR next)
  by_cases h18 : x = 18
  · exact l_tswIn (v := 18) (tgt := 814) K d_law_40 h18 (by decide) (by decide) rfl (by decide) (lc_order K hj hk hR next)
  by_cases h19 : x = 19
  · exact l_tswIn (v := 19) (tgt := 839) K d_law_40 h19 (by decide) (by decide) rfl (by decide) (lc_stays K hj hk hR next)
  by_cases h20 : x = 20
  · exact l_tswIn (v := 20) (tgt := 852) K d_law_40 h20 (by decide) (by decide) rfl (by decide) (lc_calms K hj hk hR next)
  by_cases h21 : x = 21
  · exact l_tswIn (v := 21) (tgt := 877) K d_law_40 h21 (by decide) (by decide) rfl (by decide) (lc_rescue K hj hk hR next)
  by_cases h22 : x = 22
  · exact l_tswIn (v := 22) (tgt := 938) K d_law_40 h22 (by decide) (by decide) rfl (by decide) (lc_turns K hj hk hR next)
  by_cases h23 : x = 23
  · exact l_tswIn (v := 23) (tgt := 951) K d_law_40 h23 (by decide) (by decide) rfl (by decide) (lc_floods K hj hk hR next)
  by_cases h24 : x = 24
  · exact l_tswIn (v := 24) (tgt := 988) K d_law_40 h24 (by decide) (by decide) rfl (by decide) (lc_haste K hj hk hR next)
  by_cases h25 : x = 25
  · exact l_tswIn (v := 25) (tgt := 1001) K d_law_40 h25 (by decide) (by decide) rfl (by decide) (lc_panic K hj hk hR next)
  by_cases h26 : x = 26
  · exact l_tswIn (v := 26) (tgt := 1027) K d_law_40 h26 (by decide) (by decide) rfl (by decide) (lc_firstWays K hj hk hR next)
  by_cases h27 : x = 27
  · exact l_tswIn (v := 27) (tgt := 1040) K d_law_40 h27 (by decide) (by decide) rfl (by decide) (lc_rock K hj hk hR next)
  by_cases h28 : x = 28
  · exact l_tswIn (v := 28) (tgt := 1089) K d_law_40 h28 (by decide) (by decide) rfl (by decide) (lc_forged K hj hk hR next)
  by_cases h29 : x = 29
  · exact l_tswIn (v := 29) (tgt := 1126) K d_law_40 h29 (by decide) (by decide) rfl (by decide) (lc_judge K hj hk hR next)
  by_cases h30 : x = 30
  · exact l_tswIn (v := 30) (tgt := 1151) K d_law_40 h30 (by decide) (by decide) rfl (by decide) (lc_parties K hj hk hR next)
  by_cases h31 : x = 31
  · exact l_tswIn (v := 31) (tgt := 1200) K d_law_40 h31 (by decide) (by decide) rfl (by decide) (lc_image K hj hk hR next)
  by_cases h32 : x = 32
  · exact l_tswIn (v := 32) (tgt := 1213) K d_law_40 h32 (by decide) (by decide) rfl (by decide) (lc_restore K hj hk hR next)
  by_cases h33 : x = 33
  · exact l_tswIn (v := 33) (tgt := 1226) K d_law_40 h33 (by decide) (by decide) rfl (by decide) (lc_count K hj hk hR next)
  by_cases h34 : x = 34
  · exact l_tswIn (v := 34) (tgt := 1251) K d_law_40 h34 (by decide) (by decide) rfl (by decide) (lc_keep K hj hk hR next)
  by_cases h35 : x = 35
  · exact l_tswIn (v := 35) (tgt := 1312) K d_law_40 h35 (by decide) (by decide) rfl (by decide) (lc_row K hj hk hR next)
  by_cases h36 : x = 36
  · exact l_tswIn (v := 36) (tgt := 1361) K d_law_40 h36 (by decide) (by decide) rfl (by decide) (lc_put K hj hk hR next)
  by_cases h37 : x = 37
  · exact l_tswIn (v := 37) (tgt := 1410) K d_law_40 h37 (by decide) (by decide) rfl (by decide) (lc_element K hj hk hR next)
  by_cases h38 : x = 38
  · exact l_tswIn (v := 38) (tgt := 1477) K d_law_40 h38 (by decide) (by decide) rfl (by decide) (lc_copy K hj hk hR next)
  by_cases h39 : x = 39
  · exact l_tswIn (v := 39) (tgt := 1550) K d_law_40 h39 (by decide) (by decide) rfl (by decide) (lc_cost K hj hk hR next)
  by_cases h40 : x = 40
  · exact l_tswIn (v := 40) (tgt := 1575) K d_law_40 h40 (by decide) (by decide) rfl (by decide) (lc_toss K hj hk hR next)
  refine l_tswD (tgt := 1600) K d_law_40 (fun i hi => Or.inr ?_) (by decide) (l_widen (Nat.le_succ _) (Nat.le_add_right _ _) (next s A f hR))
  rcases (show i = 0 ∨ i = 1 ∨ i = 2 ∨ i = 3 ∨ i = 4 ∨ i = 5 ∨ i = 6 ∨ i = 7 ∨ i = 8 ∨ i = 9 ∨ i = 10 ∨ i = 11 ∨ i = 12 ∨ i = 13 ∨ i = 14 ∨ i = 15 ∨ i = 16 ∨ i = 17 ∨ i = 18 ∨ i = 19 ∨ i = 20 ∨ i = 21 ∨ i = 22 ∨ i = 23 ∨ i = 24 ∨ i = 25 ∨ i = 26 ∨ i = 27 ∨ i = 28 ∨ i = 29 ∨ i = 30 ∨ i = 31 ∨ i = 32 ∨ i = 33 ∨ i = 34 ∨ i = 35 ∨ i = 36 ∨ i = 37 ∨ i = 38 ∨ i = 39 ∨ i = 40 by omega) with rfl | rfl | rfl | rfl | rfl | rfl | rfl | rfl | rfl | rfl | rfl | rfl | rfl | rfl | rfl | rfl | rfl | rfl | rfl | rfl | rfl | rfl | rfl | rfl | rfl | rfl | rfl | rfl | rfl | rfl | rfl | rfl | rfl | rfl | rfl | rfl | rfl | rfl | rfl | rfl | rfl
  · exact fun e => h0 (e.trans (by decide))
  · exact fun e => h1 (e.trans (by decide))
  · exact fun e => h2 (e.trans (by decide))
  · exact fun e => h3 (e.trans (by decide))
  · exact fun e => h4 (e.trans (by decide))
  · exact fun e => h5 (e.trans (by decide))
  · exact fun e => h6 (e.trans (by decide))
  · exact fun e => h7 (e.trans (by decide))
  · exact fun e => h8 (e.trans (by decide))
  · exact fun e => h9 (e.trans (by decide))
  · exact fun e => h10 (e.trans (by decide))
  · exact fun e => h11 (e.trans (by decide))
  · exact fun e => h12 (e.trans (by decide))
  · exact fun e => h13 (e.trans (by decide))
  · exact fun e => h14 (e.trans (by decide))
  · exact fun e => h15 (e.trans (by decide))
  · exact fun e => h16 (e.trans (by decide))
  · exact fun e => h17 (e.trans (by decide))
  · exact fun e => h18 (e.trans (by decide))
  · exact fun e => h19 (e.trans (by decide))
  · exact fun e => h20 (e.trans (by decide))
  · exact fun e => h21 (e.trans (by decide))
  · exact fun e => h22 (e.trans (by decide))
  · exact fun e => h23 (e.trans (by decide))
  · exact fun e => h24 (e.trans (by decide))
  · exact fun e => h25 (e.trans (by decide))
  · exact fun e => h26 (e.trans (by decide))
  · exact fun e => h27 (e.trans (by decide))
  · exact fun e => h28 (e.trans (by decide))
  · exact fun e => h29 (e.trans (by decide))
  · exact fun e => h30 (e.trans (by decide))
  · exact fun e => h31 (e.trans (by decide))
  · exact fun e => h32 (e.trans (by decide))
  · exact fun e => h33 (e.trans (by decide))
  · exact fun e => h34 (e.trans (by decide))
  · exact fun e => h35 (e.trans (by decide))
  · exact fun e => h36 (e.trans (by decide))
  · exact fun e => h37 (e.trans (by decide))
  · exact fun e => h38 (e.trans (by decide))
  · exact fun e => h39 (e.trans (by decide))
  · exact fun e => h40 (e.trans (by decide))
theorem l_loop {X : Xx} {o : Nat} {cL : ClassId} {b L : Nat} {xs1 : Nat → Int32} {Q : State → Prop} (K : Lok X o cL b L xs1) (fin : ∀ (kc ks : Nat) (s : St) (f : Nat → Int64) (j : Nat), kc ≤ 601024 → ks ≤ 7293034 → LV X o cL Q kc ks s f 1606 (lwL X o b j) []) : ∀ (n j kc ks : Nat) (s : St) (A : Ab) (f : Nat → Int64), RR s A → 6 * j ≤ L + 5 → L < 6 * (j + n) + 6 → kc + n ≤ 601024 → ks + 6 * n ≤ 7293034 → LV X o cL Q kc ks s f 23 (lwL X o b j) [] := by
  have hL := K.2.2.2.2.2.2.2.2.1
  intro n
  induction n with
  | zero =>
    intro j kc ks s A f hR hj hn hkc hks
    refine l_iload K d_law_23 rfl ?_
    refine l_aload_n K d_law_25 rfl ?_
    refine l_slen K d_law_26 ?_
    refine l_bipush (v := 6) K d_law_27 (by decide) ?_
    refine l_isub K d_law_29 ?_
    refine l_icmp_gt (tgt := 1606) K d_law_30 (by decide) (fun _ => fin _ _ _ _ _ (by omega) (by omega)) (fun c => ?_)
    exfalso
    rw [I_nI, I_nI, show (6 : Int32) = I 6 from rfl, I_sub, I_lt (by unfold inr; omega) (by unfold inr; omega)] at c
    omega
  | succ n ih =>
    intro j kc ks s A f hR hj hn hkc hks
    refine l_iload K d_law_23 rfl ?_
    refine l_aload_n K d_law_25 rfl ?_
    refine l_slen K d_law_26 ?_
    refine l_bipush (v := 6) K d_law_27 (by decide) ?_
    refine l_isub K d_law_29 ?_
    refine l_icmp_gt (tgt := 1606) K d_law_30 (by decide) (fun _ => fin _ _ _ _ _ (by omega) (by omega)) (fun c => ?_)
    rw [I_nI, I_nI, show (6 : Int32) = I 6 from rfl, I_sub, I_lt (by unfold inr; omega) (by unfold inr; omega)] at c
    have h6 : 6 * j + 6 ≤ L := by omega
    refine l_aload_n K d_law_33 rfl ?_
    refine l_iload K d_law_34 rfl ?_
    refine l_sld K (vp_in_nI (by omega) (by omega)) d_law_36 ?_
    refine l_bipush (v := 63) K d_law_37 (by decide) ?_
    refine l_iand K d_law_39 ?_
    refine l_switch K h6 ⟨by omega, by omega⟩ hR _ (fun s2 A2 f2 hR2 => ?_)
    refine l_iinc (v := nI (6 * (j + 1))) (L' := lwL X o b (j + 1)) K d_law_1600 (by decide) rfl (by rw [show Int32.ofInt 6 = nI 6 from rfl, nI_add]; rfl) rfl ?_
    refine l_goto (tgt := 23) K d_law_1603 (by decide) ?_
    exact ih (j + 1) (kc + 1) (ks + 6) s2 A2 f2 hR2 (by omega) (by omega) (by omega) (by omega)
