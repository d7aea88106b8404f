/-! THE LAW: the case of element -/
theorem lc_element {X : Xx} {o : Nat} {cL : ClassId} {b L : Nat} {xs1 : Nat → Int32} {Q : State → Prop} {kc ks : Nat} {s : St} {A : Ab} {f : Nat → Int64} {j : Nat} (K : Lok X o cL b L xs1) (hj : 6 * j + 6 ≤ L) (hk : kc + 1 ≤ 601024 ∧ ks + 6 ≤ 7293034) (hR : RR s A) (next : ∀ (s2 : St) (A2 : Ab) (f2 : Nat → Int64), RR s2 A2 → LV X o cL Q (kc + 1) (ks + 6) s2 f2 1600 (lwL X o b j) []) : LV X o cL Q kc ks s f 1410 (lwL X o b j) [] := by
  have tail : ∀ (r : Int32) (f' : Nat → Int64) (Qm : Int64 → St → Prop), vc_Mod_element (xs1 (6 * j + 1)) (xs1 (6 * j + 2)) s Qm → (∀ v s2, Qm v s2 → s2 82 39 = r ∧ RR s2 A ∧ (r = 0 → f' 0 = v)) → LV X o cL Q (kc + 1) (ks + 6) s f' 1427 (lwL X o b j) [.int r] := by
    intro r f' Qm hw hq
    refine l_istore (L' := [some (.ref b), some (.ref (xa X 0)), some (.ref (xa X 82)), some (.ref o), some (.int (nI (6 * j))), some (.int r), none, none]) K d_law_1427 (by decide) rfl ?_
    refine l_aload_n K d_law_1429 rfl ?_
    refine l_arg K (j := j) (k := 1) (by omega) rfl rfl d_law_1430 d_law_1431 d_law_1433 d_law_1434 d_law_1435 ?_
    refine l_arg K (j := j) (k := 2) (by omega) rfl rfl d_law_1436 d_law_1437 d_law_1439 d_law_1440 d_law_1441 ?_
    refine l_call (As := [.int (xs1 (6 * j + 1)), .int (xs1 (6 * j + 2))]) (rest := []) (p := 82) K (m_Mod_element (xg X) K.1.2.2.2.2.2.2.1 (xs1 (6 * j + 1)) (xs1 (6 * j + 2)) s _ hw) cw_Mod_element ml_Law_180 rfl (by decide) (by decide) rfl rfl rfl ⟨rfl, rfl, Nat.le_of_ble_eq_true rfl, Nat.le_of_ble_eq_true rfl⟩ hk rfl (Nat.le_of_ble_eq_true rfl) d_law_1442 ?_
    rintro _ s2 ⟨v, rfl, hv⟩
    obtain ⟨h39, hR2, h0⟩ := hq v s2 hv
    show LV X o cL Q (kc + 1) (ks + 6) s2 f' 1445 [some (.ref b), some (.ref (xa X 0)), some (.ref (xa X 82)), some (.ref o), some (.int (nI (6 * j))), some (.int r), none, none] [.long v]
    refine l_lstore (L' := [some (.ref b), some (.ref (xa X 0)), some (.ref (xa X 82)), some (.ref o), some (.int (nI (6 * j))), some (.int r), some (.long v), none]) K d_law_1445 (by decide) rfl ?_
    refine l_aload_n K d_law_1447 rfl ?_
    refine l_call (As := []) (rest := []) (p := 82) K (m_Mod_thrown (xg X) K.1.2.2.2.2.2.2.1 s2 (fun x => x = r) (by unfold vc_Mod_thrown; exact h39)) cw_Mod_thrown ml_Law_181 rfl (by decide) (by decide) rfl rfl rfl ⟨rfl, rfl, Nat.le_of_ble_eq_true rfl, Nat.le_of_ble_eq_true rfl⟩ hk rfl (Nat.le_of_ble_eq_true rfl) d_law_1448 ?_
    rintro _ _ ⟨x, rfl, rfl, hx⟩
    show LV X o cL Q (kc + 1) (ks + 6) s2 f' 1451 [some (.ref b), some (.ref (xa X 0)), some (.ref (xa X 82)), some (.ref o), some (.int (nI (6 * j))), some (.int r), some (.long v), none] [.int x]
    refine l_iload K d_law_1451 rfl ?_
    refine l_icmp_eq (tgt := 1458) K d_law_1453 (by decide) (fun _ => ?_) (fun c => absurd hx c)
    have fin : LV X o cL Q (kc + 1) (ks + 6) s2 f' 1474 [some (.ref b), some (.ref (xa X 0)), some (.ref (xa X 82)), some (.ref o), some (.int (nI (6 * j))), some (.int r), some (.long v), none] [] := l_goto (tgt := 1600) K d_law_1474 (by decide) (l_sub (L' := lwL X o b j) ⟨rfl, rfl, rfl, rfl, rfl, trivial⟩ (next s2 A f' hR2))
    refine l_iload K d_law_1458 rfl ?_
    refine l_if_ne (tgt := 1474) K d_law_1460 (by decide) (fun _ => fin) (fun c => ?_)
    refine l_aload_n K d_law_1463 rfl ?_
    refine l_iconst (v := 0) K d_law_1464 (by decide) ?_
    refine l_laload K d_law_1465 ?_
    refine l_lload K d_law_1466 rfl ?_
    rw [h0 c]
    refine l_lcmp K d_law_1468 ?_
    exact l_if_eq (tgt := 1474) K d_law_1469 (by decide) (fun _ => fin) (fun c => absurd lgc_self c)
  refine l_aload_n K d_law_1410 rfl ?_
  refine l_arg K (j := j) (k := 1) (by omega) rfl rfl d_law_1411 d_law_1412 d_law_1414 d_law_1415 d_law_1416 ?_
  refine l_arg K (j := j) (k := 2) (by omega) rfl rfl d_law_1417 d_law_1418 d_law_1420 d_law_1421 d_law_1422 ?_
  refine l_aload_n K d_law_1423 rfl ?_
  refine l_callE K (e_elem hR (xs1 (6 * j + 1)) (xs1 (6 * j + 2))) hk d_law_1424 (fun r f' hr => ?_)
  rcases hr with ⟨rfl, hw⟩ | ⟨rfl, hw⟩ | ⟨rfl, hw⟩
  · exact tail 0 f' _ hw (fun v s2 h => ⟨h.2.1, h.2.2, fun _ => h.1⟩)
  · exact tail 1 f' _ hw (fun v s2 h => ⟨h.1.trans (if_pos rfl), h.2, fun c => absurd c (by decide)⟩)
  · exact tail 2 f' _ hw (fun v s2 h => ⟨h.1.trans (if_neg (by decide)), h.2, fun c => absurd c (by decide)⟩)
