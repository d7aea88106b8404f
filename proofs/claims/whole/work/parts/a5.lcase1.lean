/-! THE LAW: a case of its switch each -/
theorem lc_set {X : Xx} {o : Nat} {cL : ClassId} {b L : Nat} {xs1 : Nat → Int32} {Q : State → Prop} {kc ks : Nat} {s : St} {A : Ab} {f : Nat → Int64} {j : Nat} (K : Lok X o cL b L xs1) (hj : 6 * j + 6 ≤ L) (hk : kc + 1 ≤ 601024 ∧ ks + 6 ≤ 7293034) (hR : RR s A) (next : ∀ (s2 : St) (A2 : Ab) (f2 : Nat → Int64), RR s2 A2 → LV X o cL Q (kc + 1) (ks + 6) s2 f2 1600 (lwL X o b j) []) : LV X o cL Q kc ks s f 455 (lwL X o b j) [] := by
  refine l_aload_n K d_law_455 rfl ?_
  refine l_arg K (j := j) (k := 1) (by omega) rfl rfl d_law_456 d_law_457 d_law_459 d_law_460 d_law_461 ?_
  refine l_arg K (j := j) (k := 2) (by omega) rfl rfl d_law_462 d_law_463 d_law_465 d_law_466 d_law_467 ?_
  refine l_call (As := [.int (xs1 (6 * j + 1)), .int (xs1 (6 * j + 2))]) (rest := []) (p := 0) K (m_Brt_set (xg X) K.1.2.2.2.2.2.2.1 (xs1 (6 * j + 1)) (xs1 (6 * j + 2)) s _ (e_set hR _ _)) cw_Brt_set ml_Law_53 rfl (by decide) (by decide) rfl rfl rfl ⟨rfl, rfl, Nat.le_of_ble_eq_true rfl, Nat.le_of_ble_eq_true rfl⟩ ⟨by omega, by omega⟩ rfl (Nat.le_of_ble_eq_true rfl) d_law_468 ?_
  rintro _ s1 ⟨r, rfl, hw⟩
  show LV X o cL Q kc ks s1 f 471 (lwL X o b j) [.int r]
  refine l_aload_n K d_law_471 rfl ?_
  refine l_arg K (j := j) (k := 1) (by omega) rfl rfl d_law_472 d_law_473 d_law_475 d_law_476 d_law_477 ?_
  refine l_arg K (j := j) (k := 2) (by omega) rfl rfl d_law_478 d_law_479 d_law_481 d_law_482 d_law_483 ?_
  refine l_call (As := [.int (xs1 (6 * j + 1)), .int (xs1 (6 * j + 2))]) (rest := [.int r]) (p := 82) K (m_Mod_set (xg X) K.1.2.2.2.2.2.2.1 (xs1 (6 * j + 1)) (xs1 (6 * j + 2)) s1 _ hw) cw_Mod_set ml_Law_56 rfl (by decide) (by decide) rfl rfl rfl ⟨rfl, rfl, Nat.le_of_ble_eq_true rfl, Nat.le_of_ble_eq_true rfl⟩ ⟨by omega, by omega⟩ rfl (Nat.le_of_ble_eq_true rfl) d_law_484 ?_
  rintro _ s2 ⟨r', rfl, hw⟩
  show LV X o cL Q kc ks s2 f 487 (lwL X o b j) [.int r', .int r]
  obtain ⟨rfl, A', hR'⟩ := hw
  exact l_icmp_eq (tgt := 1600) K d_law_487 (by decide) (fun _ => l_widen (Nat.le_succ _) (Nat.le_add_right _ _) (next _ _ f hR')) (fun c => absurd rfl c)
theorem lc_waits {X : Xx} {o : Nat} {cL : ClassId} {b L : Nat} {xs1 : Nat → Int32} {Q : State → Prop} {kc ks : Nat} {s : St} {A : Ab} {f : Nat → Int64} {j : Nat} (K : Lok X o cL b L xs1) (hj : 6 * j + 6 ≤ L) (hk : kc + 1 ≤ 601024 ∧ ks + 6 ≤ 7293034) (hR : RR s A) (next : ∀ (s2 : St) (A2 : Ab) (f2 : Nat → Int64), RR s2 A2 → LV X o cL Q (kc + 1) (ks + 6) s2 f2 1600 (lwL X o b j) []) : LV X o cL Q kc ks s f 492 (lwL X o b j) [] := by
  refine l_aload_n K d_law_492 rfl ?_
  refine l_arg K (j := j) (k := 1) (by omega) rfl rfl d_law_493 d_law_494 d_law_496 d_law_497 d_law_498 ?_
  refine l_call (As := [.int (xs1 (6 * j + 1))]) (rest := []) (p := 0) K (m_Brt_waits (xg X) K.1.2.2.2.2.2.2.1 (xs1 (6 * j + 1)) s _ (e_waits hR _)) cw_Brt_waits ml_Law_57 rfl (by decide) (by decide) rfl rfl rfl ⟨rfl, rfl, Nat.le_of_ble_eq_true rfl, Nat.le_of_ble_eq_true rfl⟩ ⟨by omega, by omega⟩ rfl (Nat.le_of_ble_eq_true rfl) d_law_499 ?_
  rintro _ s1 ⟨r, rfl, hw⟩
  show LV X o cL Q kc ks s1 f 502 (lwL X o b j) [.int r]
  refine l_aload_n K d_law_502 rfl ?_
  refine l_arg K (j := j) (k := 1) (by omega) rfl rfl d_law_503 d_law_504 d_law_506 d_law_507 d_law_508 ?_
  refine l_call (As := [.int (xs1 (6 * j + 1))]) (rest := [.int r]) (p := 82) K (m_Mod_waits (xg X) K.1.2.2.2.2.2.2.1 (xs1 (6 * j + 1)) s1 _ hw) cw_Mod_waits ml_Law_60 rfl (by decide) (by decide) rfl rfl rfl ⟨rfl, rfl, Nat.le_of_ble_eq_true rfl, Nat.le_of_ble_eq_true rfl⟩ ⟨by omega, by omega⟩ rfl (Nat.le_of_ble_eq_true rfl) d_law_509 ?_
  rintro _ s2 ⟨r', rfl, hw⟩
  show LV X o cL Q kc ks s2 f 512 (lwL X o b j) [.int r', .int r]
  obtain ⟨rfl, A', hR'⟩ := hw
  exact l_icmp_eq (tgt := 1600) K d_law_512 (by decide) (fun _ => l_widen (Nat.le_succ _) (Nat.le_add_right _ _) (next _ _ f hR')) (fun c => absurd rfl c)
theorem lc_size {X : Xx} {o : Nat} {cL : ClassId} {b L : Nat} {xs1 : Nat → Int32} {Q : State → Prop} {kc ks : Nat} {s : St} {A : Ab} {f : Nat → Int64} {j : Nat} (K : Lok X o cL b L xs1) (hj : 6 * j + 6 ≤ L) (hk : kc + 1 ≤ 601024 ∧ ks + 6 ≤ 7293034) (hR : RR s A) (next : ∀ (s2 : St) (A2 : Ab) (f2 : Nat → Int64), RR s2 A2 → LV X o cL Q (kc + 1) (ks + 6) s2 f2 1600 (lwL X o b j) []) : LV X o cL Q kc ks s f 517 (lwL X o b j) [] := by
  refine l_aload_n K d_law_517 rfl ?_
  refine l_arg K (j := j) (k := 1) (by omega) rfl rfl d_law_518 d_law_519 d_law_521 d_law_522 d_law_523 ?_
  refine l_arg K (j := j) (k := 2) (by omega) rfl rfl d_law_524 d_law_525 d_law_527 d_law_528 d_law_529 ?_
  refine l_arg K (j := j) (k := 3) (by omega) rfl rfl d_law_530 d_law_531 d_law_533 d_law_534 d_law_535 ?_
  refine l_arg K (j := j) (k := 4) (by omega) rfl rfl d_law_536 d_law_537 d_law_539 d_law_540 d_law_541 ?_
  refine l_call (As := [.int (xs1 (6 * j + 1)), .int (xs1 (6 * j + 2)), .int (xs1 (6 * j + 3)), .int (xs1 (6 * j + 4))]) (rest := []) (p := 0) K (m_Brt_size (xg X) K.1.2.2.2.2.2.2.1 (xs1 (6 * j + 1)) (xs1 (6 * j + 2)) (xs1 (6 * j + 3)) (xs1 (6 * j + 4)) s _ (e_size hR _ _ _ _)) cw_Brt_size ml_Law_61 rfl (by decide) (by decide) rfl rfl rfl ⟨rfl, rfl, Nat.le_of_ble_eq_true rfl, Nat.le_of_ble_eq_true rfl⟩ ⟨by omega, by omega⟩ rfl (Nat.le_of_ble_eq_true rfl) d_law_542 ?_
  rintro _ _ ⟨r, rfl, rfl, hw⟩
  show LV X o cL Q kc ks s f 545 (lwL X o b j) [.int r]
  refine l_aload_n K d_law_545 rfl ?_
  refine l_arg K (j := j) (k := 1) (by omega) rfl rfl d_law_546 d_law_547 d_law_549 d_law_550 d_law_551 ?_
  refine l_arg K (j := j) (k := 2) (by omega) rfl rfl d_law_552 d_law_553 d_law_555 d_law_556 d_law_557 ?_
  refine l_arg K (j := j) (k := 3) (by omega) rfl rfl d_law_558 d_law_559 d_law_561 d_law_562 d_law_563 ?_
  refine l_arg K (j := j) (k := 4) (by omega) rfl rfl d_law_564 d_law_565 d_law_567 d_law_568 d_law_569 ?_
  refine l_call (As := [.int (xs1 (6 * j + 1)), .int (xs1 (6 * j + 2)), .int (xs1 (6 * j + 3)), .int (xs1 (6 * j + 4))]) (rest := [.int r]) (p := 82) K (m_Mod_size (xg X) K.1.2.2.2.2.2.2.1 (xs1 (6 * j + 1)) (xs1 (6 * j + 2)) (xs1 (6 * j + 3)) (xs1 (6 * j + 4)) s _ hw) cw_Mod_size ml_Law_65 rfl (by decide) (by decide) rfl rfl rfl ⟨rfl, rfl, Nat.le_of_ble_eq_true rfl, Nat.le_of_ble_eq_true rfl⟩ ⟨by omega, by omega⟩ rfl (Nat.le_of_ble_eq_true rfl) d_law_570 ?_
  rintro _ _ ⟨r', rfl, rfl, hw⟩
  show LV X o cL Q kc ks s f 573 (lwL X o b j) [.int r', .int r]
  obtain rfl := hw
  have hR' := hR
  exact l_icmp_eq (tgt := 1600) K d_law_573 (by decide) (fun _ => l_widen (Nat.le_succ _) (Nat.le_add_right _ _) (next _ _ f hR')) (fun c => absurd rfl c)
theorem lc_fits {X : Xx} {o : Nat} {cL : ClassId} {b L : Nat} {xs1 : Nat → Int32} {Q : State → Prop} {kc ks : Nat} {s : St} {A : Ab} {f : Nat → Int64} {j : Nat} (K : Lok X o cL b L xs1) (hj : 6 * j + 6 ≤ L) (hk : kc + 1 ≤ 601024 ∧ ks + 6 ≤ 7293034) (hR : RR s A) (next : ∀ (s2 : St) (A2 : Ab) (f2 : Nat → Int64), RR s2 A2 → LV X o cL Q (kc + 1) (ks + 6) s2 f2 1600 (lwL X o b j) []) : LV X o cL Q kc ks s f 578 (lwL X o b j) [] := by
  refine l_aload_n K d_law_578 rfl ?_
  refine l_arg K (j := j) (k := 1) (by omega) rfl rfl d_law_579 d_law_580 d_law_582 d_law_583 d_law_584 ?_
  refine l_arg K (j := j) (k := 2) (by omega) rfl rfl d_law_585 d_law_586 d_law_588 d_law_589 d_law_590 ?_
  refine l_call (As := [.int (xs1 (6 * j + 1)), .int (xs1 (6 * j + 2))]) (rest := []) (p := 0) K (m_Brt_fits (xg X) K.1.2.2.2.2.2.2.1 (xs1 (6 * j + 1)) (xs1 (6 * j + 2)) s _ (e_fits hR _ _)) cw_Brt_fits ml_Law_66 rfl (by decide) (by decide) rfl rfl rfl ⟨rfl, rfl, Nat.le_of_ble_eq_true rfl, Nat.le_of_ble_eq_true rfl⟩ ⟨by omega, by omega⟩ rfl (Nat.le_of_ble_eq_true rfl) d_law_591 ?_
  rintro _ _ ⟨r, rfl, rfl, hw⟩
  show LV X o cL Q kc ks s f 594 (lwL X o b j) [.int r]
  refine l_aload_n K d_law_594 rfl ?_
  refine l_arg K (j := j) (k := 1) (by omega) rfl rfl d_law_595 d_law_596 d_law_598 d_law_599 d_law_600 ?_
  refine l_arg K (j := j) (k := 2) (by omega) rfl rfl d_law_601 d_law_602 d_law_604 d_law_605 d_law_606 ?_
  refine l_call (As := [.int (xs1 (6 * j + 1)), .int (xs1 (6 * j + 2))]) (rest := [.int r]) (p := 82) K (m_Mod_fits (xg X) K.1.2.2.2.2.2.2.1 (xs1 (6 * j + 1)) (xs1 (6 * j + 2)) s _ hw) cw_Mod_fits ml_Law_69 rfl (by decide) (by decide) rfl rfl rfl ⟨rfl, rfl, Nat.le_of_ble_eq_true rfl, Nat.le_of_ble_eq_true rfl⟩ ⟨by omega, by omega⟩ rfl (Nat.le_of_ble_eq_true rfl) d_law_607 ?_
  rintro _ _ ⟨r', rfl, rfl, hw⟩
  show LV X o cL Q kc ks s f 610 (lwL X o b j) [.int r', .int r]
  obtain rfl := hw
  have hR' := hR
  exact l_icmp_eq (tgt := 1600) K d_law_610 (by decide) (fun _ => l_widen (Nat.le_succ _) (Nat.le_add_right _ _) (next _ _ f hR')) (fun c => absurd rfl c)
theorem lc_way {X : Xx} {o : Nat} {cL : ClassId} {b L : Nat} {xs1 : Nat → Int32} {Q : State → Prop} {kc ks : Nat} {s : St} {A : Ab} {f : Nat → Int64} {j : Nat} (K : Lok X o cL b L xs1) (hj : 6 * j + 6 ≤ L) (hk : kc + 1 ≤ 601024 ∧ ks + 6 ≤ 7293034) (hR : RR s A) (next : ∀ (s2 : St) (A2 : Ab) (f2 : Nat → Int64), RR s2 A2 → LV X o cL Q (kc + 1) (ks + 6) s2 f2 1600 (lwL X o b j) []) : LV X o cL Q kc ks s f 615 (lwL X o b j) [] := by
  refine l_aload_n K d_law_615 rfl ?_
  refine l_arg K (j := j) (k := 1) (by omega) rfl rfl d_law_616 d_law_617 d_law_619 d_law_620 d_law_621 ?_
  refine l_arg K (j := j) (k := 2) (by omega) rfl rfl d_law_622 d_law_623 d_law_625 d_law_626 d_law_627 ?_
  refine l_arg K (j := j) (k := 3) (by omega) rfl rfl d_law_628 d_law_629 d_law_631 d_law_632 d_law_633 ?_
  refine l_call (As := [.int (xs1 (6 * j + 1)), .int (xs1 (6 * j + 2)), .int (xs1 (6 * j + 3))]) (rest := []) (p := 0) K (m_Brt_way (xg X) K.1.2.2.2.2.2.2.1 (xs1 (6 * j + 1)) (xs1 (6 * j + 2)) (xs1 (6 * j + 3)) s _ (e_way hR _ _ _)) cw_Brt_way ml_Law_70 rfl (by decide) (by decide) rfl rfl rfl ⟨rfl, rfl, Nat.le_of_ble_eq_true rfl, Nat.le_of_ble_eq_true rfl⟩ ⟨by omega, by omega⟩ rfl (Nat.le_of_ble_eq_true rfl) d_law_634 ?_
  rintro _ s1 ⟨r, rfl, hw⟩
  show LV X o cL Q kc ks s1 f 637 (lwL X o b j) [.int r]
  refine l_aload_n K d_law_637 rfl ?_
  refine l_arg K (j := j) (k := 1) (by omega) rfl rfl d_law_638 d_law_639 d_law_641 d_law_642 d_law_643 ?_
  refine l_arg K (j := j) (k := 2) (by omega) rfl rfl d_law_644 d_law_645 d_law_647 d_law_648 d_law_649 ?_
  refine l_arg K (j := j) (k := 3) (by omega) rfl rfl d_law_650 d_law_651 d_law_653 d_law_654 d_law_655 ?_
  refine l_call (As := [.int (xs1 (6 * j + 1)), .int (xs1 (6 * j + 2)), .int (xs1 (6 * j + 3))]) (rest := [.int r]) (p := 82) K (m_Mod_way (xg X) K.1.2.2.2.2.2.2.1 (xs1 (6 * j + 1)) (xs1 (6 * j + 2)) (xs1 (6 * j + 3)) s1 _ hw) cw_Mod_way ml_Law_73 rfl (by decide) (by decide) rfl rfl rfl ⟨rfl, rfl, Nat.le_of_ble_eq_true rfl, Nat.le_of_ble_eq_true rfl⟩ ⟨by omega, by omega⟩ rfl (Nat.le_of_ble_eq_true rfl) d_law_656 ?_
  rintro _ s2 ⟨r', rfl, hw⟩
  show LV X o cL Q kc ks s2 f 659 (lwL X o b j) [.int r', .int r]
  obtain ⟨rfl, hR'⟩ := hw
  exact l_icmp_eq (tgt := 1600) K d_law_659 (by decide) (fun _ => l_widen (Nat.le_succ _) (Nat.le_add_right _ _) (next _ _ f hR')) (fun c => absurd rfl c)
theorem lc_posture {X : Xx} {o : Nat} {cL : ClassId} {b L : Nat} {xs1 : Nat → Int32} {Q : State → Prop} {kc ks : Nat} {s : St} {A : Ab} {f : Nat → Int64} {j : Nat} (K : Lok X o cL b L xs1) (hj : 6 * j + 6 ≤ L) (hk : kc + 1 ≤ 601024 ∧ ks + 6 ≤ 7293034) (hR : RR s A) (next : ∀ (s2 : St) (A2 : Ab) (f2 : Nat → Int64), RR s2 A2 → LV X o cL Q (kc + 1) (ks + 6) s2 f2 1600 (lwL X o b j) []) : LV X o cL Q kc ks s f 664 (lwL X o b j) [] := by
  refine l_aload_n K d_law_664 rfl ?_
  refine l_arg K (j := j) (k := 1) (by omega) rfl rfl d_law_665 d_law_666 d_law_668 d_law_669 d_law_670 ?_
  refine l_call (As := [.int (xs1 (6 * j + 1))]) (rest := []) (p := 0) K (m_Brt_posture (xg X) K.1.2.2.2.2.2.2.1 (xs1 (6 * j + 1)) s _ (e_posture hR _)) cw_Brt_posture ml_Law_74 rfl (by decide) (by decide) rfl rfl rfl ⟨rfl, rfl, Nat.le_of_ble_eq_true rfl, Nat.le_of_ble_eq_true rfl⟩ ⟨by omega, by omega⟩ rfl (Nat.le_of_ble_eq_true rfl) d_law_671 ?_
  rintro _ s1 ⟨r, rfl, hw⟩
  show LV X o cL Q kc ks s1 f 674 (lwL X o b j) [.int r]
  refine l_aload_n K d_law_674 rfl ?_
  refine l_arg K (j := j) (k := 1) (by omega) rfl rfl d_law_675 d_law_676 d_law_678 d_law_679 d_law_680 ?_
  refine l_call (As := [.int (xs1 (6 * j + 1))]) (rest := [.int r]) (p := 82) K (m_Mod_posture (xg X) K.1.2.2.2.2.2.2.1 (xs1 (6 * j + 1)) s1 _ hw) cw_Mod_posture ml_Law_77 rfl (by decide) (by decide) rfl rfl rfl ⟨rfl, rfl, Nat.le_of_ble_eq_true rfl, Nat.le_of_ble_eq_true rfl⟩ ⟨by omega, by omega⟩ rfl (Nat.le_of_ble_eq_true rfl) d_law_681 ?_
  rintro _ s2 ⟨r', rfl, hw⟩
  show LV X o cL Q kc ks s2 f 684 (lwL X o b j) [.int r', .int r]
  obtain ⟨rfl, hR'⟩ := hw
  exact l_icmp_eq (tgt := 1600) K d_law_684 (by decide) (fun _ => l_widen (Nat.le_succ _) (Nat.le_add_right _ _) (next _ _ f hR')) (fun c => absurd rfl c)
theorem lc_lacks {X : Xx} {o : Nat} {cL : ClassId} {b L : Nat} {xs1 : Nat → Int32} {Q : State → Prop} {kc ks : Nat} {s : St} {A : Ab} {f : Nat → Int64} {j : Nat} (K : Lok X o cL b L xs1) (hj : 6 * j + 6 ≤ L) (hk : kc + 1 ≤ 601024 ∧ ks + 6 ≤ 7293034) (hR : RR s A) (next : ∀ (s2 : St) (A2 : Ab) (f2 : Nat → Int64), RR s2 A2 → LV X o cL Q (kc + 1) (ks + 6) s2 f2 1600 (lwL X o b j) []) : LV X o cL Q kc ks s f 689 (lwL X o b j) [] := by
  refine l_aload_n K d_law_689 rfl ?_
  refine l_arg K (j := j) (k := 1) (by omega) rfl rfl d_law_690 d_law_691 d_law_693 d_law_694 d_law_695 ?_
  refine l_call (As := [.int (xs1 (6 * j + 1))]) (rest := []) (p := 0) K (m_Brt_lacks (xg X) K.1.2.2.2.2.2.2.1 (xs1 (6 * j + 1)) s _ (e_lacks hR _)) cw_Brt_lacks ml_Law_78 rfl (by decide) (by decide) rfl rfl rfl ⟨rfl, rfl, Nat.le_of_ble_eq_true rfl, Nat.le_of_ble_eq_true rfl⟩ ⟨by omega, by omega⟩ rfl (Nat.le_of_ble_eq_true rfl) d_law_696 ?_
  rintro _ _ ⟨r, rfl, rfl, hw⟩
  show LV X o cL Q kc ks s f 699 (lwL X o b j) [.int r]
  refine l_aload_n K d_law_699 rfl ?_
  refine l_arg K (j := j) (k := 1) (by omega) rfl rfl d_law_700 d_law_701 d_law_703 d_law_704 d_law_705 ?_
  refine l_call (As := [.int (xs1 (6 * j + 1))]) (rest := [.int r]) (p := 82) K (m_Mod_lacks (xg X) K.1.2.2.2.2.2.2.1 (xs1 (6 * j + 1)) s _ hw) cw_Mod_lacks ml_Law_81 rfl (by decide) (by decide) rfl rfl rfl ⟨rfl, rfl, Nat.le_of_ble_eq_true rfl, Nat.le_of_ble_eq_true rfl⟩ ⟨by omega, by omega⟩ rfl (Nat.le_of_ble_eq_true rfl) d_law_706 ?_
  rintro _ _ ⟨r', rfl, rfl, hw⟩
  show LV X o cL Q kc ks s f 709 (lwL X o b j) [.int r', .int r]
  obtain rfl := hw
  have hR' := hR
  exact l_icmp_eq (tgt := 1600) K d_law_709 (by decide) (fun _ => l_widen (Nat.le_succ _) (Nat.le_add_right _ _) (next _ _ f hR')) (fun c => absurd rfl c)
