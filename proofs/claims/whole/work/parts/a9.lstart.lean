/-! THE LAW: its start -/
theorem st_nst : ∀ q ∈ nst, Cond.methodLinkNest q.1 q.2 y_Brt_within "BreatheOut" ∈ lw_tbl := by decide +kernel
theorem st_nsi : ∀ q ∈ nsi, Cond.methodLinkNest q.1 q.2.1 q.2.2 "BreatheOut" ∈ lw_tbl := by decide +kernel
theorem st_cast : ∀ q ∈ gTc, Cond.castable q q ∈ lw_tbl := by decide +kernel
theorem st_decl : ∀ q ∈ gTd, Cond.declares q ∈ lw_tbl := by decide +kernel
theorem st_ncast : ∀ q ∈ gTn, Cond.not (.castable q.1 q.2) ∈ flatC (Jvm.Cond.and given_1 narrow_1) := by decide +kernel
theorem st_str : ∀ q ∈ gTs, Cond.stringRef q.1 q.2.1 q.2.2 ∈ lw_tbl := by decide +kernel
theorem st_exa : ∀ q ∈ gTs, Cond.exactly (.string q.1 q.2.1) "java/lang/String" ∈ flatC (Jvm.Cond.and given_1 narrow_1) := by decide +kernel
theorem st_ao : Cond.arrayOver (.object "BreatheOut$Shelf") ∈ lw_tbl := by decide +kernel
theorem st_lst : Cond.laysStatic Bundle.tN "UNASSIGNED_STACK" Bundle.steD ∈ lw_tbl ∧ Cond.laysStatic Bundle.tN "SUPPRESSED_SENTINEL" Bundle.listD ∈ lw_tbl := by decide +kernel
theorem st_lr : Cond.isRef (.static Bundle.tN "UNASSIGNED_STACK" Bundle.steD) ∈ flatC (Jvm.Cond.and given_1 narrow_1) ∧ Cond.isRef (.static Bundle.tN "SUPPRESSED_SENTINEL" Bundle.listD) ∈ flatC (Jvm.Cond.and given_1 narrow_1) := by decide +kernel
theorem st_gT {args : Array Value} {s : State} (hts : ∀ w ∈ lw_tbl, w.before args s = true) (hgv : (Jvm.Cond.and given_1 narrow_1).before args s = true) : gT s := by
  have hf := flat_of_before _ hgv
  refine ⟨fun q hq => va_Nw.of rfl (hts _ (st_cast q hq)), fun q hq => va_Nw.of rfl (hts _ (st_decl q hq)), fun q hq => va_Nc.of (hf _ (st_ncast q hq)), fun q hq => ?_⟩
  obtain ⟨a, c, cell, k, h1, -⟩ := Cond.exactly_spec (show (Cond.exactly (.string q.1 q.2.1) "java/lang/String").holds args s none s [] = true from hf _ (st_exa q hq))
  exact ⟨a, vk_R.of (hts _ (st_str q hq)) h1⟩
theorem st_gZ {args : Array Value} {s : State} (hts : ∀ w ∈ lw_tbl, w.before args s = true) (hgv : (Jvm.Cond.and given_1 narrow_1).before args s = true) (hini : (Cond.initialized Bundle.tN).before args s = true) : gZ (fun q : Nat => s.heap.size ≤ q) s s.heap := by
  have hf := flat_of_before _ hgv
  exact ⟨vx_Zqof (hts _ st_lst.1) hini (hf _ st_lr.1) (fun a h => Nat.not_le.mpr h), vx_Zqof (hts _ st_lst.2) hini (hf _ st_lr.2) (fun a h => Nat.not_le.mpr h)⟩
theorem lh_0 {X : Xx} {o b : Nat} {ls : Array Slot} (h : lv_has ls 8 [(4, .int 0), (3, .ref o), (2, .ref (xa X 82)), (1, .ref (xa X 0)), (0, .ref b)]) : lh ls 8 (lwL X o b 0) := by
  refine ⟨h.1, h.2.1, fun i v hi => ?_⟩
  match i, hi with
  | 0, hi => cases hi; exact lv_at h 4 rfl
  | 1, hi => cases hi; exact lv_at h 3 rfl
  | 2, hi => cases hi; exact lv_at h 2 rfl
  | 3, hi => cases hi; exact lv_at h 1 rfl
  | 4, hi => cases hi; exact lv_at h 0 rfl
  | 5, hi => cases hi
  | 6, hi => cases hi
  | 7, hi => cases hi
  | i + 8, hi => cases hi
theorem flags_tr {l : Launch} (h : l.flags = flags0) : l.stackTraces = false := by
  unfold Launch.stackTraces
  rw [h]
  decide +kernel
set_option maxHeartbeats 4000000 in
set_option maxRecDepth 100000 in
theorem whole_start {p : Program} {e : Env} {s : State} {m : MethodId} {below : List Frame} {meth : Method} {c : Code} (l : Launch) (hflags : l.flags = flags0) {b L : Nat} {xs : Nat → Int32} (hL : L ≤ 3072) (C0 : lw_At p s m meth c b L xs) : W p l e room_1 s m #[Value.ref b] below meth c s.heap [] 0 0 (lw_Z below #[Value.ref b] s) (entryFrame m ([Value.ref b] : List Value).toArray 8) := by
  obtain ⟨hx, hb, hr, hml, hown, hts0, hX, hbl, hlocks, hgv⟩ := id C0
  have hown : s.vm.findClass R_Law = some m.cls := hown
  have hts : ∀ w ∈ tbl, w.before #[Value.ref b] s = true := fun w hw => hts0 w (List.mem_filter.mp hw).1
  have hA : ∀ q : Nat, s.heap.size ≤ q → (fun q : Nat => s.heap.size ≤ q) q := fun _ h => h
  obtain ⟨c0, i0, k0⟩ := u_known (C := R_Best) (T := F_Best) (N := 5) (n := 5) hts i_Best (hts _ (tbl_at 264 (by decide +kernel) rfl))
  obtain ⟨c1, i1, k1⟩ := u_known (C := R_Bod) (T := F_Bod) (N := 7) (n := 7) hts i_Bod (hts _ (tbl_at 129 (by decide +kernel) rfl))
  obtain ⟨c2, i2, k2⟩ := u_known (C := R_Cav) (T := F_Cav) (N := 6) (n := 6) hts i_Cav (hts _ (tbl_at 79 (by decide +kernel) rfl))
  obtain ⟨c3, i3, k3⟩ := u_known (C := R_Leg) (T := F_Leg) (N := 7) (n := 7) hts i_Leg (hts _ (tbl_at 211 (by decide +kernel) rfl))
  obtain ⟨c4, i4, k4⟩ := u_known (C := R_Res) (T := F_Res) (N := 10) (n := 10) hts i_Res (hts _ (tbl_at 288 (by decide +kernel) rfl))
  obtain ⟨c5, i5, k5⟩ := u_known (C := R_She) (T := F_She) (N := 6) (n := 6) hts i_She (hts _ (tbl_at 330 (by decide +kernel) rfl))
  obtain ⟨c6, i6, k6⟩ := u_known (C := R_Tri) (T := F_Tri) (N := 3) (n := 3) hts i_Tri (hts _ (tbl_at 205 (by decide +kernel) rfl))
  obtain ⟨c7, i7, k7⟩ := u_known (C := R_Yar) (T := F_Yar) (N := 9) (n := 9) hts i_Yar (hts _ (tbl_at 85 (by decide +kernel) rfl))
  obtain ⟨c8, i8, k8⟩ := u_known (C := R_Brt) (T := F_Brt) (N := 9) (n := 9) hts i_Brt (hts _ (tbl_at 71 (by decide +kernel) rfl))
  obtain ⟨c9, i9, k9⟩ := u_known (C := R_Mod) (T := F_Mod) (N := 40) (n := 40) hts i_Mod (hts _ (tbl_at 990 (by decide +kernel) rfl))
  obtain ⟨dC, dI, hKc⟩ : ∃ (dC : Nat → ClassId) (dI : Nat → Nat → Nat), ∀ (k : Nat) (q : vw_C), classes[k]? = some q → u_Kn s q.1 q.2.1 q.2.2 (dC k) (dI k) := by
    refine ⟨fun k => match k with | 0 => c0 | 1 => c1 | 2 => c2 | 3 => c3 | 4 => c4 | 5 => c5 | 6 => c6 | 7 => c7 | 8 => c8 | _ => c9, fun k => match k with | 0 => i0 | 1 => i1 | 2 => i2 | 3 => i3 | 4 => i4 | 5 => i5 | 6 => i6 | 7 => i7 | 8 => i8 | _ => i9, ?_⟩
    intro k q hq
    match k, hq with
    | 0, hq => cases hq; exact k0
    | 1, hq => cases hq; exact k1
    | 2, hq => cases hq; exact k2
    | 3, hq => cases hq; exact k3
    | 4, hq => cases hq; exact k4
    | 5, hq => cases hq; exact k5
    | 6, hq => cases hq; exact k6
    | 7, hq => cases hq; exact k7
    | 8, hq => cases hq; exact k8
    | 9, hq => cases hq; exact k9
    | k + 10, hq => cases hq
  obtain ⟨cI, kI, comp, hI1, hI2, hI3⟩ := Cond.arrayClass_spec (show (Cond.arrayClass .int).holds #[Value.ref b] s none s [] = true from hts _ ai_w)
  have hK : va_K (dC, dI) classes [(cI, .int)] s := ⟨hKc, fun k q h => by
    match k, h with
    | 0, h => cases h; exact ⟨fun n z => ⟨fun k h => (by cases h), kI, hI2, comp, hI3⟩, hI1⟩
    | k + 1, h => simp at h⟩
  have hG : gC s := ⟨fun q hq => va_Nw.of rfl (hts0 _ (st_nsi q hq)), va_AO.of (C := "BreatheOut$Shelf") (hts0 _ st_ao)⟩
  have hS : va_S (fun q : Nat => s.heap.size ≤ q) s.heap s.heap [] := va_S.rf
  have hP : va_P (dC, dI) classes [] s.heap := fun k q h => by simp at h
  have hD : va_D (fun q : Nat => s.heap.size ≤ q) [] := ⟨fun i j p q h => by simp at h, fun k q h => by simp at h⟩
  have hl := lv_entry ([.ref b]) (n := 8) (Nat.le_of_ble_eq_true rfl)
  rw [lg_entry_eq]
  generalize (lg_sl ([.ref b]) ++ List.replicate (8 - (lg_sl ([.ref b])).length) Slot.unset).toArray = ls at hl ⊢
  have hl : lv_has ls 8 [(0, .ref b)] := hl
  -- new BreatheOut()
  refine va_new (ci := 8) (fs := [.null, .null, .null, .null, .null, .null, .null, .null, .int 0]) (C := R_Brt) (T := F_Brt) (N := 9) hx hb hts i_Brt t_Brt t_Brt_ok hown (hts (.classLink R_Law 8 R_Brt) (tbl_at 70 (by decide +kernel) rfl)) (hts (.instantiable R_Brt 9) (tbl_at 71 (by decide +kernel) rfl)) (hts (.initialized R_Brt) (tbl_at 48 (by decide +kernel) rfl)) hK hP hD hS hA rfl (fun j hj => by rcases (show j = 0 ∨ j = 1 ∨ j = 2 ∨ j = 3 ∨ j = 4 ∨ j = 5 ∨ j = 6 ∨ j = 7 ∨ j = 8 by omega) with rfl | rfl | rfl | rfl | rfl | rfl | rfl | rfl | rfl <;> rfl) (Nat.le_of_ble_eq_true rfl) (Nat.le_of_ble_eq_true rfl) d_law_0 (fun q0 H hP hD hS => ?_)
  have hP : va_P (dC, dI) classes ([] ++ [(q0, .inr (8, [.null, .null, .null, .null, .null, .null, .null, .null, .int 0]))]) H := hP
  have hD : va_D (fun q : Nat => s.heap.size ≤ q) ([] ++ [(q0, .inr (8, [.null, .null, .null, .null, .null, .null, .null, .null, .int 0]))]) := hD
  refine W.widen (k := 1) (n := 9) (by omega) (by omega) ?_
  refine lv_dup hx hb d_law_3 rfl ?_
  have hPc := va_lastP hP
  have hDc := va_lastD hD
  have hFc := va_freeL hD hS hA
  refine va_callv (va_runI (Ts := tbl) (own := R_Law) (As := []) (rest := [.ref q0]) ⟨hx, hb, hml, hown, hts⟩ (c_Brt_init l (dC, dI) cI q0 H.size) (cwI 0 hts (good_code (tbl_at 74 rfl rfl)) rfl rfl rfl (hts _ (tbl_at 48 (by decide +kernel) rfl)) (hts (.methodLink R_Law 17 y_Brt_init) (tbl_at 72 (by decide +kernel) rfl)) (hts (.instanceMethod y_Brt_init) (tbl_at 73 (by decide +kernel) rfl)) rfl (by decide +kernel) ⟨Nat.le_of_ble_eq_true rfl, Nat.le_of_ble_eq_true rfl⟩) ⟨ini_blind, fun U hU hW => ⟨rfl, by rw [hU], by rw [hU]; exact hPc, va_K.moved hW.alike hK, gC_warm hW hG, hDc.weaken (fun _ _ _ _ => trivial)⟩⟩ rfl rfl hl.1 rfl (lv_room (Nat.le_of_ble_eq_true rfl)) d_law_4 ⟨Nat.le_of_ble_eq_true rfl, Nat.le_of_ble_eq_true rfl⟩) hS (fun q _ h => hFc q h) hFc (fun u t H1 locs ht hvm hw hB hz1 hk1 hS => ?_)
  obtain ⟨a1, cS⟩ := u
  obtain ⟨hP1, hD1, hK1⟩ := hB
  rw [ht] at hP1
  dsimp only at hw hP1 hD1 hK1
  have hK1 := va_K.moved hvm.symm (hK1 (by decide))
  obtain ⟨hPn, hDn⟩ := va_joinL (w1 := sg cI cS a1 z_Brt 0 kB) hP hD hk1 hFc hP1 hD1
  clear hP hD hPc hDc hFc
  subst hw
  generalize H1 = H at hPn hS ⊢
  have hP : va_P (dC, dI) classes (sg cI cS a1 z_Brt 0 kB) H := hPn
  have hD : va_D (fun q : Nat => s.heap.size ≤ q) (sg cI cS a1 z_Brt 0 kB) := hDn
  refine W.widen (k := 82) (n := 1402) (by omega) (by omega) ?_
  refine lv_astore_n (lv' := [(1, .ref (a1 0)), (0, .ref b)]) hx hb d_law_7 rfl hl (by decide) rfl (fun ls hl => ?_)
  -- new BreatheOutModel()
  generalize eB : sg cI cS a1 z_Brt 0 kB = wB at hP hD
  refine va_new (ci := 9) (fs := [.null, .null, .null, .int 0, .int 0, .int 0, .int 0, .int 0, .int 0, .int 0, .int 0, .int 0, .int 0, .int 0, .int 0, .int 0, .null, .null, .int 0, .int 0, .int 0, .int 0, .null, .int 0, .int 0, .null, .null, .null, .int 0, .int 0, .int 0, .int 0, .int 0, .null, .null, .null, .null, .null, .null, .int 0]) (C := R_Mod) (T := F_Mod) (N := 40) hx hb hts i_Mod t_Mod t_Mod_ok hown (hts (.classLink R_Law 18 R_Mod) (tbl_at 989 (by decide +kernel) rfl)) (hts (.instantiable R_Mod 40) (tbl_at 990 (by decide +kernel) rfl)) (hts (.initialized R_Mod) (tbl_at 57 (by decide +kernel) rfl)) hK hP hD hS hA rfl (fun j hj => by rcases (show j = 0 ∨ j = 1 ∨ j = 2 ∨ j = 3 ∨ j = 4 ∨ j = 5 ∨ j = 6 ∨ j = 7 ∨ j = 8 ∨ j = 9 ∨ j = 10 ∨ j = 11 ∨ j = 12 ∨ j = 13 ∨ j = 14 ∨ j = 15 ∨ j = 16 ∨ j = 17 ∨ j = 18 ∨ j = 19 ∨ j = 20 ∨ j = 21 ∨ j = 22 ∨ j = 23 ∨ j = 24 ∨ j = 25 ∨ j = 26 ∨ j = 27 ∨ j = 28 ∨ j = 29 ∨ j = 30 ∨ j = 31 ∨ j = 32 ∨ j = 33 ∨ j = 34 ∨ j = 35 ∨ j = 36 ∨ j = 37 ∨ j = 38 ∨ j = 39 by omega) with rfl | rfl | rfl | rfl | rfl | rfl | rfl | rfl | rfl | rfl | rfl | rfl | rfl | rfl | rfl | rfl | rfl | rfl | rfl | rfl | rfl | rfl | rfl | rfl | rfl | rfl | rfl | rfl | rfl | rfl | rfl | rfl | rfl | rfl | rfl | rfl | rfl | rfl | rfl | rfl <;> rfl) (Nat.le_of_ble_eq_true rfl) (Nat.le_of_ble_eq_true rfl) d_law_8 (fun q1 H hP hD hS => ?_)
  refine W.widen (k := 83) (n := 1442) (by omega) (by omega) ?_
  refine lv_dup hx hb d_law_11 rfl ?_
  have hPc := va_lastP hP
  have hDc := va_lastD hD
  have hFc := va_freeL hD hS hA
  refine va_callv (va_runI (Ts := tbl) (own := R_Law) (As := []) (rest := [.ref q1]) ⟨hx, hb, hml, hown, hts⟩ (c_Mod_init l (dC, dI) cI q1 H.size) (cwI 0 hts (good_code (tbl_at 993 rfl rfl)) rfl rfl rfl (hts _ (tbl_at 57 (by decide +kernel) rfl)) (hts (.methodLink R_Law 20 y_Mod_init) (tbl_at 991 (by decide +kernel) rfl)) (hts (.instanceMethod y_Mod_init) (tbl_at 992 (by decide +kernel) rfl)) rfl (by decide +kernel) ⟨Nat.le_of_ble_eq_true rfl, Nat.le_of_ble_eq_true rfl⟩) ⟨ini_blind, fun U hU hW => ⟨rfl, by rw [hU], by rw [hU]; exact hPc, va_K.moved hW.alike hK, gC_warm hW hG, hDc.weaken (fun _ _ _ _ => trivial)⟩⟩ rfl rfl hl.1 rfl (lv_room (Nat.le_of_ble_eq_true rfl)) d_law_12 ⟨Nat.le_of_ble_eq_true rfl, Nat.le_of_ble_eq_true rfl⟩) hS (fun q _ h => hFc q h) hFc (fun u t H1 locs ht hvm hw hB hz1 hk1 hS => ?_)
  obtain ⟨a2, cS2⟩ := u
  obtain ⟨hP1, hD1, -⟩ := hB
  rw [ht] at hP1
  dsimp only at hw hP1 hD1
  obtain ⟨hPn, hDn⟩ := va_joinL (w1 := sg cI cS2 a2 z_Mod 0 kM) hP hD hk1 hFc hP1 hD1
  clear hP hD hPc hDc hFc
  subst hw
  generalize H1 = H at hPn hS ⊢
  subst eB
  obtain ⟨hP, hD⟩ := wl_00 hPn hDn
  clear hPn hDn
  refine W.widen (k := 98) (n := 2550) (by omega) (by omega) ?_
  refine lv_astore_n (lv' := [(2, .ref (a2 0)), (1, .ref (a1 0)), (0, .ref b)]) hx hb d_law_15 rfl hl (by decide) rfl (fun ls hl => ?_)
  -- new long[1]
  refine lv_iconst (v := 1) hx hb d_law_16 (by decide) ?_
  generalize eW : wl (ad a1 a2) cI cS s0 = wW at hP hD
  refine va_newa (atype := .long) (ty := .long) (N' := 1) (a0 := (1, .inr (.inl (fun _ => 0)))) hx hb (hts (.arrayClass .long) (tbl_at 1447 (by decide +kernel) rfl)) rfl hK1 hP hD hS hA (fun cA => rfl) (by decide) (by decide) (Nat.le_of_ble_eq_true rfl) (Nat.le_of_ble_eq_true rfl) (Nat.le_of_ble_eq_true rfl) d_law_17 (fun o cL H hK3 hP hD hS => ?_)
  have hO : va_P (dC, dI) classes (outW cL o (fun _ => 0)) H := va_Pr hP
  have hoA : s.heap.size ≤ o := hD.2 wW.length (o, .inl (cL, 1, .inr (.inl (fun _ => 0)))) (by simp)
  have hno : ∀ (k : Nat) (q : Nat × va_E), wW[k]? = some q → q.1 ≠ o := fun k q hq e => by
    have hk : k < wW.length := (List.getElem?_eq_some_iff.mp hq).1
    have := hD.1 k wW.length q (o, .inl (cL, 1, .inr (.inl (fun _ => 0)))) (by rw [List.getElem?_append_left hk]; exact hq) (by simp) e
    omega
  have hD0 : va_D (fun q : Nat => s.heap.size ≤ q ∧ q ≠ o) wW := by
    refine ⟨fun i j p q hi hj e => hD.1 i j p q (by rw [List.getElem?_append_left (List.getElem?_eq_some_iff.mp hi).1]; exact hi) (by rw [List.getElem?_append_left (List.getElem?_eq_some_iff.mp hj).1]; exact hj) e, fun k q hk => ⟨hD.2 k q (by rw [List.getElem?_append_left (List.getElem?_eq_some_iff.mp hk).1]; exact hk), hno k q hk⟩⟩
  have hP : va_P (dC, dI) classes wW H := va_Pl hP
  subst eW
  refine W.widen (k := 99) (n := 2551) (by omega) (by omega) ?_
  refine lv_astore_n (lv' := [(3, .ref o), (2, .ref (a2 0)), (1, .ref (a1 0)), (0, .ref b)]) hx hb d_law_19 rfl hl (by decide) rfl (fun ls hl => ?_)
  refine lv_iconst (v := 0) hx hb d_law_20 (by decide) ?_
  refine lv_istore (lv' := [(4, .int 0), (3, .ref o), (2, .ref (a2 0)), (1, .ref (a1 0)), (0, .ref b)]) hx hb d_law_21 hl (by decide) rfl (fun ls hl => ?_)
  -- the loop
  obtain ⟨X, hXe⟩ : ∃ X : Xx, X = ((l, (dC, dI), cI, cS, ad a1 a2, fun q : Nat => s.heap.size ≤ q ∧ q ≠ o), p, e, room_1, s, m, #[Value.ref b], below, meth, c, 8) := ⟨_, rfl⟩
  have hgok : gOk (xg X) := by
    subst hXe
    intro s'
    show va_D (fun q : Nat => s.heap.size ≤ q ∧ q ≠ o) (wl (ad a1 a2) cI cS s')
    refine ⟨fun i j p q hi hj e => ?_, fun k q hk => ?_⟩
    · have hi98 : i < 98 := by have := (List.getElem?_eq_some_iff.mp hi).1; simpa [wl] using this
      have hj98 : j < 98 := by have := (List.getElem?_eq_some_iff.mp hj).1; simpa [wl] using this
      rw [wl_get _ _ _ _ hi98] at hi
      rw [wl_get _ _ _ _ hj98] at hj
      cases hi
      cases hj
      exact hD0.1 i j _ _ (wl_get _ _ _ _ hi98) (wl_get _ _ _ _ hj98) e
    · have hk98 : k < 98 := by have := (List.getElem?_eq_some_iff.mp hk).1; simpa [wl] using this
      rw [wl_get _ _ _ _ hk98] at hk
      cases hk
      exact hD0.2 k (ad a1 a2 k, cellE (ad a1 a2) cI cS s0 k) (wl_get _ _ _ _ hk98)
  have KK : Lok X o cL b L xs := by
    subst hXe
    exact ⟨⟨hx, hb, hml, hown, hts, hK1, hgok, rfl, hlocks, hr, rfl, fun q hq => va_Nw.of rfl (hts0 _ (st_nst q hq))⟩, st_gT hts0 hgv, st_gZ hts0 hgv (hts _ (tbl_at 64 (by decide +kernel) rfl)), flags_tr hflags, fun q h => h, hoA, hX, hbl, hL, hK3, rfl⟩
  have loop := l_loop (Q := lw_Z below #[Value.ref b] s) KK (fun kc ks s1 f j h1 h2 => by
    subst hXe
    exact l_end KK h1 h2 d_law_1606 d_law_1607) (L / 6) 0 99 2551 s0 A0 (fun _ => 0) RR_0 (by omega) (by omega) (by omega) (by omega)
  subst hXe
  exact loop H _ ls hP hO hS (lh_0 hl)
