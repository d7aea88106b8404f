/-! CONSTRUCTORS: cells by a list of kinds; a constructor's contract -/
def cK (cI cS : ClassId) (a : Nat → Nat) (s : St) (p k : Nat) : va_E :=
  if 100 ≤ k then .inl (cI, k - 100, .inl (s p)) else if k = 11 then .inl (cS, 8, .inr (.inr (.inr (.inr (fun i => some (a (p + 1 + 2 * i))))))) else .inr (cellO a s p k)
def sg (cI cS : ClassId) (a : Nat → Nat) (s : St) : Nat → List Nat → va_W
  | _, [] => []
  | p, k :: r => (a p, cK cI cS a s p k) :: sg cI cS a s (p + 1) r
theorem sg_at (cI cS : ClassId) (a : Nat → Nat) (s : St) : ∀ (ks : List Nat) (p i : Nat), (sg cI cS a s p ks)[i]? = ks[i]?.map (fun k => (a (p + i), cK cI cS a s (p + i) k))
  | [], p, i => by simp [sg]
  | k :: r, p, 0 => by simp [sg]
  | k :: r, p, i + 1 => by
    have := sg_at cI cS a s r (p + 1) i
    simp only [sg, List.getElem?_cons_succ, this, show p + 1 + i = p + (i + 1) by omega]
theorem kd_at {i : Nat} (h : i < 98) : kdl[i]? = some (kd i) := by
  unfold kd
  rw [List.getD_eq_getElem?_getD, List.getElem?_eq_getElem (show i < kdl.length from h)]
  rfl
theorem wl_sg (a : Nat → Nat) (cI cS : ClassId) (s : St) : wl a cI cS s = sg cI cS a s 0 kdl := by
  apply List.ext_getElem?
  intro i
  rw [sg_at, Nat.zero_add]
  rcases Nat.lt_or_ge i 98 with h | h
  · rw [wl_get a cI cS s h, kd_at h]; rfl
  · rw [List.getElem?_eq_none (by simpa [wl] using h), List.getElem?_eq_none (show kdl.length ≤ i from h)]; rfl
def nsi : List (String × Nat × MethodName) := [(R_Brt, 9, y_Cav_init), (R_Brt, 24, y_Tri_init), (R_Brt, 31, y_Best_init), (R_Brt, 38, y_Res_init), (R_Brt, 57, y_She_init), (R_Cav, 11, y_Yar_init), (R_Cav, 20, y_Bod_init), (R_Tri, 11, y_Leg_init)]
def gC (U : State) : Prop := (∀ q ∈ nsi, va_Nw (.methodLinkNest q.1 q.2.1 q.2.2 "BreatheOut") U) ∧ va_AO "BreatheOut$Shelf" U
theorem gC_same {u U : State} (h : u.vm = U.vm) (hN : gC u) : gC U := ⟨fun q hq => va_Nw.same rfl h (hN.1 q hq), va_AO.moved (by rw [h]; exact Vm.Alike.refl U.vm) hN.2⟩
theorem gC_warm {u U : State} (h : u.WarmedH U.vm) (hN : gC u) : gC U := ⟨fun q hq => va_Nw.warmM h (hN.1 q hq), va_AO.moved h.alike hN.2⟩
theorem va_one {D : va_G} {cl : List vw_C} {c1 c2 : ClassId} {U : State} (h : va_K D cl ([(c1, .int)] ++ [(c2, .int)]) U) : c2 = c1 := by
  have h1 : U.vm.findClass ("[" ++ (FieldType.int).toString) = some c1 := (h.2 0 (c1, .int) rfl).2
  have h2 : U.vm.findClass ("[" ++ (FieldType.int).toString) = some c2 := (h.2 1 (c2, .int) rfl).2
  exact Option.some.inj (h2.symm.trans h1)
theorem va_one2 {D : va_G} {cl : List vw_C} {c1 c2 cS : ClassId} {t : FieldType} {U : State} (h : va_K D cl ([(c1, .int), (cS, t)] ++ [(c2, .int)]) U) : c2 = c1 := by
  have h1 : U.vm.findClass ("[" ++ (FieldType.int).toString) = some c1 := (h.2 0 (c1, .int) rfl).2
  have h2 : U.vm.findClass ("[" ++ (FieldType.int).toString) = some c2 := (h.2 2 (c2, .int) rfl).2
  exact Option.some.inj (h2.symm.trans h1)
def iniP (D : va_G) (cI : ClassId) (e : va_E) (h0 sz : Nat) : Array Value → State → Prop := va_Pc [.ref h0] (fun U => U.heap.size = sz ∧ va_P D classes [(h0, e)] U.heap ∧ va_K D classes [(cI, .int)] U ∧ gC U ∧ va_D (fun _ => True) [(h0, e)])
theorem ini_blind {D : va_G} {cI : ClassId} {e : va_E} {h0 sz : Nat} : FrameBlind (iniP D cI e h0 sz) := fun a U g mk q => by
  obtain ⟨q0, q1, qP, qK, qN, qD⟩ := q
  exact ⟨q0, q1, qP, va_K.moved (u := U) (U := U.calling g mk a) (Vm.Alike.refl U.vm) qK, gC_same (u := U) (U := U.calling g mk a) rfl qN, qD⟩
def iniQ (D : va_G) (cI : ClassId) (e : va_E) (h0 sz : Nat) (ks : List Nat) (z : St) : Array Value → State → Outcome → State → Prop :=
  va_Qv (fun u : (Nat → Nat) × ClassId => u.1 0 = h0) (fun u t => va_P D classes (sg cI u.2 u.1 z 0 ks) t.heap ∧ va_D (va_A [(h0, e)] sz) (sg cI u.2 u.1 z 0 ks) ∧ (11 ∈ ks → va_K D classes [(cI, .int), (u.2, .object "BreatheOut$Shelf")] t)) (va_A [(h0, e)] sz)
/-- the constructor makes the cells of these kinds, with these ints -/
def Ini (l : Launch) (D : va_G) (cI : ClassId) (y : MethodName) (cc : ByteArray) (nL : Nat) (rm : Room) (mc ms : Nat) (e : va_E) (ks : List Nat) (z : St) : Prop :=
  ∀ h0 sz : Nat, Met l y (Cond.code y cc nL none :: tbl) rm (iniP D cI e h0 sz) (iniQ D cI e h0 sz ks z) mc ms (va_A [(h0, e)] sz)
theorem ai_w : Cond.arrayClass .int ∈ tbl := tbl_at 127 (by decide +kernel) rfl
theorem oi_w : Cond.instanceMethod objectInit ∈ tbl ∧ Cond.code objectInit object_method_1_code 1 none ∈ tbl := ⟨tbl_at 76 (by decide +kernel) rfl, tbl_at 77 (by decide +kernel) rfl⟩
theorem arrV_ext {c : ClassId} {n : Nat} {f g : Nat → Value} (h : ∀ j, j < n → f j = g j) : arrV c n f = arrV c n g := by
  unfold arrV
  congr
  funext j
  exact h j.1 j.2
theorem va_rp {D : va_G} {cl : List vw_C} {ws : va_W} {H : Heap} {q a n : Nat} {c : ClassId} {f g : Nat → Option Nat} (hP : va_P D cl ws H) (hq : ws[q]? = some (a, .inl (c, n, .inr (.inr (.inr (.inr f)))))) (h : ∀ j, j < n → f j = g j) : va_P D cl (ws.set q (a, .inl (c, n, .inr (.inr (.inr (.inr g)))))) H := by
  intro k x hx
  rw [List.getElem?_set] at hx
  split at hx
  · split at hx
    · cases hx
      have h1 : H[a]? = some (arrV c n (fun j => va_rf (f j))) := hP q _ hq
      rw [arrV_ext (g := fun j => va_rf (g j)) (fun j hj => by rw [h j hj])] at h1
      exact h1
    · cases hx
  · exact hP k x hx
def zz : St := fun _ _ => 0
def z_Yar : St := zz
theorem d_Yar_init_0 : decode b_Yar_init 0 = .ok (.aload_n 0, 1) := by decide +kernel
theorem d_Yar_init_1 : decode b_Yar_init 1 = .ok (.invokespecial 3, 3) := by decide +kernel
theorem d_Yar_init_4 : decode b_Yar_init 4 = .ok (.aload_n 0, 1) := by decide +kernel
theorem d_Yar_init_5 : decode b_Yar_init 5 = .ok (.iconst 0, 1) := by decide +kernel
theorem d_Yar_init_6 : decode b_Yar_init 6 = .ok (.putfield 9, 3) := by decide +kernel
theorem d_Yar_init_9 : decode b_Yar_init 9 = .ok (.aload_n 0, 1) := by decide +kernel
theorem d_Yar_init_10 : decode b_Yar_init 10 = .ok (.bipush 12, 2) := by decide +kernel
theorem d_Yar_init_12 : decode b_Yar_init 12 = .ok (.newarray .int, 2) := by decide +kernel
theorem d_Yar_init_14 : decode b_Yar_init 14 = .ok (.putfield 15, 3) := by decide +kernel
theorem d_Yar_init_17 : decode b_Yar_init 17 = .ok (.aload_n 0, 1) := by decide +kernel
theorem d_Yar_init_18 : decode b_Yar_init 18 = .ok (.bipush 12, 2) := by decide +kernel
theorem d_Yar_init_20 : decode b_Yar_init 20 = .ok (.newarray .int, 2) := by decide +kernel
theorem d_Yar_init_22 : decode b_Yar_init 22 = .ok (.putfield 19, 3) := by decide +kernel
theorem d_Yar_init_25 : decode b_Yar_init 25 = .ok (.aload_n 0, 1) := by decide +kernel
theorem d_Yar_init_26 : decode b_Yar_init 26 = .ok (.bipush 12, 2) := by decide +kernel
theorem d_Yar_init_28 : decode b_Yar_init 28 = .ok (.newarray .int, 2) := by decide +kernel
theorem d_Yar_init_30 : decode b_Yar_init 30 = .ok (.putfield 22, 3) := by decide +kernel
theorem d_Yar_init_33 : decode b_Yar_init 33 = .ok (.aload_n 0, 1) := by decide +kernel
theorem d_Yar_init_34 : decode b_Yar_init 34 = .ok (.bipush 12, 2) := by decide +kernel
theorem d_Yar_init_36 : decode b_Yar_init 36 = .ok (.newarray .int, 2) := by decide +kernel
theorem d_Yar_init_38 : decode b_Yar_init 38 = .ok (.putfield 25, 3) := by decide +kernel
theorem d_Yar_init_41 : decode b_Yar_init 41 = .ok (.aload_n 0, 1) := by decide +kernel
theorem d_Yar_init_42 : decode b_Yar_init 42 = .ok (.bipush 12, 2) := by decide +kernel
theorem d_Yar_init_44 : decode b_Yar_init 44 = .ok (.newarray .int, 2) := by decide +kernel
theorem d_Yar_init_46 : decode b_Yar_init 46 = .ok (.putfield 28, 3) := by decide +kernel
theorem d_Yar_init_49 : decode b_Yar_init 49 = .ok (.aload_n 0, 1) := by decide +kernel
theorem d_Yar_init_50 : decode b_Yar_init 50 = .ok (.bipush 12, 2) := by decide +kernel
theorem d_Yar_init_52 : decode b_Yar_init 52 = .ok (.newarray .int, 2) := by decide +kernel
theorem d_Yar_init_54 : decode b_Yar_init 54 = .ok (.putfield 31, 3) := by decide +kernel
theorem d_Yar_init_57 : decode b_Yar_init 57 = .ok (.aload_n 0, 1) := by decide +kernel
theorem d_Yar_init_58 : decode b_Yar_init 58 = .ok (.bipush 12, 2) := by decide +kernel
theorem d_Yar_init_60 : decode b_Yar_init 60 = .ok (.newarray .int, 2) := by decide +kernel
theorem d_Yar_init_62 : decode b_Yar_init 62 = .ok (.putfield 34, 3) := by decide +kernel
theorem d_Yar_init_65 : decode b_Yar_init 65 = .ok (.aload_n 0, 1) := by decide +kernel
theorem d_Yar_init_66 : decode b_Yar_init 66 = .ok (.bipush 12, 2) := by decide +kernel
theorem d_Yar_init_68 : decode b_Yar_init 68 = .ok (.newarray .int, 2) := by decide +kernel
theorem d_Yar_init_70 : decode b_Yar_init 70 = .ok (.putfield 37, 3) := by decide +kernel
theorem d_Yar_init_73 : decode b_Yar_init 73 = .ok (.return_, 1) := by decide +kernel
set_option maxHeartbeats 4000000 in
set_option maxRecDepth 100000 in
theorem c_Yar_init (l : Launch) (D : va_G) (cI : ClassId) : Ini l D cI y_Yar_init b_Yar_init 1 ({ frames := 1, cells := 8, slots := 96, locals := 12 }) 8 96 (.inr (7, [.int 0, .null, .null, .null, .null, .null, .null, .null, .null])) [3, 112, 112, 112, 112, 112, 112, 112, 112] z_Yar := by
  intro h0 sz
  refine Met.ofW (cc := b_Yar_init) (maxL := 1) (ret := none) (by decide) rfl ?_
  intro p e s m args below meth c s₁ B hml hv
  obtain ⟨rfl, hsz, hP, hK, hN, hD0⟩ := hv
  have hx := B.exec
  have hb := B.bytes
  have hr := B.returns
  have hts0 := atoms_spec (ws := Cond.code y_Yar_init b_Yar_init 1 none :: tbl) B.pre
  have hts : ∀ w ∈ tbl, w.before _ s = true := fun w hw => hts0 w (List.mem_cons_of_mem _ hw)
  have hown : s.vm.findClass R_Yar = some m.cls := findClass_of_methodNamed B.named
  have hlocks := B.notSynchronized
  have hin : meth.name = "<init>" := (name_of_methodNamed B.named B.method).1
  subst hsz
  have hD := hD0.self (sz := s.heap.size)
  unfold iniQ
  generalize hAe : va_A [(h0, .inr (7, [.int 0, .null, .null, .null, .null, .null, .null, .null, .null]))] s.heap.size = A at hD ⊢
  have hA : ∀ q : Nat, s.heap.size ≤ q → A q := fun q h => by rw [← hAe]; exact Or.inr h
  have hS : va_S A s.heap s.heap [] := va_S.rf
  have hP : va_P D classes [(h0, .inr (7, [.int 0, .null, .null, .null, .null, .null, .null, .null, .null]))] s.heap := hP
  have hl := lv_entry ([.ref h0]) (n := 1) (Nat.le_of_ble_eq_true rfl)
  rw [lg_entry_eq]
  generalize (lg_sl ([.ref h0]) ++ List.replicate (1 - (lg_sl ([.ref h0])).length) Slot.unset).toArray = ls at hl ⊢
  have hl : lv_has ls 1 [(0, .ref h0)] := hl
  refine lv_aload_n hx hb d_Yar_init_0 rfl (lv_at hl 0 rfl) ?_
  refine W.objInit hx hb hown (hts (.methodLink R_Yar 3 objectInit) (tbl_at 89 (by decide +kernel) rfl)) (hts (.instanceMethod objectInit) oi_w.1) (hts _ oi_w.2) rfl (by rw [hml]; exact hl.1) rfl d_Yar_init_1 (Nat.le_of_ble_eq_true rfl) (Nat.le_of_ble_eq_true rfl) ?_
  refine W.eq (g2 := F0 m 4 ls []) rfl ?_
  refine lv_aload_n hx hb d_Yar_init_4 rfl (lv_at hl 0 rfl) ?_
  refine lv_iconst (v := 0) hx hb d_Yar_init_5 (by decide) ?_
  refine va_put (D := D) (ci := 7) (v := .int 0) (ty := .int) (C := R_Yar) (T := F_Yar) (N := 9) hx hb hts i_Yar t_Yar t_Yar_ok n_Yar hown hK hP hD hS 0 rfl rfl 0 (by decide) (hts (.fieldLink R_Yar 9 "BreatheOut$Yards" "count" "I") (tbl_at 90 (by decide +kernel) rfl)) (fun _ h9 => h9) rfl (by decide +kernel) rfl rfl (Nat.le_of_ble_eq_true rfl) d_Yar_init_6 (fun H locs hP hD hS => ?_)
  have hP : va_P D classes [(h0, .inr (7, [.int 0, .null, .null, .null, .null, .null, .null, .null, .null]))] H := hP
  have hD : va_D A [(h0, .inr (7, [.int 0, .null, .null, .null, .null, .null, .null, .null, .null]))] := hD
  refine lv_aload_n hx hb d_Yar_init_9 rfl (lv_at hl 0 rfl) ?_
  refine lv_bipush (v := 12) hx hb d_Yar_init_10 (by decide) ?_
  have h_0 : 0 + 1 ≤ 8 := by decide
  have i_0 : 0 + 12 ≤ 96 := by decide
  refine va_newa (atype := .int) (N' := 12) (a0 := (12, .inl (fun _ => 0))) hx hb (hts _ ai_w) rfl hK hP hD hS hA (fun _ => rfl) (by decide) (by decide) (by decide) h_0 i_0 d_Yar_init_12 (fun q0 cA H hK2 hP hD hS => ?_)
  obtain rfl : cI = cA := (va_one hK2).symm
  have hP : va_P D classes [(h0, .inr (7, [.int 0, .null, .null, .null, .null, .null, .null, .null, .null])), (q0, .inl (cI, 12, .inl (fun _ => 0)))] H := hP
  have hD : va_D A [(h0, .inr (7, [.int 0, .null, .null, .null, .null, .null, .null, .null, .null])), (q0, .inl (cI, 12, .inl (fun _ => 0)))] := hD
  refine va_putF (D := D) (ci := 7) (v := .ref q0) (ty := .array .int) (C := R_Yar) (T := F_Yar) (N := 9) hx hb hts i_Yar t_Yar t_Yar_ok n_Yar hown hK hP hD hS 0 rfl rfl 1 (by decide) (hts (.fieldLink R_Yar 15 "BreatheOut$Yards" "kind" "[I") (tbl_at 93 (by decide +kernel) rfl)) (fun _ h9 => h9) rfl hin rfl (by decide +kernel) rfl rfl (Nat.le_of_ble_eq_true rfl) d_Yar_init_14 (fun H locs hP hD hS => ?_)
  have hP : va_P D classes [(h0, .inr (7, [.int 0, .ref q0, .null, .null, .null, .null, .null, .null, .null])), (q0, .inl (cI, 12, .inl (fun _ => 0)))] H := hP
  have hD : va_D A [(h0, .inr (7, [.int 0, .ref q0, .null, .null, .null, .null, .null, .null, .null])), (q0, .inl (cI, 12, .inl (fun _ => 0)))] := hD
  refine lv_aload_n hx hb d_Yar_init_17 rfl (lv_at hl 0 rfl) ?_
  refine lv_bipush (v := 12) hx hb d_Yar_init_18 (by decide) ?_
  have h_1 : 1 + 1 ≤ 8 := by decide
  have i_1 : 12 + 12 ≤ 96 := by decide
  refine va_newa (atype := .int) (N' := 12) (a0 := (12, .inl (fun _ => 0))) hx hb (hts _ ai_w) rfl hK hP hD hS hA (fun _ => rfl) (by decide) (by decide) (by decide) h_1 i_1 d_Yar_init_20 (fun q1 cA H hK2 hP hD hS => ?_)
  obtain rfl : cI = cA := (va_one hK2).symm
  have hP : va_P D classes [(h0, .inr (7, [.int 0, .ref q0, .null, .null, .null, .null, .null, .null, .null])), (q0, .inl (cI, 12, .inl (fun _ => 0))), (q1, .inl (cI, 12, .inl (fun _ => 0)))] H := hP
  have hD : va_D A [(h0, .inr (7, [.int 0, .ref q0, .null, .null, .null, .null, .null, .null, .null])), (q0, .inl (cI, 12, .inl (fun _ => 0))), (q1, .inl (cI, 12, .inl (fun _ => 0)))] := hD
  refine va_putF (D := D) (ci := 7) (v := .ref q1) (ty := .array .int) (C := R_Yar) (T := F_Yar) (N := 9) hx hb hts i_Yar t_Yar t_Yar_ok n_Yar hown hK hP hD hS 0 rfl rfl 2 (by decide) (hts (.fieldLink R_Yar 19 "BreatheOut$Yards" "figure" "[I") (tbl_at 95 (by decide +kernel) rfl)) (fun _ h9 => h9) rfl hin rfl (by decide +kernel) rfl rfl (Nat.le_of_ble_eq_true rfl) d_Yar_init_22 (fun H locs hP hD hS => ?_)
  have hP : va_P D classes [(h0, .inr (7, [.int 0, .ref q0, .ref q1, .null, .null, .null, .null, .null, .null])), (q0, .inl (cI, 12, .inl (fun _ => 0))), (q1, .inl (cI, 12, .inl (fun _ => 0)))] H := hP
  have hD : va_D A [(h0, .inr (7, [.int 0, .ref q0, .ref q1, .null, .null, .null, .null, .null, .null])), (q0, .inl (cI, 12, .inl (fun _ => 0))), (q1, .inl (cI, 12, .inl (fun _ => 0)))] := hD
  refine lv_aload_n hx hb d_Yar_init_25 rfl (lv_at hl 0 rfl) ?_
  refine lv_bipush (v := 12) hx hb d_Yar_init_26 (by decide) ?_
  have h_2 : 2 + 1 ≤ 8 := by decide
  have i_2 : 24 + 12 ≤ 96 := by decide
  refine va_newa (atype := .int) (N' := 12) (a0 := (12, .inl (fun _ => 0))) hx hb (hts _ ai_w) rfl hK hP hD hS hA (fun _ => rfl) (by decide) (by decide) (by decide) h_2 i_2 d_Yar_init_28 (fun q2 cA H hK2 hP hD hS => ?_)
  obtain rfl : cI = cA := (va_one hK2).symm
  have hP : va_P D classes [(h0, .inr (7, [.int 0, .ref q0, .ref q1, .null, .null, .null, .null, .null, .null])), (q0, .inl (cI, 12, .inl (fun _ => 0))), (q1, .inl (cI, 12, .inl (fun _ => 0))), (q2, .inl (cI, 12, .inl (fun _ => 0)))] H := hP
  have hD : va_D A [(h0, .inr (7, [.int 0, .ref q0, .ref q1, .null, .null, .null, .null, .null, .null])), (q0, .inl (cI, 12, .inl (fun _ => 0))), (q1, .inl (cI, 12, .inl (fun _ => 0))), (q2, .inl (cI, 12, .inl (fun _ => 0)))] := hD
  refine va_putF (D := D) (ci := 7) (v := .ref q2) (ty := .array .int) (C := R_Yar) (T := F_Yar) (N := 9) hx hb hts i_Yar t_Yar t_Yar_ok n_Yar hown hK hP hD hS 0 rfl rfl 3 (by decide) (hts (.fieldLink R_Yar 22 "BreatheOut$Yards" "width" "[I") (tbl_at 97 (by decide +kernel) rfl)) (fun _ h9 => h9) rfl hin rfl (by decide +kernel) rfl rfl (Nat.le_of_ble_eq_true rfl) d_Yar_init_30 (fun H locs hP hD hS => ?_)
  have hP : va_P D classes [(h0, .inr (7, [.int 0, .ref q0, .ref q1, .ref q2, .null, .null, .null, .null, .null])), (q0, .inl (cI, 12, .inl (fun _ => 0))), (q1, .inl (cI, 12, .inl (fun _ => 0))), (q2, .inl (cI, 12, .inl (fun _ => 0)))] H := hP
  have hD : va_D A [(h0, .inr (7, [.int 0, .ref q0, .ref q1, .ref q2, .null, .null, .null, .null, .null])), (q0, .inl (cI, 12, .inl (fun _ => 0))), (q1, .inl (cI, 12, .inl (fun _ => 0))), (q2, .inl (cI, 12, .inl (fun _ => 0)))] := hD
  refine lv_aload_n hx hb d_Yar_init_33 rfl (lv_at hl 0 rfl) ?_
  refine lv_bipush (v := 12) hx hb d_Yar_init_34 (by decide) ?_
  have h_3 : 3 + 1 ≤ 8 := by decide
  have i_3 : 36 + 12 ≤ 96 := by decide
  refine va_newa (atype := .int) (N' := 12) (a0 := (12, .inl (fun _ => 0))) hx hb (hts _ ai_w) rfl hK hP hD hS hA (fun _ => rfl) (by decide) (by decide) (by decide) h_3 i_3 d_Yar_init_36 (fun q3 cA H hK2 hP hD hS => ?_)
  obtain rfl : cI = cA := (va_one hK2).symm
  have hP : va_P D classes [(h0, .inr (7, [.int 0, .ref q0, .ref q1, .ref q2, .null, .null, .null, .null, .null])), (q0, .inl (cI, 12, .inl (fun _ => 0))), (q1, .inl (cI, 12, .inl (fun _ => 0))), (q2, .inl (cI, 12, .inl (fun _ => 0))), (q3, .inl (cI, 12, .inl (fun _ => 0)))] H := hP
  have hD : va_D A [(h0, .inr (7, [.int 0, .ref q0, .ref q1, .ref q2, .null, .null, .null, .null, .null])), (q0, .inl (cI, 12, .inl (fun _ => 0))), (q1, .inl (cI, 12, .inl (fun _ => 0))), (q2, .inl (cI, 12, .inl (fun _ => 0))), (q3, .inl (cI, 12, .inl (fun _ => 0)))] := hD
  refine va_putF (D := D) (ci := 7) (v := .ref q3) (ty := .array .int) (C := R_Yar) (T := F_Yar) (N := 9) hx hb hts i_Yar t_Yar t_Yar_ok n_Yar hown hK hP hD hS 0 rfl rfl 4 (by decide) (hts (.fieldLink R_Yar 25 "BreatheOut$Yards" "dryRoom" "[I") (tbl_at 99 (by decide +kernel) rfl)) (fun _ h9 => h9) rfl hin rfl (by decide +kernel) rfl rfl (Nat.le_of_ble_eq_true rfl) d_Yar_init_38 (fun H locs hP hD hS => ?_)
  have hP : va_P D classes [(h0, .inr (7, [.int 0, .ref q0, .ref q1, .ref q2, .ref q3, .null, .null, .null, .null])), (q0, .inl (cI, 12, .inl (fun _ => 0))), (q1, .inl (cI, 12, .inl (fun _ => 0))), (q2, .inl (cI, 12, .inl (fun _ => 0))), (q3, .inl (cI, 12, .inl (fun _ => 0)))] H := hP
  have hD : va_D A [(h0, .inr (7, [.int 0, .ref q0, .ref q1, .ref q2, .ref q3, .null, .null, .null, .null])), (q0, .inl (cI, 12, .inl (fun _ => 0))), (q1, .inl (cI, 12, .inl (fun _ => 0))), (q2, .inl (cI, 12, .inl (fun _ => 0))), (q3, .inl (cI, 12, .inl (fun _ => 0)))] := hD
  refine lv_aload_n hx hb d_Yar_init_41 rfl (lv_at hl 0 rfl) ?_
  refine lv_bipush (v := 12) hx hb d_Yar_init_42 (by decide) ?_
  have h_4 : 4 + 1 ≤ 8 := by decide
  have i_4 : 48 + 12 ≤ 96 := by decide
  refine va_newa (atype := .int) (N' := 12) (a0 := (12, .inl (fun _ => 0))) hx hb (hts _ ai_w) rfl hK hP hD hS hA (fun _ => rfl) (by decide) (by decide) (by decide) h_4 i_4 d_Yar_init_44 (fun q4 cA H hK2 hP hD hS => ?_)
  obtain rfl : cI = cA := (va_one hK2).symm
  have hP : va_P D classes [(h0, .inr (7, [.int 0, .ref q0, .ref q1, .ref q2, .ref q3, .null, .null, .null, .null])), (q0, .inl (cI, 12, .inl (fun _ => 0))), (q1, .inl (cI, 12, .inl (fun _ => 0))), (q2, .inl (cI, 12, .inl (fun _ => 0))), (q3, .inl (cI, 12, .inl (fun _ => 0))), (q4, .inl (cI, 12, .inl (fun _ => 0)))] H := hP
  have hD : va_D A [(h0, .inr (7, [.int 0, .ref q0, .ref q1, .ref q2, .ref q3, .null, .null, .null, .null])), (q0, .inl (cI, 12, .inl (fun _ => 0))), (q1, .inl (cI, 12, .inl (fun _ => 0))), (q2, .inl (cI, 12, .inl (fun _ => 0))), (q3, .inl (cI, 12, .inl (fun _ => 0))), (q4, .inl (cI, 12, .inl (fun _ => 0)))] := hD
  refine va_putF (D := D) (ci := 7) (v := .ref q4) (ty := .array .int) (C := R_Yar) (T := F_Yar) (N := 9) hx hb hts i_Yar t_Yar t_Yar_ok n_Yar hown hK hP hD hS 0 rfl rfl 5 (by decide) (hts (.fieldLink R_Yar 28 "BreatheOut$Yards" "minutesThere" "[I") (tbl_at 100 (by decide +kernel) rfl)) (fun _ h9 => h9) rfl hin rfl (by decide +kernel) rfl rfl (Nat.le_of_ble_eq_true rfl) d_Yar_init_46 (fun H locs hP hD hS => ?_)
  have hP : va_P D classes [(h0, .inr (7, [.int 0, .ref q0, .ref q1, .ref q2, .ref q3, .ref q4, .null, .null, .null])), (q0, .inl (cI, 12, .inl (fun _ => 0))), (q1, .inl (cI, 12, .inl (fun _ => 0))), (q2, .inl (cI, 12, .inl (fun _ => 0))), (q3, .inl (cI, 12, .inl (fun _ => 0))), (q4, .inl (cI, 12, .inl (fun _ => 0)))] H := hP
  have hD : va_D A [(h0, .inr (7, [.int 0, .ref q0, .ref q1, .ref q2, .ref q3, .ref q4, .null, .null, .null])), (q0, .inl (cI, 12, .inl (fun _ => 0))), (q1, .inl (cI, 12, .inl (fun _ => 0))), (q2, .inl (cI, 12, .inl (fun _ => 0))), (q3, .inl (cI, 12, .inl (fun _ => 0))), (q4, .inl (cI, 12, .inl (fun _ => 0)))] := hD
  refine lv_aload_n hx hb d_Yar_init_49 rfl (lv_at hl 0 rfl) ?_
  refine lv_bipush (v := 12) hx hb d_Yar_init_50 (by decide) ?_
  have h_5 : 5 + 1 ≤ 8 := by decide
  have i_5 : 60 + 12 ≤ 96 := by decide
  refine va_newa (atype := .int) (N' := 12) (a0 := (12, .inl (fun _ => 0))) hx hb (hts _ ai_w) rfl hK hP hD hS hA (fun _ => rfl) (by decide) (by decide) (by decide) h_5 i_5 d_Yar_init_52 (fun q5 cA H hK2 hP hD hS => ?_)
  obtain rfl : cI = cA := (va_one hK2).symm
  have hP : va_P D classes [(h0, .inr (7, [.int 0, .ref q0, .ref q1, .ref q2, .ref q3, .ref q4, .null, .null, .null])), (q0, .inl (cI, 12, .inl (fun _ => 0))), (q1, .inl (cI, 12, .inl (fun _ => 0))), (q2, .inl (cI, 12, .inl (fun _ => 0))), (q3, .inl (cI, 12, .inl (fun _ => 0))), (q4, .inl (cI, 12, .inl (fun _ => 0))), (q5, .inl (cI, 12, .inl (fun _ => 0)))] H := hP
  have hD : va_D A [(h0, .inr (7, [.int 0, .ref q0, .ref q1, .ref q2, .ref q3, .ref q4, .null, .null, .null])), (q0, .inl (cI, 12, .inl (fun _ => 0))), (q1, .inl (cI, 12, .inl (fun _ => 0))), (q2, .inl (cI, 12, .inl (fun _ => 0))), (q3, .inl (cI, 12, .inl (fun _ => 0))), (q4, .inl (cI, 12, .inl (fun _ => 0))), (q5, .inl (cI, 12, .inl (fun _ => 0)))] := hD
  refine va_putF (D := D) (ci := 7) (v := .ref q5) (ty := .array .int) (C := R_Yar) (T := F_Yar) (N := 9) hx hb hts i_Yar t_Yar t_Yar_ok n_Yar hown hK hP hD hS 0 rfl rfl 6 (by decide) (hts (.fieldLink R_Yar 31 "BreatheOut$Yards" "minutesBack" "[I") (tbl_at 103 (by decide +kernel) rfl)) (fun _ h9 => h9) rfl hin rfl (by decide +kernel) rfl rfl (Nat.le_of_ble_eq_true rfl) d_Yar_init_54 (fun H locs hP hD hS => ?_)
  have hP : va_P D classes [(h0, .inr (7, [.int 0, .ref q0, .ref q1, .ref q2, .ref q3, .ref q4, .ref q5, .null, .null])), (q0, .inl (cI, 12, .inl (fun _ => 0))), (q1, .inl (cI, 12, .inl (fun _ => 0))), (q2, .inl (cI, 12, .inl (fun _ => 0))), (q3, .inl (cI, 12, .inl (fun _ => 0))), (q4, .inl (cI, 12, .inl (fun _ => 0))), (q5, .inl (cI, 12, .inl (fun _ => 0)))] H := hP
  have hD : va_D A [(h0, .inr (7, [.int 0, .ref q0, .ref q1, .ref q2, .ref q3, .ref q4, .ref q5, .null, .null])), (q0, .inl (cI, 12, .inl (fun _ => 0))), (q1, .inl (cI, 12, .inl (fun _ => 0))), (q2, .inl (cI, 12, .inl (fun _ => 0))), (q3, .inl (cI, 12, .inl (fun _ => 0))), (q4, .inl (cI, 12, .inl (fun _ => 0))), (q5, .inl (cI, 12, .inl (fun _ => 0)))] := hD
  refine lv_aload_n hx hb d_Yar_init_57 rfl (lv_at hl 0 rfl) ?_
  refine lv_bipush (v := 12) hx hb d_Yar_init_58 (by decide) ?_
  have h_6 : 6 + 1 ≤ 8 := by decide
  have i_6 : 72 + 12 ≤ 96 := by decide
  refine va_newa (atype := .int) (N' := 12) (a0 := (12, .inl (fun _ => 0))) hx hb (hts _ ai_w) rfl hK hP hD hS hA (fun _ => rfl) (by decide) (by decide) (by decide) h_6 i_6 d_Yar_init_60 (fun q6 cA H hK2 hP hD hS => ?_)
  obtain rfl : cI = cA := (va_one hK2).symm
  have hP : va_P D classes [(h0, .inr (7, [.int 0, .ref q0, .ref q1, .ref q2, .ref q3, .ref q4, .ref q5, .null, .null])), (q0, .inl (cI, 12, .inl (fun _ => 0))), (q1, .inl (cI, 12, .inl (fun _ => 0))), (q2, .inl (cI, 12, .inl (fun _ => 0))), (q3, .inl (cI, 12, .inl (fun _ => 0))), (q4, .inl (cI, 12, .inl (fun _ => 0))), (q5, .inl (cI, 12, .inl (fun _ => 0))), (q6, .inl (cI, 12, .inl (fun _ => 0)))] H := hP
  have hD : va_D A [(h0, .inr (7, [.int 0, .ref q0, .ref q1, .ref q2, .ref q3, .ref q4, .ref q5, .null, .null])), (q0, .inl (cI, 12, .inl (fun _ => 0))), (q1, .inl (cI, 12, .inl (fun _ => 0))), (q2, .inl (cI, 12, .inl (fun _ => 0))), (q3, .inl (cI, 12, .inl (fun _ => 0))), (q4, .inl (cI, 12, .inl (fun _ => 0))), (q5, .inl (cI, 12, .inl (fun _ => 0))), (q6, .inl (cI, 12, .inl (fun _ => 0)))] := hD
  refine va_putF (D := D) (ci := 7) (v := .ref q6) (ty := .array .int) (C := R_Yar) (T := F_Yar) (N := 9) hx hb hts i_Yar t_Yar t_Yar_ok n_Yar hown hK hP hD hS 0 rfl rfl 7 (by decide) (hts (.fieldLink R_Yar 34 "BreatheOut$Yards" "moreHeadFirst" "[I") (tbl_at 106 (by decide +kernel) rfl)) (fun _ h9 => h9) rfl hin rfl (by decide +kernel) rfl rfl (Nat.le_of_ble_eq_true rfl) d_Yar_init_62 (fun H locs hP hD hS => ?_)
  have hP : va_P D classes [(h0, .inr (7, [.int 0, .ref q0, .ref q1, .ref q2, .ref q3, .ref q4, .ref q5, .ref q6, .null])), (q0, .inl (cI, 12, .inl (fun _ => 0))), (q1, .inl (cI, 12, .inl (fun _ => 0))), (q2, .inl (cI, 12, .inl (fun _ => 0))), (q3, .inl (cI, 12, .inl (fun _ => 0))), (q4, .inl (cI, 12, .inl (fun _ => 0))), (q5, .inl (cI, 12, .inl (fun _ => 0))), (q6, .inl (cI, 12, .inl (fun _ => 0)))] H := hP
  have hD : va_D A [(h0, .inr (7, [.int 0, .ref q0, .ref q1, .ref q2, .ref q3, .ref q4, .ref q5, .ref q6, .null])), (q0, .inl (cI, 12, .inl (fun _ => 0))), (q1, .inl (cI, 12, .inl (fun _ => 0))), (q2, .inl (cI, 12, .inl (fun _ => 0))), (q3, .inl (cI, 12, .inl (fun _ => 0))), (q4, .inl (cI, 12, .inl (fun _ => 0))), (q5, .inl (cI, 12, .inl (fun _ => 0))), (q6, .inl (cI, 12, .inl (fun _ => 0)))] := hD
  refine lv_aload_n hx hb d_Yar_init_65 rfl (lv_at hl 0 rfl) ?_
  refine lv_bipush (v := 12) hx hb d_Yar_init_66 (by decide) ?_
  have h_7 : 7 + 1 ≤ 8 := by decide
  have i_7 : 84 + 12 ≤ 96 := by decide
  refine va_newa (atype := .int) (N' := 12) (a0 := (12, .inl (fun _ => 0))) hx hb (hts _ ai_w) rfl hK hP hD hS hA (fun _ => rfl) (by decide) (by decide) (by decide) h_7 i_7 d_Yar_init_68 (fun q7 cA H hK2 hP hD hS => ?_)
  obtain rfl : cI = cA := (va_one hK2).symm
  have hP : va_P D classes [(h0, .inr (7, [.int 0, .ref q0, .ref q1, .ref q2, .ref q3, .ref q4, .ref q5, .ref q6, .null])), (q0, .inl (cI, 12, .inl (fun _ => 0))), (q1, .inl (cI, 12, .inl (fun _ => 0))), (q2, .inl (cI, 12, .inl (fun _ => 0))), (q3, .inl (cI, 12, .inl (fun _ => 0))), (q4, .inl (cI, 12, .inl (fun _ => 0))), (q5, .inl (cI, 12, .inl (fun _ => 0))), (q6, .inl (cI, 12, .inl (fun _ => 0))), (q7, .inl (cI, 12, .inl (fun _ => 0)))] H := hP
  have hD : va_D A [(h0, .inr (7, [.int 0, .ref q0, .ref q1, .ref q2, .ref q3, .ref q4, .ref q5, .ref q6, .null])), (q0, .inl (cI, 12, .inl (fun _ => 0))), (q1, .inl (cI, 12, .inl (fun _ => 0))), (q2, .inl (cI, 12, .inl (fun _ => 0))), (q3, .inl (cI, 12, .inl (fun _ => 0))), (q4, .inl (cI, 12, .inl (fun _ => 0))), (q5, .inl (cI, 12, .inl (fun _ => 0))), (q6, .inl (cI, 12, .inl (fun _ => 0))), (q7, .inl (cI, 12, .inl (fun _ => 0)))] := hD
  refine va_putF (D := D) (ci := 7) (v := .ref q7) (ty := .array .int) (C := R_Yar) (T := F_Yar) (N := 9) hx hb hts i_Yar t_Yar t_Yar_ok n_Yar hown hK hP hD hS 0 rfl rfl 8 (by decide) (hts (.fieldLink R_Yar 37 "BreatheOut$Yards" "moreFeetFirst" "[I") (tbl_at 107 (by decide +kernel) rfl)) (fun _ h9 => h9) rfl hin rfl (by decide +kernel) rfl rfl (Nat.le_of_ble_eq_true rfl) d_Yar_init_70 (fun H locs hP hD hS => ?_)
  have hP : va_P D classes [(h0, .inr (7, [.int 0, .ref q0, .ref q1, .ref q2, .ref q3, .ref q4, .ref q5, .ref q6, .ref q7])), (q0, .inl (cI, 12, .inl (fun _ => 0))), (q1, .inl (cI, 12, .inl (fun _ => 0))), (q2, .inl (cI, 12, .inl (fun _ => 0))), (q3, .inl (cI, 12, .inl (fun _ => 0))), (q4, .inl (cI, 12, .inl (fun _ => 0))), (q5, .inl (cI, 12, .inl (fun _ => 0))), (q6, .inl (cI, 12, .inl (fun _ => 0))), (q7, .inl (cI, 12, .inl (fun _ => 0)))] H := hP
  have hD : va_D A [(h0, .inr (7, [.int 0, .ref q0, .ref q1, .ref q2, .ref q3, .ref q4, .ref q5, .ref q6, .ref q7])), (q0, .inl (cI, 12, .inl (fun _ => 0))), (q1, .inl (cI, 12, .inl (fun _ => 0))), (q2, .inl (cI, 12, .inl (fun _ => 0))), (q3, .inl (cI, 12, .inl (fun _ => 0))), (q4, .inl (cI, 12, .inl (fun _ => 0))), (q5, .inl (cI, 12, .inl (fun _ => 0))), (q6, .inl (cI, 12, .inl (fun _ => 0))), (q7, .inl (cI, 12, .inl (fun _ => 0)))] := hD
  have hP9 : va_P D classes (sg cI 0 (fun j => if j < 1 then h0 else if j < 2 then q0 else if j < 3 then q1 else if j < 4 then q2 else if j < 5 then q3 else if j < 6 then q4 else if j < 7 then q5 else if j < 8 then q6 else if j < 9 then q7 else 0) z_Yar 0 [3, 112, 112, 112, 112, 112, 112, 112, 112]) H := hP
  have hD9 : va_D A (sg cI 0 (fun j => if j < 1 then h0 else if j < 2 then q0 else if j < 3 then q1 else if j < 4 then q2 else if j < 5 then q3 else if j < 6 then q4 else if j < 7 then q5 else if j < 8 then q6 else if j < 9 then q7 else 0) z_Yar 0 [3, 112, 112, 112, 112, 112, 112, 112, 112]) := hD
  exact W.vret hx hb hr (fun t ht hW => ⟨⟨(fun j => if j < 1 then h0 else if j < 2 then q0 else if j < 3 then q1 else if j < 4 then q2 else if j < 5 then q3 else if j < 6 then q4 else if j < 7 then q5 else if j < 8 then q6 else if j < 9 then q7 else 0, 0), rfl, rfl, by rw [ht]; exact hP9, hD9, (fun h => absurd h (by decide))⟩, hS.F ht⟩) hS.2.2 d_Yar_init_73
def z_Bod : St := zz
theorem d_Bod_init_0 : decode b_Bod_init 0 = .ok (.aload_n 0, 1) := by decide +kernel
theorem d_Bod_init_1 : decode b_Bod_init 1 = .ok (.invokespecial 3, 3) := by decide +kernel
theorem d_Bod_init_4 : decode b_Bod_init 4 = .ok (.aload_n 0, 1) := by decide +kernel
theorem d_Bod_init_5 : decode b_Bod_init 5 = .ok (.iconst 0, 1) := by decide +kernel
theorem d_Bod_init_6 : decode b_Bod_init 6 = .ok (.putfield 9, 3) := by decide +kernel
theorem d_Bod_init_9 : decode b_Bod_init 9 = .ok (.aload_n 0, 1) := by decide +kernel
theorem d_Bod_init_10 : decode b_Bod_init 10 = .ok (.bipush 6, 2) := by decide +kernel
theorem d_Bod_init_12 : decode b_Bod_init 12 = .ok (.newarray .int, 2) := by decide +kernel
theorem d_Bod_init_14 : decode b_Bod_init 14 = .ok (.putfield 15, 3) := by decide +kernel
theorem d_Bod_init_17 : decode b_Bod_init 17 = .ok (.aload_n 0, 1) := by decide +kernel
theorem d_Bod_init_18 : decode b_Bod_init 18 = .ok (.bipush 6, 2) := by decide +kernel
theorem d_Bod_init_20 : decode b_Bod_init 20 = .ok (.newarray .int, 2) := by decide +kernel
theorem d_Bod_init_22 : decode b_Bod_init 22 = .ok (.putfield 19, 3) := by decide +kernel
theorem d_Bod_init_25 : decode b_Bod_init 25 = .ok (.aload_n 0, 1) := by decide +kernel
theorem d_Bod_init_26 : decode b_Bod_init 26 = .ok (.bipush 6, 2) := by decide +kernel
theorem d_Bod_init_28 : decode b_Bod_init 28 = .ok (.newarray .int, 2) := by decide +kernel
theorem d_Bod_init_30 : decode b_Bod_init 30 = .ok (.putfield 22, 3) := by decide +kernel
theorem d_Bod_init_33 : decode b_Bod_init 33 = .ok (.aload_n 0, 1) := by decide +kernel
theorem d_Bod_init_34 : decode b_Bod_init 34 = .ok (.bipush 6, 2) := by decide +kernel
theorem d_Bod_init_36 : decode b_Bod_init 36 = .ok (.newarray .int, 2) := by decide +kernel
theorem d_Bod_init_38 : decode b_Bod_init 38 = .ok (.putfield 25, 3) := by decide +kernel
theorem d_Bod_init_41 : decode b_Bod_init 41 = .ok (.aload_n 0, 1) := by decide +kernel
theorem d_Bod_init_42 : decode b_Bod_init 42 = .ok (.bipush 6, 2) := by decide +kernel
theorem d_Bod_init_44 : decode b_Bod_init 44 = .ok (.newarray .int, 2) := by decide +kernel
theorem d_Bod_init_46 : decode b_Bod_init 46 = .ok (.putfield 28, 3) := by decide +kernel
theorem d_Bod_init_49 : decode b_Bod_init 49 = .ok (.aload_n 0, 1) := by decide +kernel
theorem d_Bod_init_50 : decode b_Bod_init 50 = .ok (.bipush 6, 2) := by decide +kernel
theorem d_Bod_init_52 : decode b_Bod_init 52 = .ok (.newarray .int, 2) := by decide +kernel
theorem d_Bod_init_54 : decode b_Bod_init 54 = .ok (.putfield 31, 3) := by decide +kernel
theorem d_Bod_init_57 : decode b_Bod_init 57 = .ok (.return_, 1) := by decide +kernel
set_option maxHeartbeats 4000000 in
set_option maxRecDepth 100000 in
theorem c_Bod_init (l : Launch) (D : va_G) (cI : ClassId) : Ini l D cI y_Bod_init b_Bod_init 1 ({ frames := 1, cells := 6, slots := 36, locals := 12 }) 6 36 (.inr (1, [.int 0, .null, .null, .null, .null, .null, .null])) [4, 106, 106, 106, 106, 106, 106] z_Bod := by
  intro h0 sz
  refine Met.ofW (cc := b_Bod_init) (maxL := 1) (ret := none) (by decide) rfl ?_
  intro p e s m args below meth c s₁ B hml hv
  obtain ⟨rfl, hsz, hP, hK, hN, hD0⟩ := hv
  have hx := B.exec
  have hb := B.bytes
  have hr := B.returns
  have hts0 := atoms_spec (ws := Cond.code y_Bod_init b_Bod_init 1 none :: tbl) B.pre
  have hts : ∀ w ∈ tbl, w.before _ s = true := fun w hw => hts0 w (List.mem_cons_of_mem _ hw)
  have hown : s.vm.findClass R_Bod = some m.cls := findClass_of_methodNamed B.named
  have hlocks := B.notSynchronized
  have hin : meth.name = "<init>" := (name_of_methodNamed B.named B.method).1
  subst hsz
  have hD := hD0.self (sz := s.heap.size)
  unfold iniQ
  generalize hAe : va_A [(h0, .inr (1, [.int 0, .null, .null, .null, .null, .null, .null]))] s.heap.size = A at hD ⊢
  have hA : ∀ q : Nat, s.heap.size ≤ q → A q := fun q h => by rw [← hAe]; exact Or.inr h
  have hS : va_S A s.heap s.heap [] := va_S.rf
  have hP : va_P D classes [(h0, .inr (1, [.int 0, .null, .null, .null, .null, .null, .null]))] s.heap := hP
  have hl := lv_entry ([.ref h0]) (n := 1) (Nat.le_of_ble_eq_true rfl)
  rw [lg_entry_eq]
  generalize (lg_sl ([.ref h0]) ++ List.replicate (1 - (lg_sl ([.ref h0])).length) Slot.unset).toArray = ls at hl ⊢
  have hl : lv_has ls 1 [(0, .ref h0)] := hl
  refine lv_aload_n hx hb d_Bod_init_0 rfl (lv_at hl 0 rfl) ?_
  refine W.objInit hx hb hown (hts (.methodLink R_Bod 3 objectInit) (tbl_at 133 (by decide +kernel) rfl)) (hts (.instanceMethod objectInit) oi_w.1) (hts _ oi_w.2) rfl (by rw [hml]; exact hl.1) rfl d_Bod_init_1 (Nat.le_of_ble_eq_true rfl) (Nat.le_of_ble_eq_true rfl) ?_
  refine W.eq (g2 := F0 m 4 ls []) rfl ?_
  refine lv_aload_n hx hb d_Bod_init_4 rfl (lv_at hl 0 rfl) ?_
  refine lv_iconst (v := 0) hx hb d_Bod_init_5 (by decide) ?_
  refine va_put (D := D) (ci := 1) (v := .int 0) (ty := .int) (C := R_Bod) (T := F_Bod) (N := 7) hx hb hts i_Bod t_Bod t_Bod_ok n_Bod hown hK hP hD hS 0 rfl rfl 0 (by decide) (hts (.fieldLink R_Bod 9 "BreatheOut$Bodies" "count" "I") (tbl_at 134 (by decide +kernel) rfl)) (fun _ h9 => h9) rfl (by decide +kernel) rfl rfl (Nat.le_of_ble_eq_true rfl) d_Bod_init_6 (fun H locs hP hD hS => ?_)
  have hP : va_P D classes [(h0, .inr (1, [.int 0, .null, .null, .null, .null, .null, .null]))] H := hP
  have hD : va_D A [(h0, .inr (1, [.int 0, .null, .null, .null, .null, .null, .null]))] := hD
  refine lv_aload_n hx hb d_Bod_init_9 rfl (lv_at hl 0 rfl) ?_
  refine lv_bipush (v := 6) hx hb d_Bod_init_10 (by decide) ?_
  have h_0 : 0 + 1 ≤ 6 := by decide
  have i_0 : 0 + 6 ≤ 36 := by decide
  refine va_newa (atype := .int) (N' := 6) (a0 := (6, .inl (fun _ => 0))) hx hb (hts _ ai_w) rfl hK hP hD hS hA (fun _ => rfl) (by decide) (by decide) (by decide) h_0 i_0 d_Bod_init_12 (fun q0 cA H hK2 hP hD hS => ?_)
  obtain rfl : cI = cA := (va_one hK2).symm
  have hP : va_P D classes [(h0, .inr (1, [.int 0, .null, .null, .null, .null, .null, .null])), (q0, .inl (cI, 6, .inl (fun _ => 0)))] H := hP
  have hD : va_D A [(h0, .inr (1, [.int 0, .null, .null, .null, .null, .null, .null])), (q0, .inl (cI, 6, .inl (fun _ => 0)))] := hD
  refine va_putF (D := D) (ci := 1) (v := .ref q0) (ty := .array .int) (C := R_Bod) (T := F_Bod) (N := 7) hx hb hts i_Bod t_Bod t_Bod_ok n_Bod hown hK hP hD hS 0 rfl rfl 1 (by decide) (hts (.fieldLink R_Bod 15 "BreatheOut$Bodies" "chest" "[I") (tbl_at 137 (by decide +kernel) rfl)) (fun _ h9 => h9) rfl hin rfl (by decide +kernel) rfl rfl (Nat.le_of_ble_eq_true rfl) d_Bod_init_14 (fun H locs hP hD hS => ?_)
  have hP : va_P D classes [(h0, .inr (1, [.int 0, .ref q0, .null, .null, .null, .null, .null])), (q0, .inl (cI, 6, .inl (fun _ => 0)))] H := hP
  have hD : va_D A [(h0, .inr (1, [.int 0, .ref q0, .null, .null, .null, .null, .null])), (q0, .inl (cI, 6, .inl (fun _ => 0)))] := hD
  refine lv_aload_n hx hb d_Bod_init_17 rfl (lv_at hl 0 rfl) ?_
  refine lv_bipush (v := 6) hx hb d_Bod_init_18 (by decide) ?_
  have h_1 : 1 + 1 ≤ 6 := by decide
  have i_1 : 6 + 6 ≤ 36 := by decide
  refine va_newa (atype := .int) (N' := 6) (a0 := (6, .inl (fun _ => 0))) hx hb (hts _ ai_w) rfl hK hP hD hS hA (fun _ => rfl) (by decide) (by decide) (by decide) h_1 i_1 d_Bod_init_20 (fun q1 cA H hK2 hP hD hS => ?_)
  obtain rfl : cI = cA := (va_one hK2).symm
  have hP : va_P D classes [(h0, .inr (1, [.int 0, .ref q0, .null, .null, .null, .null, .null])), (q0, .inl (cI, 6, .inl (fun _ => 0))), (q1, .inl (cI, 6, .inl (fun _ => 0)))] H := hP
  have hD : va_D A [(h0, .inr (1, [.int 0, .ref q0, .null, .null, .null, .null, .null])), (q0, .inl (cI, 6, .inl (fun _ => 0))), (q1, .inl (cI, 6, .inl (fun _ => 0)))] := hD
  refine va_putF (D := D) (ci := 1) (v := .ref q1) (ty := .array .int) (C := R_Bod) (T := F_Bod) (N := 7) hx hb hts i_Bod t_Bod t_Bod_ok n_Bod hown hK hP hD hS 0 rfl rfl 2 (by decide) (hts (.fieldLink R_Bod 19 "BreatheOut$Bodies" "out" "[I") (tbl_at 139 (by decide +kernel) rfl)) (fun _ h9 => h9) rfl hin rfl (by decide +kernel) rfl rfl (Nat.le_of_ble_eq_true rfl) d_Bod_init_22 (fun H locs hP hD hS => ?_)
  have hP : va_P D classes [(h0, .inr (1, [.int 0, .ref q0, .ref q1, .null, .null, .null, .null])), (q0, .inl (cI, 6, .inl (fun _ => 0))), (q1, .inl (cI, 6, .inl (fun _ => 0)))] H := hP
  have hD : va_D A [(h0, .inr (1, [.int 0, .ref q0, .ref q1, .null, .null, .null, .null])), (q0, .inl (cI, 6, .inl (fun _ => 0))), (q1, .inl (cI, 6, .inl (fun _ => 0)))] := hD
  refine lv_aload_n hx hb d_Bod_init_25 rfl (lv_at hl 0 rfl) ?_
  refine lv_bipush (v := 6) hx hb d_Bod_init_26 (by decide) ?_
  have h_2 : 2 + 1 ≤ 6 := by decide
  have i_2 : 12 + 6 ≤ 36 := by decide
  refine va_newa (atype := .int) (N' := 6) (a0 := (6, .inl (fun _ => 0))) hx hb (hts _ ai_w) rfl hK hP hD hS hA (fun _ => rfl) (by decide) (by decide) (by decide) h_2 i_2 d_Bod_init_28 (fun q2 cA H hK2 hP hD hS => ?_)
  obtain rfl : cI = cA := (va_one hK2).symm
  have hP : va_P D classes [(h0, .inr (1, [.int 0, .ref q0, .ref q1, .null, .null, .null, .null])), (q0, .inl (cI, 6, .inl (fun _ => 0))), (q1, .inl (cI, 6, .inl (fun _ => 0))), (q2, .inl (cI, 6, .inl (fun _ => 0)))] H := hP
  have hD : va_D A [(h0, .inr (1, [.int 0, .ref q0, .ref q1, .null, .null, .null, .null])), (q0, .inl (cI, 6, .inl (fun _ => 0))), (q1, .inl (cI, 6, .inl (fun _ => 0))), (q2, .inl (cI, 6, .inl (fun _ => 0)))] := hD
  refine va_putF (D := D) (ci := 1) (v := .ref q2) (ty := .array .int) (C := R_Bod) (T := F_Bod) (N := 7) hx hb hts i_Bod t_Bod t_Bod_ok n_Bod hown hK hP hD hS 0 rfl rfl 3 (by decide) (hts (.fieldLink R_Bod 22 "BreatheOut$Bodies" "fear" "[I") (tbl_at 143 (by decide +kernel) rfl)) (fun _ h9 => h9) rfl hin rfl (by decide +kernel) rfl rfl (Nat.le_of_ble_eq_true rfl) d_Bod_init_30 (fun H locs hP hD hS => ?_)
  have hP : va_P D classes [(h0, .inr (1, [.int 0, .ref q0, .ref q1, .ref q2, .null, .null, .null])), (q0, .inl (cI, 6, .inl (fun _ => 0))), (q1, .inl (cI, 6, .inl (fun _ => 0))), (q2, .inl (cI, 6, .inl (fun _ => 0)))] H := hP
  have hD : va_D A [(h0, .inr (1, [.int 0, .ref q0, .ref q1, .ref q2, .null, .null, .null])), (q0, .inl (cI, 6, .inl (fun _ => 0))), (q1, .inl (cI, 6, .inl (fun _ => 0))), (q2, .inl (cI, 6, .inl (fun _ => 0)))] := hD
  refine lv_aload_n hx hb d_Bod_init_33 rfl (lv_at hl 0 rfl) ?_
  refine lv_bipush (v := 6) hx hb d_Bod_init_34 (by decide) ?_
  have h_3 : 3 + 1 ≤ 6 := by decide
  have i_3 : 18 + 6 ≤ 36 := by decide
  refine va_newa (atype := .int) (N' := 6) (a0 := (6, .inl (fun _ => 0))) hx hb (hts _ ai_w) rfl hK hP hD hS hA (fun _ => rfl) (by decide) (by decide) (by decide) h_3 i_3 d_Bod_init_36 (fun q3 cA H hK2 hP hD hS => ?_)
  obtain rfl : cI = cA := (va_one hK2).symm
  have hP : va_P D classes [(h0, .inr (1, [.int 0, .ref q0, .ref q1, .ref q2, .null, .null, .null])), (q0, .inl (cI, 6, .inl (fun _ => 0))), (q1, .inl (cI, 6, .inl (fun _ => 0))), (q2, .inl (cI, 6, .inl (fun _ => 0))), (q3, .inl (cI, 6, .inl (fun _ => 0)))] H := hP
  have hD : va_D A [(h0, .inr (1, [.int 0, .ref q0, .ref q1, .ref q2, .null, .null, .null])), (q0, .inl (cI, 6, .inl (fun _ => 0))), (q1, .inl (cI, 6, .inl (fun _ => 0))), (q2, .inl (cI, 6, .inl (fun _ => 0))), (q3, .inl (cI, 6, .inl (fun _ => 0)))] := hD
  refine va_putF (D := D) (ci := 1) (v := .ref q3) (ty := .array .int) (C := R_Bod) (T := F_Bod) (N := 7) hx hb hts i_Bod t_Bod t_Bod_ok n_Bod hown hK hP hD hS 0 rfl rfl 4 (by decide) (hts (.fieldLink R_Bod 25 "BreatheOut$Bodies" "pull" "[I") (tbl_at 146 (by decide +kernel) rfl)) (fun _ h9 => h9) rfl hin rfl (by decide +kernel) rfl rfl (Nat.le_of_ble_eq_true rfl) d_Bod_init_38 (fun H locs hP hD hS => ?_)
  have hP : va_P D classes [(h0, .inr (1, [.int 0, .ref q0, .ref q1, .ref q2, .ref q3, .null, .null])), (q0, .inl (cI, 6, .inl (fun _ => 0))), (q1, .inl (cI, 6, .inl (fun _ => 0))), (q2, .inl (cI, 6, .inl (fun _ => 0))), (q3, .inl (cI, 6, .inl (fun _ => 0)))] H := hP
  have hD : va_D A [(h0, .inr (1, [.int 0, .ref q0, .ref q1, .ref q2, .ref q3, .null, .null])), (q0, .inl (cI, 6, .inl (fun _ => 0))), (q1, .inl (cI, 6, .inl (fun _ => 0))), (q2, .inl (cI, 6, .inl (fun _ => 0))), (q3, .inl (cI, 6, .inl (fun _ => 0)))] := hD
  refine lv_aload_n hx hb d_Bod_init_41 rfl (lv_at hl 0 rfl) ?_
  refine lv_bipush (v := 6) hx hb d_Bod_init_42 (by decide) ?_
  have h_4 : 4 + 1 ≤ 6 := by decide
  have i_4 : 24 + 6 ≤ 36 := by decide
  refine va_newa (atype := .int) (N' := 6) (a0 := (6, .inl (fun _ => 0))) hx hb (hts _ ai_w) rfl hK hP hD hS hA (fun _ => rfl) (by decide) (by decide) (by decide) h_4 i_4 d_Bod_init_44 (fun q4 cA H hK2 hP hD hS => ?_)
  obtain rfl : cI = cA := (va_one hK2).symm
  have hP : va_P D classes [(h0, .inr (1, [.int 0, .ref q0, .ref q1, .ref q2, .ref q3, .null, .null])), (q0, .inl (cI, 6, .inl (fun _ => 0))), (q1, .inl (cI, 6, .inl (fun _ => 0))), (q2, .inl (cI, 6, .inl (fun _ => 0))), (q3, .inl (cI, 6, .inl (fun _ => 0))), (q4, .inl (cI, 6, .inl (fun _ => 0)))] H := hP
  have hD : va_D A [(h0, .inr (1, [.int 0, .ref q0, .ref q1, .ref q2, .ref q3, .null, .null])), (q0, .inl (cI, 6, .inl (fun _ => 0))), (q1, .inl (cI, 6, .inl (fun _ => 0))), (q2, .inl (cI, 6, .inl (fun _ => 0))), (q3, .inl (cI, 6, .inl (fun _ => 0))), (q4, .inl (cI, 6, .inl (fun _ => 0)))] := hD
  refine va_putF (D := D) (ci := 1) (v := .ref q4) (ty := .array .int) (C := R_Bod) (T := F_Bod) (N := 7) hx hb hts i_Bod t_Bod t_Bod_ok n_Bod hown hK hP hD hS 0 rfl rfl 5 (by decide) (hts (.fieldLink R_Bod 28 "BreatheOut$Bodies" "posture" "[I") (tbl_at 149 (by decide +kernel) rfl)) (fun _ h9 => h9) rfl hin rfl (by decide +kernel) rfl rfl (Nat.le_of_ble_eq_true rfl) d_Bod_init_46 (fun H locs hP hD hS => ?_)
  have hP : va_P D classes [(h0, .inr (1, [.int 0, .ref q0, .ref q1, .ref q2, .ref q3, .ref q4, .null])), (q0, .inl (cI, 6, .inl (fun _ => 0))), (q1, .inl (cI, 6, .inl (fun _ => 0))), (q2, .inl (cI, 6, .inl (fun _ => 0))), (q3, .inl (cI, 6, .inl (fun _ => 0))), (q4, .inl (cI, 6, .inl (fun _ => 0)))] H := hP
  have hD : va_D A [(h0, .inr (1, [.int 0, .ref q0, .ref q1, .ref q2, .ref q3, .ref q4, .null])), (q0, .inl (cI, 6, .inl (fun _ => 0))), (q1, .inl (cI, 6, .inl (fun _ => 0))), (q2, .inl (cI, 6, .inl (fun _ => 0))), (q3, .inl (cI, 6, .inl (fun _ => 0))), (q4, .inl (cI, 6, .inl (fun _ => 0)))] := hD
  refine lv_aload_n hx hb d_Bod_init_49 rfl (lv_at hl 0 rfl) ?_
  refine lv_bipush (v := 6) hx hb d_Bod_init_50 (by decide) ?_
  have h_5 : 5 + 1 ≤ 6 := by decide
  have i_5 : 30 + 6 ≤ 36 := by decide
  refine va_newa (atype := .int) (N' := 6) (a0 := (6, .inl (fun _ => 0))) hx hb (hts _ ai_w) rfl hK hP hD hS hA (fun _ => rfl) (by decide) (by decide) (by decide) h_5 i_5 d_Bod_init_52 (fun q5 cA H hK2 hP hD hS => ?_)
  obtain rfl : cI = cA := (va_one hK2).symm
  have hP : va_P D classes [(h0, .inr (1, [.int 0, .ref q0, .ref q1, .ref q2, .ref q3, .ref q4, .null])), (q0, .inl (cI, 6, .inl (fun _ => 0))), (q1, .inl (cI, 6, .inl (fun _ => 0))), (q2, .inl (cI, 6, .inl (fun _ => 0))), (q3, .inl (cI, 6, .inl (fun _ => 0))), (q4, .inl (cI, 6, .inl (fun _ => 0))), (q5, .inl (cI, 6, .inl (fun _ => 0)))] H := hP
  have hD : va_D A [(h0, .inr (1, [.int 0, .ref q0, .ref q1, .ref q2, .ref q3, .ref q4, .null])), (q0, .inl (cI, 6, .inl (fun _ => 0))), (q1, .inl (cI, 6, .inl (fun _ => 0))), (q2, .inl (cI, 6, .inl (fun _ => 0))), (q3, .inl (cI, 6, .inl (fun _ => 0))), (q4, .inl (cI, 6, .inl (fun _ => 0))), (q5, .inl (cI, 6, .inl (fun _ => 0)))] := hD
  refine va_putF (D := D) (ci := 1) (v := .ref q5) (ty := .array .int) (C := R_Bod) (T := F_Bod) (N := 7) hx hb hts i_Bod t_Bod t_Bod_ok n_Bod hown hK hP hD hS 0 rfl rfl 6 (by decide) (hts (.fieldLink R_Bod 31 "BreatheOut$Bodies" "line" "[I") (tbl_at 153 (by decide +kernel) rfl)) (fun _ h9 => h9) rfl hin rfl (by decide +kernel) rfl rfl (Nat.le_of_ble_eq_true rfl) d_Bod_init_54 (fun H locs hP hD hS => ?_)
  have hP : va_P D classes [(h0, .inr (1, [.int 0, .ref q0, .ref q1, .ref q2, .ref q3, .ref q4, .ref q5])), (q0, .inl (cI, 6, .inl (fun _ => 0))), (q1, .inl (cI, 6, .inl (fun _ => 0))), (q2, .inl (cI, 6, .inl (fun _ => 0))), (q3, .inl (cI, 6, .inl (fun _ => 0))), (q4, .inl (cI, 6, .inl (fun _ => 0))), (q5, .inl (cI, 6, .inl (fun _ => 0)))] H := hP
  have hD : va_D A [(h0, .inr (1, [.int 0, .ref q0, .ref q1, .ref q2, .ref q3, .ref q4, .ref q5])), (q0, .inl (cI, 6, .inl (fun _ => 0))), (q1, .inl (cI, 6, .inl (fun _ => 0))), (q2, .inl (cI, 6, .inl (fun _ => 0))), (q3, .inl (cI, 6, .inl (fun _ => 0))), (q4, .inl (cI, 6, .inl (fun _ => 0))), (q5, .inl (cI, 6, .inl (fun _ => 0)))] := hD
  have hP9 : va_P D classes (sg cI 0 (fun j => if j < 1 then h0 else if j < 2 then q0 else if j < 3 then q1 else if j < 4 then q2 else if j < 5 then q3 else if j < 6 then q4 else if j < 7 then q5 else 0) z_Bod 0 [4, 106, 106, 106, 106, 106, 106]) H := hP
  have hD9 : va_D A (sg cI 0 (fun j => if j < 1 then h0 else if j < 2 then q0 else if j < 3 then q1 else if j < 4 then q2 else if j < 5 then q3 else if j < 6 then q4 else if j < 7 then q5 else 0) z_Bod 0 [4, 106, 106, 106, 106, 106, 106]) := hD
  exact W.vret hx hb hr (fun t ht hW => ⟨⟨(fun j => if j < 1 then h0 else if j < 2 then q0 else if j < 3 then q1 else if j < 4 then q2 else if j < 5 then q3 else if j < 6 then q4 else if j < 7 then q5 else 0, 0), rfl, rfl, by rw [ht]; exact hP9, hD9, (fun h => absurd h (by decide))⟩, hS.F ht⟩) hS.2.2 d_Bod_init_57
def z_Leg : St := fun p k => if p = 0 then (if k = 2 then -4 else if k = 3 then -4 else 0) else 0
theorem d_Leg_init_0 : decode b_Leg_init 0 = .ok (.aload_n 0, 1) := by decide +kernel
theorem d_Leg_init_1 : decode b_Leg_init 1 = .ok (.invokespecial 3, 3) := by decide +kernel
theorem d_Leg_init_4 : decode b_Leg_init 4 = .ok (.aload_n 0, 1) := by decide +kernel
theorem d_Leg_init_5 : decode b_Leg_init 5 = .ok (.iconst 0, 1) := by decide +kernel
theorem d_Leg_init_6 : decode b_Leg_init 6 = .ok (.putfield 9, 3) := by decide +kernel
theorem d_Leg_init_9 : decode b_Leg_init 9 = .ok (.aload_n 0, 1) := by decide +kernel
theorem d_Leg_init_10 : decode b_Leg_init 10 = .ok (.iconst 0, 1) := by decide +kernel
theorem d_Leg_init_11 : decode b_Leg_init 11 = .ok (.putfield 15, 3) := by decide +kernel
theorem d_Leg_init_14 : decode b_Leg_init 14 = .ok (.aload_n 0, 1) := by decide +kernel
theorem d_Leg_init_15 : decode b_Leg_init 15 = .ok (.bipush (-4), 2) := by decide +kernel
theorem d_Leg_init_17 : decode b_Leg_init 17 = .ok (.putfield 18, 3) := by decide +kernel
theorem d_Leg_init_20 : decode b_Leg_init 20 = .ok (.aload_n 0, 1) := by decide +kernel
theorem d_Leg_init_21 : decode b_Leg_init 21 = .ok (.bipush (-4), 2) := by decide +kernel
theorem d_Leg_init_23 : decode b_Leg_init 23 = .ok (.putfield 21, 3) := by decide +kernel
theorem d_Leg_init_26 : decode b_Leg_init 26 = .ok (.aload_n 0, 1) := by decide +kernel
theorem d_Leg_init_27 : decode b_Leg_init 27 = .ok (.iconst 0, 1) := by decide +kernel
theorem d_Leg_init_28 : decode b_Leg_init 28 = .ok (.putfield 24, 3) := by decide +kernel
theorem d_Leg_init_31 : decode b_Leg_init 31 = .ok (.aload_n 0, 1) := by decide +kernel
theorem d_Leg_init_32 : decode b_Leg_init 32 = .ok (.iconst 0, 1) := by decide +kernel
theorem d_Leg_init_33 : decode b_Leg_init 33 = .ok (.putfield 27, 3) := by decide +kernel
theorem d_Leg_init_36 : decode b_Leg_init 36 = .ok (.aload_n 0, 1) := by decide +kernel
theorem d_Leg_init_37 : decode b_Leg_init 37 = .ok (.bipush 6, 2) := by decide +kernel
theorem d_Leg_init_39 : decode b_Leg_init 39 = .ok (.newarray .int, 2) := by decide +kernel
theorem d_Leg_init_41 : decode b_Leg_init 41 = .ok (.putfield 30, 3) := by decide +kernel
theorem d_Leg_init_44 : decode b_Leg_init 44 = .ok (.return_, 1) := by decide +kernel
set_option maxHeartbeats 4000000 in
set_option maxRecDepth 100000 in
theorem c_Leg_init (l : Launch) (D : va_G) (cI : ClassId) : Ini l D cI y_Leg_init b_Leg_init 1 ({ frames := 1, cells := 1, slots := 6, locals := 12 }) 1 6 (.inr (3, [.int 0, .int 0, .int 0, .int 0, .int 0, .int 0, .null])) [6, 106] z_Leg := by
  intro h0 sz
  refine Met.ofW (cc := b_Leg_init) (maxL := 1) (ret := none) (by decide) rfl ?_
  intro p e s m args below meth c s₁ B hml hv
  obtain ⟨rfl, hsz, hP, hK, hN, hD0⟩ := hv
  have hx := B.exec
  have hb := B.bytes
  have hr := B.returns
  have hts0 := atoms_spec (ws := Cond.code y_Leg_init b_Leg_init 1 none :: tbl) B.pre
  have hts : ∀ w ∈ tbl, w.before _ s = true := fun w hw => hts0 w (List.mem_cons_of_mem _ hw)
  have hown : s.vm.findClass R_Leg = some m.cls := findClass_of_methodNamed B.named
  have hlocks := B.notSynchronized
  have hin : meth.name = "<init>" := (name_of_methodNamed B.named B.method).1
  subst hsz
  have hD := hD0.self (sz := s.heap.size)
  unfold iniQ
  generalize hAe : va_A [(h0, .inr (3, [.int 0, .int 0, .int 0, .int 0, .int 0, .int 0, .null]))] s.heap.size = A at hD ⊢
  have hA : ∀ q : Nat, s.heap.size ≤ q → A q := fun q h => by rw [← hAe]; exact Or.inr h
  have hS : va_S A s.heap s.heap [] := va_S.rf
  have hP : va_P D classes [(h0, .inr (3, [.int 0, .int 0, .int 0, .int 0, .int 0, .int 0, .null]))] s.heap := hP
  have hl := lv_entry ([.ref h0]) (n := 1) (Nat.le_of_ble_eq_true rfl)
  rw [lg_entry_eq]
  generalize (lg_sl ([.ref h0]) ++ List.replicate (1 - (lg_sl ([.ref h0])).length) Slot.unset).toArray = ls at hl ⊢
  have hl : lv_has ls 1 [(0, .ref h0)] := hl
  refine lv_aload_n hx hb d_Leg_init_0 rfl (lv_at hl 0 rfl) ?_
  refine W.objInit hx hb hown (hts (.methodLink R_Leg 3 objectInit) (tbl_at 215 (by decide +kernel) rfl)) (hts (.instanceMethod objectInit) oi_w.1) (hts _ oi_w.2) rfl (by rw [hml]; exact hl.1) rfl d_Leg_init_1 (Nat.le_of_ble_eq_true rfl) (Nat.le_of_ble_eq_true rfl) ?_
  refine W.eq (g2 := F0 m 4 ls []) rfl ?_
  refine lv_aload_n hx hb d_Leg_init_4 rfl (lv_at hl 0 rfl) ?_
  refine lv_iconst (v := 0) hx hb d_Leg_init_5 (by decide) ?_
  refine va_put (D := D) (ci := 3) (v := .int 0) (ty := .int) (C := R_Leg) (T := F_Leg) (N := 7) hx hb hts i_Leg t_Leg t_Leg_ok n_Leg hown hK hP hD hS 0 rfl rfl 0 (by decide) (hts (.fieldLink R_Leg 9 "BreatheOut$Leg" "arrived" "I") (tbl_at 216 (by decide +kernel) rfl)) (fun _ h9 => h9) rfl (by decide +kernel) rfl rfl (Nat.le_of_ble_eq_true rfl) d_Leg_init_6 (fun H locs hP hD hS => ?_)
  have hP : va_P D classes [(h0, .inr (3, [.int 0, .int 0, .int 0, .int 0, .int 0, .int 0, .null]))] H := hP
  have hD : va_D A [(h0, .inr (3, [.int 0, .int 0, .int 0, .int 0, .int 0, .int 0, .null]))] := hD
  refine lv_aload_n hx hb d_Leg_init_9 rfl (lv_at hl 0 rfl) ?_
  refine lv_iconst (v := 0) hx hb d_Leg_init_10 (by decide) ?_
  refine va_put (D := D) (ci := 3) (v := .int 0) (ty := .int) (C := R_Leg) (T := F_Leg) (N := 7) hx hb hts i_Leg t_Leg t_Leg_ok n_Leg hown hK hP hD hS 0 rfl rfl 1 (by decide) (hts (.fieldLink R_Leg 15 "BreatheOut$Leg" "arrivals" "I") (tbl_at 219 (by decide +kernel) rfl)) (fun _ h9 => h9) rfl (by decide +kernel) rfl rfl (Nat.le_of_ble_eq_true rfl) d_Leg_init_11 (fun H locs hP hD hS => ?_)
  have hP : va_P D classes [(h0, .inr (3, [.int 0, .int 0, .int 0, .int 0, .int 0, .int 0, .null]))] H := hP
  have hD : va_D A [(h0, .inr (3, [.int 0, .int 0, .int 0, .int 0, .int 0, .int 0, .null]))] := hD
  refine lv_aload_n hx hb d_Leg_init_14 rfl (lv_at hl 0 rfl) ?_
  refine lv_bipush (v := -4) hx hb d_Leg_init_15 (by decide) ?_
  refine va_put (D := D) (ci := 3) (v := .int (-4)) (ty := .int) (C := R_Leg) (T := F_Leg) (N := 7) hx hb hts i_Leg t_Leg t_Leg_ok n_Leg hown hK hP hD hS 0 rfl rfl 2 (by decide) (hts (.fieldLink R_Leg 18 "BreatheOut$Leg" "stuck" "I") (tbl_at 222 (by decide +kernel) rfl)) (fun _ h9 => h9) rfl (by decide +kernel) rfl rfl (Nat.le_of_ble_eq_true rfl) d_Leg_init_17 (fun H locs hP hD hS => ?_)
  have hP : va_P D classes [(h0, .inr (3, [.int 0, .int 0, .int (-4), .int 0, .int 0, .int 0, .null]))] H := hP
  have hD : va_D A [(h0, .inr (3, [.int 0, .int 0, .int (-4), .int 0, .int 0, .int 0, .null]))] := hD
  refine lv_aload_n hx hb d_Leg_init_20 rfl (lv_at hl 0 rfl) ?_
  refine lv_bipush (v := -4) hx hb d_Leg_init_21 (by decide) ?_
  refine va_put (D := D) (ci := 3) (v := .int (-4)) (ty := .int) (C := R_Leg) (T := F_Leg) (N := 7) hx hb hts i_Leg t_Leg t_Leg_ok n_Leg hown hK hP hD hS 0 rfl rfl 3 (by decide) (hts (.fieldLink R_Leg 21 "BreatheOut$Leg" "where" "I") (tbl_at 225 (by decide +kernel) rfl)) (fun _ h9 => h9) rfl (by decide +kernel) rfl rfl (Nat.le_of_ble_eq_true rfl) d_Leg_init_23 (fun H locs hP hD hS => ?_)
  have hP : va_P D classes [(h0, .inr (3, [.int 0, .int 0, .int (-4), .int (-4), .int 0, .int 0, .null]))] H := hP
  have hD : va_D A [(h0, .inr (3, [.int 0, .int 0, .int (-4), .int (-4), .int 0, .int 0, .null]))] := hD
  refine lv_aload_n hx hb d_Leg_init_26 rfl (lv_at hl 0 rfl) ?_
  refine lv_iconst (v := 0) hx hb d_Leg_init_27 (by decide) ?_
  refine va_put (D := D) (ci := 3) (v := .int 0) (ty := .int) (C := R_Leg) (T := F_Leg) (N := 7) hx hb hts i_Leg t_Leg t_Leg_ok n_Leg hown hK hP hD hS 0 rfl rfl 4 (by decide) (hts (.fieldLink R_Leg 24 "BreatheOut$Leg" "clock" "I") (tbl_at 227 (by decide +kernel) rfl)) (fun _ h9 => h9) rfl (by decide +kernel) rfl rfl (Nat.le_of_ble_eq_true rfl) d_Leg_init_28 (fun H locs hP hD hS => ?_)
  have hP : va_P D classes [(h0, .inr (3, [.int 0, .int 0, .int (-4), .int (-4), .int 0, .int 0, .null]))] H := hP
  have hD : va_D A [(h0, .inr (3, [.int 0, .int 0, .int (-4), .int (-4), .int 0, .int 0, .null]))] := hD
  refine lv_aload_n hx hb d_Leg_init_31 rfl (lv_at hl 0 rfl) ?_
  refine lv_iconst (v := 0) hx hb d_Leg_init_32 (by decide) ?_
  refine va_put (D := D) (ci := 3) (v := .int 0) (ty := .int) (C := R_Leg) (T := F_Leg) (N := 7) hx hb hts i_Leg t_Leg t_Leg_ok n_Leg hown hK hP hD hS 0 rfl rfl 5 (by decide) (hts (.fieldLink R_Leg 27 "BreatheOut$Leg" "breaths" "I") (tbl_at 231 (by decide +kernel) rfl)) (fun _ h9 => h9) rfl (by decide +kernel) rfl rfl (Nat.le_of_ble_eq_true rfl) d_Leg_init_33 (fun H locs hP hD hS => ?_)
  have hP : va_P D classes [(h0, .inr (3, [.int 0, .int 0, .int (-4), .int (-4), .int 0, .int 0, .null]))] H := hP
  have hD : va_D A [(h0, .inr (3, [.int 0, .int 0, .int (-4), .int (-4), .int 0, .int 0, .null]))] := hD
  refine lv_aload_n hx hb d_Leg_init_36 rfl (lv_at hl 0 rfl) ?_
  refine lv_bipush (v := 6) hx hb d_Leg_init_37 (by decide) ?_
  have h_0 : 0 + 1 ≤ 1 := by decide
  have i_0 : 0 + 6 ≤ 6 := by decide
  refine va_newa (atype := .int) (N' := 6) (a0 := (6, .inl (fun _ => 0))) hx hb (hts _ ai_w) rfl hK hP hD hS hA (fun _ => rfl) (by decide) (by decide) (by decide) h_0 i_0 d_Leg_init_39 (fun q0 cA H hK2 hP hD hS => ?_)
  obtain rfl : cI = cA := (va_one hK2).symm
  have hP : va_P D classes [(h0, .inr (3, [.int 0, .int 0, .int (-4), .int (-4), .int 0, .int 0, .null])), (q0, .inl (cI, 6, .inl (fun _ => 0)))] H := hP
  have hD : va_D A [(h0, .inr (3, [.int 0, .int 0, .int (-4), .int (-4), .int 0, .int 0, .null])), (q0, .inl (cI, 6, .inl (fun _ => 0)))] := hD
  refine va_putF (D := D) (ci := 3) (v := .ref q0) (ty := .array .int) (C := R_Leg) (T := F_Leg) (N := 7) hx hb hts i_Leg t_Leg t_Leg_ok n_Leg hown hK hP hD hS 0 rfl rfl 6 (by decide) (hts (.fieldLink R_Leg 30 "BreatheOut$Leg" "times" "[I") (tbl_at 233 (by decide +kernel) rfl)) (fun _ h9 => h9) rfl hin rfl (by decide +kernel) rfl rfl (Nat.le_of_ble_eq_true rfl) d_Leg_init_41 (fun H locs hP hD hS => ?_)
  have hP : va_P D classes [(h0, .inr (3, [.int 0, .int 0, .int (-4), .int (-4), .int 0, .int 0, .ref q0])), (q0, .inl (cI, 6, .inl (fun _ => 0)))] H := hP
  have hD : va_D A [(h0, .inr (3, [.int 0, .int 0, .int (-4), .int (-4), .int 0, .int 0, .ref q0])), (q0, .inl (cI, 6, .inl (fun _ => 0)))] := hD
  have hP9 : va_P D classes (sg cI 0 (fun j => if j < 1 then h0 else if j < 2 then q0 else 0) z_Leg 0 [6, 106]) H := hP
  have hD9 : va_D A (sg cI 0 (fun j => if j < 1 then h0 else if j < 2 then q0 else 0) z_Leg 0 [6, 106]) := hD
  exact W.vret hx hb hr (fun t ht hW => ⟨⟨(fun j => if j < 1 then h0 else if j < 2 then q0 else 0, 0), rfl, rfl, by rw [ht]; exact hP9, hD9, (fun h => absurd h (by decide))⟩, hS.F ht⟩) hS.2.2 d_Leg_init_44
def z_Best : St := zz
theorem d_Best_init_0 : decode b_Best_init 0 = .ok (.aload_n 0, 1) := by decide +kernel
theorem d_Best_init_1 : decode b_Best_init 1 = .ok (.invokespecial 3, 3) := by decide +kernel
theorem d_Best_init_4 : decode b_Best_init 4 = .ok (.aload_n 0, 1) := by decide +kernel
theorem d_Best_init_5 : decode b_Best_init 5 = .ok (.bipush 6, 2) := by decide +kernel
theorem d_Best_init_7 : decode b_Best_init 7 = .ok (.newarray .int, 2) := by decide +kernel
theorem d_Best_init_9 : decode b_Best_init 9 = .ok (.putfield 9, 3) := by decide +kernel
theorem d_Best_init_12 : decode b_Best_init 12 = .ok (.aload_n 0, 1) := by decide +kernel
theorem d_Best_init_13 : decode b_Best_init 13 = .ok (.iconst 0, 1) := by decide +kernel
theorem d_Best_init_14 : decode b_Best_init 14 = .ok (.putfield 15, 3) := by decide +kernel
theorem d_Best_init_17 : decode b_Best_init 17 = .ok (.aload_n 0, 1) := by decide +kernel
theorem d_Best_init_18 : decode b_Best_init 18 = .ok (.bipush 6, 2) := by decide +kernel
theorem d_Best_init_20 : decode b_Best_init 20 = .ok (.newarray .int, 2) := by decide +kernel
theorem d_Best_init_22 : decode b_Best_init 22 = .ok (.putfield 19, 3) := by decide +kernel
theorem d_Best_init_25 : decode b_Best_init 25 = .ok (.aload_n 0, 1) := by decide +kernel
theorem d_Best_init_26 : decode b_Best_init 26 = .ok (.iconst 0, 1) := by decide +kernel
theorem d_Best_init_27 : decode b_Best_init 27 = .ok (.putfield 22, 3) := by decide +kernel
theorem d_Best_init_30 : decode b_Best_init 30 = .ok (.aload_n 0, 1) := by decide +kernel
theorem d_Best_init_31 : decode b_Best_init 31 = .ok (.iconst 0, 1) := by decide +kernel
theorem d_Best_init_32 : decode b_Best_init 32 = .ok (.putfield 25, 3) := by decide +kernel
theorem d_Best_init_35 : decode b_Best_init 35 = .ok (.return_, 1) := by decide +kernel
set_option maxHeartbeats 4000000 in
set_option maxRecDepth 100000 in
theorem c_Best_init (l : Launch) (D : va_G) (cI : ClassId) : Ini l D cI y_Best_init b_Best_init 1 ({ frames := 1, cells := 2, slots := 12, locals := 12 }) 2 12 (.inr (0, [.null, .int 0, .null, .int 0, .int 0])) [7, 106, 106] z_Best := by
  intro h0 sz
  refine Met.ofW (cc := b_Best_init) (maxL := 1) (ret := none) (by decide) rfl ?_
  intro p e s m args below meth c s₁ B hml hv
  obtain ⟨rfl, hsz, hP, hK, hN, hD0⟩ := hv
  have hx := B.exec
  have hb := B.bytes
  have hr := B.returns
  have hts0 := atoms_spec (ws := Cond.code y_Best_init b_Best_init 1 none :: tbl) B.pre
  have hts : ∀ w ∈ tbl, w.before _ s = true := fun w hw => hts0 w (List.mem_cons_of_mem _ hw)
  have hown : s.vm.findClass R_Best = some m.cls := findClass_of_methodNamed B.named
  have hlocks := B.notSynchronized
  have hin : meth.name = "<init>" := (name_of_methodNamed B.named B.method).1
  subst hsz
  have hD := hD0.self (sz := s.heap.size)
  unfold iniQ
  generalize hAe : va_A [(h0, .inr (0, [.null, .int 0, .null, .int 0, .int 0]))] s.heap.size = A at hD ⊢
  have hA : ∀ q : Nat, s.heap.size ≤ q → A q := fun q h => by rw [← hAe]; exact Or.inr h
  have hS : va_S A s.heap s.heap [] := va_S.rf
  have hP : va_P D classes [(h0, .inr (0, [.null, .int 0, .null, .int 0, .int 0]))] s.heap := hP
  have hl := lv_entry ([.ref h0]) (n := 1) (Nat.le_of_ble_eq_true rfl)
  rw [lg_entry_eq]
  generalize (lg_sl ([.ref h0]) ++ List.replicate (1 - (lg_sl ([.ref h0])).length) Slot.unset).toArray = ls at hl ⊢
  have hl : lv_has ls 1 [(0, .ref h0)] := hl
  refine lv_aload_n hx hb d_Best_init_0 rfl (lv_at hl 0 rfl) ?_
  refine W.objInit hx hb hown (hts (.methodLink R_Best 3 objectInit) (tbl_at 268 (by decide +kernel) rfl)) (hts (.instanceMethod objectInit) oi_w.1) (hts _ oi_w.2) rfl (by rw [hml]; exact hl.1) rfl d_Best_init_1 (Nat.le_of_ble_eq_true rfl) (Nat.le_of_ble_eq_true rfl) ?_
  refine W.eq (g2 := F0 m 4 ls []) rfl ?_
  refine lv_aload_n hx hb d_Best_init_4 rfl (lv_at hl 0 rfl) ?_
  refine lv_bipush (v := 6) hx hb d_Best_init_5 (by decide) ?_
  have h_0 : 0 + 1 ≤ 2 := by decide
  have i_0 : 0 + 6 ≤ 12 := by decide
  refine va_newa (atype := .int) (N' := 6) (a0 := (6, .inl (fun _ => 0))) hx hb (hts _ ai_w) rfl hK hP hD hS hA (fun _ => rfl) (by decide) (by decide) (by decide) h_0 i_0 d_Best_init_7 (fun q0 cA H hK2 hP hD hS => ?_)
  obtain rfl : cI = cA := (va_one hK2).symm
  have hP : va_P D classes [(h0, .inr (0, [.null, .int 0, .null, .int 0, .int 0])), (q0, .inl (cI, 6, .inl (fun _ => 0)))] H := hP
  have hD : va_D A [(h0, .inr (0, [.null, .int 0, .null, .int 0, .int 0])), (q0, .inl (cI, 6, .inl (fun _ => 0)))] := hD
  refine va_putF (D := D) (ci := 0) (v := .ref q0) (ty := .array .int) (C := R_Best) (T := F_Best) (N := 5) hx hb hts i_Best t_Best t_Best_ok n_Best hown hK hP hD hS 0 rfl rfl 0 (by decide) (hts (.fieldLink R_Best 9 "BreatheOut$BestOrder" "line" "[I") (tbl_at 269 (by decide +kernel) rfl)) (fun _ h9 => h9) rfl hin rfl (by decide +kernel) rfl rfl (Nat.le_of_ble_eq_true rfl) d_Best_init_9 (fun H locs hP hD hS => ?_)
  have hP : va_P D classes [(h0, .inr (0, [.ref q0, .int 0, .null, .int 0, .int 0])), (q0, .inl (cI, 6, .inl (fun _ => 0)))] H := hP
  have hD : va_D A [(h0, .inr (0, [.ref q0, .int 0, .null, .int 0, .int 0])), (q0, .inl (cI, 6, .inl (fun _ => 0)))] := hD
  refine lv_aload_n hx hb d_Best_init_12 rfl (lv_at hl 0 rfl) ?_
  refine lv_iconst (v := 0) hx hb d_Best_init_13 (by decide) ?_
  refine va_put (D := D) (ci := 0) (v := .int 0) (ty := .int) (C := R_Best) (T := F_Best) (N := 5) hx hb hts i_Best t_Best t_Best_ok n_Best hown hK hP hD hS 0 rfl rfl 1 (by decide) (hts (.fieldLink R_Best 15 "BreatheOut$BestOrder" "returned" "I") (tbl_at 271 (by decide +kernel) rfl)) (fun _ h9 => h9) rfl (by decide +kernel) rfl rfl (Nat.le_of_ble_eq_true rfl) d_Best_init_14 (fun H locs hP hD hS => ?_)
  have hP : va_P D classes [(h0, .inr (0, [.ref q0, .int 0, .null, .int 0, .int 0])), (q0, .inl (cI, 6, .inl (fun _ => 0)))] H := hP
  have hD : va_D A [(h0, .inr (0, [.ref q0, .int 0, .null, .int 0, .int 0])), (q0, .inl (cI, 6, .inl (fun _ => 0)))] := hD
  refine lv_aload_n hx hb d_Best_init_17 rfl (lv_at hl 0 rfl) ?_
  refine lv_bipush (v := 6) hx hb d_Best_init_18 (by decide) ?_
  have h_1 : 1 + 1 ≤ 2 := by decide
  have i_1 : 6 + 6 ≤ 12 := by decide
  refine va_newa (atype := .int) (N' := 6) (a0 := (6, .inl (fun _ => 0))) hx hb (hts _ ai_w) rfl hK hP hD hS hA (fun _ => rfl) (by decide) (by decide) (by decide) h_1 i_1 d_Best_init_20 (fun q1 cA H hK2 hP hD hS => ?_)
  obtain rfl : cI = cA := (va_one hK2).symm
  have hP : va_P D classes [(h0, .inr (0, [.ref q0, .int 0, .null, .int 0, .int 0])), (q0, .inl (cI, 6, .inl (fun _ => 0))), (q1, .inl (cI, 6, .inl (fun _ => 0)))] H := hP
  have hD : va_D A [(h0, .inr (0, [.ref q0, .int 0, .null, .int 0, .int 0])), (q0, .inl (cI, 6, .inl (fun _ => 0))), (q1, .inl (cI, 6, .inl (fun _ => 0)))] := hD
  refine va_putF (D := D) (ci := 0) (v := .ref q1) (ty := .array .int) (C := R_Best) (T := F_Best) (N := 5) hx hb hts i_Best t_Best t_Best_ok n_Best hown hK hP hD hS 0 rfl rfl 2 (by decide) (hts (.fieldLink R_Best 19 "BreatheOut$BestOrder" "tried" "[I") (tbl_at 273 (by decide +kernel) rfl)) (fun _ h9 => h9) rfl hin rfl (by decide +kernel) rfl rfl (Nat.le_of_ble_eq_true rfl) d_Best_init_22 (fun H locs hP hD hS => ?_)
  have hP : va_P D classes [(h0, .inr (0, [.ref q0, .int 0, .ref q1, .int 0, .int 0])), (q0, .inl (cI, 6, .inl (fun _ => 0))), (q1, .inl (cI, 6, .inl (fun _ => 0)))] H := hP
  have hD : va_D A [(h0, .inr (0, [.ref q0, .int 0, .ref q1, .int 0, .int 0])), (q0, .inl (cI, 6, .inl (fun _ => 0))), (q1, .inl (cI, 6, .inl (fun _ => 0)))] := hD
  refine lv_aload_n hx hb d_Best_init_25 rfl (lv_at hl 0 rfl) ?_
  refine lv_iconst (v := 0) hx hb d_Best_init_26 (by decide) ?_
  refine va_put (D := D) (ci := 0) (v := .int 0) (ty := .int) (C := R_Best) (T := F_Best) (N := 5) hx hb hts i_Best t_Best t_Best_ok n_Best hown hK hP hD hS 0 rfl rfl 3 (by decide) (hts (.fieldLink R_Best 22 "BreatheOut$BestOrder" "clock" "I") (tbl_at 274 (by decide +kernel) rfl)) (fun _ h9 => h9) rfl (by decide +kernel) rfl rfl (Nat.le_of_ble_eq_true rfl) d_Best_init_27 (fun H locs hP hD hS => ?_)
  have hP : va_P D classes [(h0, .inr (0, [.ref q0, .int 0, .ref q1, .int 0, .int 0])), (q0, .inl (cI, 6, .inl (fun _ => 0))), (q1, .inl (cI, 6, .inl (fun _ => 0)))] H := hP
  have hD : va_D A [(h0, .inr (0, [.ref q0, .int 0, .ref q1, .int 0, .int 0])), (q0, .inl (cI, 6, .inl (fun _ => 0))), (q1, .inl (cI, 6, .inl (fun _ => 0)))] := hD
  refine lv_aload_n hx hb d_Best_init_30 rfl (lv_at hl 0 rfl) ?_
  refine lv_iconst (v := 0) hx hb d_Best_init_31 (by decide) ?_
  refine va_put (D := D) (ci := 0) (v := .int 0) (ty := .boolean) (C := R_Best) (T := F_Best) (N := 5) hx hb hts i_Best t_Best t_Best_ok n_Best hown hK hP hD hS 0 rfl rfl 4 (by decide) (hts (.fieldLink R_Best 25 "BreatheOut$BestOrder" "known" "Z") (tbl_at 275 (by decide +kernel) rfl)) (fun _ h9 => h9) rfl (by decide +kernel) rfl rfl (Nat.le_of_ble_eq_true rfl) d_Best_init_32 (fun H locs hP hD hS => ?_)
  have hP : va_P D classes [(h0, .inr (0, [.ref q0, .int 0, .ref q1, .int 0, .int 0])), (q0, .inl (cI, 6, .inl (fun _ => 0))), (q1, .inl (cI, 6, .inl (fun _ => 0)))] H := hP
  have hD : va_D A [(h0, .inr (0, [.ref q0, .int 0, .ref q1, .int 0, .int 0])), (q0, .inl (cI, 6, .inl (fun _ => 0))), (q1, .inl (cI, 6, .inl (fun _ => 0)))] := hD
  have hP9 : va_P D classes (sg cI 0 (fun j => if j < 1 then h0 else if j < 2 then q0 else if j < 3 then q1 else 0) z_Best 0 [7, 106, 106]) H := hP
  have hD9 : va_D A (sg cI 0 (fun j => if j < 1 then h0 else if j < 2 then q0 else if j < 3 then q1 else 0) z_Best 0 [7, 106, 106]) := hD
  exact W.vret hx hb hr (fun t ht hW => ⟨⟨(fun j => if j < 1 then h0 else if j < 2 then q0 else if j < 3 then q1 else 0, 0), rfl, rfl, by rw [ht]; exact hP9, hD9, (fun h => absurd h (by decide))⟩, hS.F ht⟩) hS.2.2 d_Best_init_35
def z_Res : St := zz
theorem d_Res_init_0 : decode b_Res_init 0 = .ok (.aload_n 0, 1) := by decide +kernel
theorem d_Res_init_1 : decode b_Res_init 1 = .ok (.invokespecial 3, 3) := by decide +kernel
theorem d_Res_init_4 : decode b_Res_init 4 = .ok (.aload_n 0, 1) := by decide +kernel
theorem d_Res_init_5 : decode b_Res_init 5 = .ok (.bipush 6, 2) := by decide +kernel
theorem d_Res_init_7 : decode b_Res_init 7 = .ok (.newarray .int, 2) := by decide +kernel
theorem d_Res_init_9 : decode b_Res_init 9 = .ok (.putfield 9, 3) := by decide +kernel
theorem d_Res_init_12 : decode b_Res_init 12 = .ok (.aload_n 0, 1) := by decide +kernel
theorem d_Res_init_13 : decode b_Res_init 13 = .ok (.iconst 0, 1) := by decide +kernel
theorem d_Res_init_14 : decode b_Res_init 14 = .ok (.putfield 15, 3) := by decide +kernel
theorem d_Res_init_17 : decode b_Res_init 17 = .ok (.aload_n 0, 1) := by decide +kernel
theorem d_Res_init_18 : decode b_Res_init 18 = .ok (.iconst 0, 1) := by decide +kernel
theorem d_Res_init_19 : decode b_Res_init 19 = .ok (.putfield 19, 3) := by decide +kernel
theorem d_Res_init_22 : decode b_Res_init 22 = .ok (.aload_n 0, 1) := by decide +kernel
theorem d_Res_init_23 : decode b_Res_init 23 = .ok (.iconst 0, 1) := by decide +kernel
theorem d_Res_init_24 : decode b_Res_init 24 = .ok (.putfield 22, 3) := by decide +kernel
theorem d_Res_init_27 : decode b_Res_init 27 = .ok (.aload_n 0, 1) := by decide +kernel
theorem d_Res_init_28 : decode b_Res_init 28 = .ok (.bipush 6, 2) := by decide +kernel
theorem d_Res_init_30 : decode b_Res_init 30 = .ok (.newarray .int, 2) := by decide +kernel
theorem d_Res_init_32 : decode b_Res_init 32 = .ok (.putfield 26, 3) := by decide +kernel
theorem d_Res_init_35 : decode b_Res_init 35 = .ok (.aload_n 0, 1) := by decide +kernel
theorem d_Res_init_36 : decode b_Res_init 36 = .ok (.iconst 0, 1) := by decide +kernel
theorem d_Res_init_37 : decode b_Res_init 37 = .ok (.putfield 29, 3) := by decide +kernel
theorem d_Res_init_40 : decode b_Res_init 40 = .ok (.aload_n 0, 1) := by decide +kernel
theorem d_Res_init_41 : decode b_Res_init 41 = .ok (.iconst 0, 1) := by decide +kernel
theorem d_Res_init_42 : decode b_Res_init 42 = .ok (.putfield 32, 3) := by decide +kernel
theorem d_Res_init_45 : decode b_Res_init 45 = .ok (.aload_n 0, 1) := by decide +kernel
theorem d_Res_init_46 : decode b_Res_init 46 = .ok (.iconst 0, 1) := by decide +kernel
theorem d_Res_init_47 : decode b_Res_init 47 = .ok (.putfield 35, 3) := by decide +kernel
theorem d_Res_init_50 : decode b_Res_init 50 = .ok (.aload_n 0, 1) := by decide +kernel
theorem d_Res_init_51 : decode b_Res_init 51 = .ok (.iconst 0, 1) := by decide +kernel
theorem d_Res_init_52 : decode b_Res_init 52 = .ok (.putfield 38, 3) := by decide +kernel
theorem d_Res_init_55 : decode b_Res_init 55 = .ok (.aload_n 0, 1) := by decide +kernel
theorem d_Res_init_56 : decode b_Res_init 56 = .ok (.iconst 0, 1) := by decide +kernel
theorem d_Res_init_57 : decode b_Res_init 57 = .ok (.putfield 41, 3) := by decide +kernel
theorem d_Res_init_60 : decode b_Res_init 60 = .ok (.return_, 1) := by decide +kernel
set_option maxHeartbeats 4000000 in
set_option maxRecDepth 100000 in
theorem c_Res_init (l : Launch) (D : va_G) (cI : ClassId) : Ini l D cI y_Res_init b_Res_init 1 ({ frames := 1, cells := 2, slots := 12, locals := 12 }) 2 12 (.inr (4, [.null, .int 0, .int 0, .int 0, .null, .int 0, .int 0, .int 0, .int 0, .int 0])) [8, 106, 106] z_Res := by
  intro h0 sz
  refine Met.ofW (cc := b_Res_init) (maxL := 1) (ret := none) (by decide) rfl ?_
  intro p e s m args below meth c s₁ B hml hv
  obtain ⟨rfl, hsz, hP, hK, hN, hD0⟩ := hv
  have hx := B.exec
  have hb := B.bytes
  have hr := B.returns
  have hts0 := atoms_spec (ws := Cond.code y_Res_init b_Res_init 1 none :: tbl) B.pre
  have hts : ∀ w ∈ tbl, w.before _ s = true := fun w hw => hts0 w (List.mem_cons_of_mem _ hw)
  have hown : s.vm.findClass R_Res = some m.cls := findClass_of_methodNamed B.named
  have hlocks := B.notSynchronized
  have hin : meth.name = "<init>" := (name_of_methodNamed B.named B.method).1
  subst hsz
  have hD := hD0.self (sz := s.heap.size)
  unfold iniQ
  generalize hAe : va_A [(h0, .inr (4, [.null, .int 0, .int 0, .int 0, .null, .int 0, .int 0, .int 0, .int 0, .int 0]))] s.heap.size = A at hD ⊢
  have hA : ∀ q : Nat, s.heap.size ≤ q → A q := fun q h => by rw [← hAe]; exact Or.inr h
  have hS : va_S A s.heap s.heap [] := va_S.rf
  have hP : va_P D classes [(h0, .inr (4, [.null, .int 0, .int 0, .int 0, .null, .int 0, .int 0, .int 0, .int 0, .int 0]))] s.heap := hP
  have hl := lv_entry ([.ref h0]) (n := 1) (Nat.le_of_ble_eq_true rfl)
  rw [lg_entry_eq]
  generalize (lg_sl ([.ref h0]) ++ List.replicate (1 - (lg_sl ([.ref h0])).length) Slot.unset).toArray = ls at hl ⊢
  have hl : lv_has ls 1 [(0, .ref h0)] := hl
  refine lv_aload_n hx hb d_Res_init_0 rfl (lv_at hl 0 rfl) ?_
  refine W.objInit hx hb hown (hts (.methodLink R_Res 3 objectInit) (tbl_at 292 (by decide +kernel) rfl)) (hts (.instanceMethod objectInit) oi_w.1) (hts _ oi_w.2) rfl (by rw [hml]; exact hl.1) rfl d_Res_init_1 (Nat.le_of_ble_eq_true rfl) (Nat.le_of_ble_eq_true rfl) ?_
  refine W.eq (g2 := F0 m 4 ls []) rfl ?_
  refine lv_aload_n hx hb d_Res_init_4 rfl (lv_at hl 0 rfl) ?_
  refine lv_bipush (v := 6) hx hb d_Res_init_5 (by decide) ?_
  have h_0 : 0 + 1 ≤ 2 := by decide
  have i_0 : 0 + 6 ≤ 12 := by decide
  refine va_newa (atype := .int) (N' := 6) (a0 := (6, .inl (fun _ => 0))) hx hb (hts _ ai_w) rfl hK hP hD hS hA (fun _ => rfl) (by decide) (by decide) (by decide) h_0 i_0 d_Res_init_7 (fun q0 cA H hK2 hP hD hS => ?_)
  obtain rfl : cI = cA := (va_one hK2).symm
  have hP : va_P D classes [(h0, .inr (4, [.null, .int 0, .int 0, .int 0, .null, .int 0, .int 0, .int 0, .int 0, .int 0])), (q0, .inl (cI, 6, .inl (fun _ => 0)))] H := hP
  have hD : va_D A [(h0, .inr (4, [.null, .int 0, .int 0, .int 0, .null, .int 0, .int 0, .int 0, .int 0, .int 0])), (q0, .inl (cI, 6, .inl (fun _ => 0)))] := hD
  refine va_putF (D := D) (ci := 4) (v := .ref q0) (ty := .array .int) (C := R_Res) (T := F_Res) (N := 10) hx hb hts i_Res t_Res t_Res_ok n_Res hown hK hP hD hS 0 rfl rfl 0 (by decide) (hts (.fieldLink R_Res 9 "BreatheOut$Rescuers" "bestDeeds" "[I") (tbl_at 293 (by decide +kernel) rfl)) (fun _ h9 => h9) rfl hin rfl (by decide +kernel) rfl rfl (Nat.le_of_ble_eq_true rfl) d_Res_init_9 (fun H locs hP hD hS => ?_)
  have hP : va_P D classes [(h0, .inr (4, [.ref q0, .int 0, .int 0, .int 0, .null, .int 0, .int 0, .int 0, .int 0, .int 0])), (q0, .inl (cI, 6, .inl (fun _ => 0)))] H := hP
  have hD : va_D A [(h0, .inr (4, [.ref q0, .int 0, .int 0, .int 0, .null, .int 0, .int 0, .int 0, .int 0, .int 0])), (q0, .inl (cI, 6, .inl (fun _ => 0)))] := hD
  refine lv_aload_n hx hb d_Res_init_12 rfl (lv_at hl 0 rfl) ?_
  refine lv_iconst (v := 0) hx hb d_Res_init_13 (by decide) ?_
  refine va_put (D := D) (ci := 4) (v := .int 0) (ty := .int) (C := R_Res) (T := F_Res) (N := 10) hx hb hts i_Res t_Res t_Res_ok n_Res hown hK hP hD hS 0 rfl rfl 1 (by decide) (hts (.fieldLink R_Res 15 "BreatheOut$Rescuers" "bestCount" "I") (tbl_at 295 (by decide +kernel) rfl)) (fun _ h9 => h9) rfl (by decide +kernel) rfl rfl (Nat.le_of_ble_eq_true rfl) d_Res_init_14 (fun H locs hP hD hS => ?_)
  have hP : va_P D classes [(h0, .inr (4, [.ref q0, .int 0, .int 0, .int 0, .null, .int 0, .int 0, .int 0, .int 0, .int 0])), (q0, .inl (cI, 6, .inl (fun _ => 0)))] H := hP
  have hD : va_D A [(h0, .inr (4, [.ref q0, .int 0, .int 0, .int 0, .null, .int 0, .int 0, .int 0, .int 0, .int 0])), (q0, .inl (cI, 6, .inl (fun _ => 0)))] := hD
  refine lv_aload_n hx hb d_Res_init_17 rfl (lv_at hl 0 rfl) ?_
  refine lv_iconst (v := 0) hx hb d_Res_init_18 (by decide) ?_
  refine va_put (D := D) (ci := 4) (v := .int 0) (ty := .int) (C := R_Res) (T := F_Res) (N := 10) hx hb hts i_Res t_Res t_Res_ok n_Res hown hK hP hD hS 0 rfl rfl 2 (by decide) (hts (.fieldLink R_Res 19 "BreatheOut$Rescuers" "bestMinutes" "I") (tbl_at 297 (by decide +kernel) rfl)) (fun _ h9 => h9) rfl (by decide +kernel) rfl rfl (Nat.le_of_ble_eq_true rfl) d_Res_init_19 (fun H locs hP hD hS => ?_)
  have hP : va_P D classes [(h0, .inr (4, [.ref q0, .int 0, .int 0, .int 0, .null, .int 0, .int 0, .int 0, .int 0, .int 0])), (q0, .inl (cI, 6, .inl (fun _ => 0)))] H := hP
  have hD : va_D A [(h0, .inr (4, [.ref q0, .int 0, .int 0, .int 0, .null, .int 0, .int 0, .int 0, .int 0, .int 0])), (q0, .inl (cI, 6, .inl (fun _ => 0)))] := hD
  refine lv_aload_n hx hb d_Res_init_22 rfl (lv_at hl 0 rfl) ?_
  refine lv_iconst (v := 0) hx hb d_Res_init_23 (by decide) ?_
  refine va_put (D := D) (ci := 4) (v := .int 0) (ty := .boolean) (C := R_Res) (T := F_Res) (N := 10) hx hb hts i_Res t_Res t_Res_ok n_Res hown hK hP hD hS 0 rfl rfl 3 (by decide) (hts (.fieldLink R_Res 22 "BreatheOut$Rescuers" "found" "Z") (tbl_at 299 (by decide +kernel) rfl)) (fun _ h9 => h9) rfl (by decide +kernel) rfl rfl (Nat.le_of_ble_eq_true rfl) d_Res_init_24 (fun H locs hP hD hS => ?_)
  have hP : va_P D classes [(h0, .inr (4, [.ref q0, .int 0, .int 0, .int 0, .null, .int 0, .int 0, .int 0, .int 0, .int 0])), (q0, .inl (cI, 6, .inl (fun _ => 0)))] H := hP
  have hD : va_D A [(h0, .inr (4, [.ref q0, .int 0, .int 0, .int 0, .null, .int 0, .int 0, .int 0, .int 0, .int 0])), (q0, .inl (cI, 6, .inl (fun _ => 0)))] := hD
  refine lv_aload_n hx hb d_Res_init_27 rfl (lv_at hl 0 rfl) ?_
  refine lv_bipush (v := 6) hx hb d_Res_init_28 (by decide) ?_
  have h_1 : 1 + 1 ≤ 2 := by decide
  have i_1 : 6 + 6 ≤ 12 := by decide
  refine va_newa (atype := .int) (N' := 6) (a0 := (6, .inl (fun _ => 0))) hx hb (hts _ ai_w) rfl hK hP hD hS hA (fun _ => rfl) (by decide) (by decide) (by decide) h_1 i_1 d_Res_init_30 (fun q1 cA H hK2 hP hD hS => ?_)
  obtain rfl : cI = cA := (va_one hK2).symm
  have hP : va_P D classes [(h0, .inr (4, [.ref q0, .int 0, .int 0, .int 0, .null, .int 0, .int 0, .int 0, .int 0, .int 0])), (q0, .inl (cI, 6, .inl (fun _ => 0))), (q1, .inl (cI, 6, .inl (fun _ => 0)))] H := hP
  have hD : va_D A [(h0, .inr (4, [.ref q0, .int 0, .int 0, .int 0, .null, .int 0, .int 0, .int 0, .int 0, .int 0])), (q0, .inl (cI, 6, .inl (fun _ => 0))), (q1, .inl (cI, 6, .inl (fun _ => 0)))] := hD
  refine va_putF (D := D) (ci := 4) (v := .ref q1) (ty := .array .int) (C := R_Res) (T := F_Res) (N := 10) hx hb hts i_Res t_Res t_Res_ok n_Res hown hK hP hD hS 0 rfl rfl 4 (by decide) (hts (.fieldLink R_Res 26 "BreatheOut$Rescuers" "deeds" "[I") (tbl_at 301 (by decide +kernel) rfl)) (fun _ h9 => h9) rfl hin rfl (by decide +kernel) rfl rfl (Nat.le_of_ble_eq_true rfl) d_Res_init_32 (fun H locs hP hD hS => ?_)
  have hP : va_P D classes [(h0, .inr (4, [.ref q0, .int 0, .int 0, .int 0, .ref q1, .int 0, .int 0, .int 0, .int 0, .int 0])), (q0, .inl (cI, 6, .inl (fun _ => 0))), (q1, .inl (cI, 6, .inl (fun _ => 0)))] H := hP
  have hD : va_D A [(h0, .inr (4, [.ref q0, .int 0, .int 0, .int 0, .ref q1, .int 0, .int 0, .int 0, .int 0, .int 0])), (q0, .inl (cI, 6, .inl (fun _ => 0))), (q1, .inl (cI, 6, .inl (fun _ => 0)))] := hD
  refine lv_aload_n hx hb d_Res_init_35 rfl (lv_at hl 0 rfl) ?_
  refine lv_iconst (v := 0) hx hb d_Res_init_36 (by decide) ?_
  refine va_put (D := D) (ci := 4) (v := .int 0) (ty := .int) (C := R_Res) (T := F_Res) (N := 10) hx hb hts i_Res t_Res t_Res_ok n_Res hown hK hP hD hS 0 rfl rfl 5 (by decide) (hts (.fieldLink R_Res 29 "BreatheOut$Rescuers" "most" "I") (tbl_at 302 (by decide +kernel) rfl)) (fun _ h9 => h9) rfl (by decide +kernel) rfl rfl (Nat.le_of_ble_eq_true rfl) d_Res_init_37 (fun H locs hP hD hS => ?_)
  have hP : va_P D classes [(h0, .inr (4, [.ref q0, .int 0, .int 0, .int 0, .ref q1, .int 0, .int 0, .int 0, .int 0, .int 0])), (q0, .inl (cI, 6, .inl (fun _ => 0))), (q1, .inl (cI, 6, .inl (fun _ => 0)))] H := hP
  have hD : va_D A [(h0, .inr (4, [.ref q0, .int 0, .int 0, .int 0, .ref q1, .int 0, .int 0, .int 0, .int 0, .int 0])), (q0, .inl (cI, 6, .inl (fun _ => 0))), (q1, .inl (cI, 6, .inl (fun _ => 0)))] := hD
  refine lv_aload_n hx hb d_Res_init_40 rfl (lv_at hl 0 rfl) ?_
  refine lv_iconst (v := 0) hx hb d_Res_init_41 (by decide) ?_
  refine va_put (D := D) (ci := 4) (v := .int 0) (ty := .int) (C := R_Res) (T := F_Res) (N := 10) hx hb hts i_Res t_Res t_Res_ok n_Res hown hK hP hD hS 0 rfl rfl 6 (by decide) (hts (.fieldLink R_Res 32 "BreatheOut$Rescuers" "lackingWithoutFear" "I") (tbl_at 303 (by decide +kernel) rfl)) (fun _ h9 => h9) rfl (by decide +kernel) rfl rfl (Nat.le_of_ble_eq_true rfl) d_Res_init_42 (fun H locs hP hD hS => ?_)
  have hP : va_P D classes [(h0, .inr (4, [.ref q0, .int 0, .int 0, .int 0, .ref q1, .int 0, .int 0, .int 0, .int 0, .int 0])), (q0, .inl (cI, 6, .inl (fun _ => 0))), (q1, .inl (cI, 6, .inl (fun _ => 0)))] H := hP
  have hD : va_D A [(h0, .inr (4, [.ref q0, .int 0, .int 0, .int 0, .ref q1, .int 0, .int 0, .int 0, .int 0, .int 0])), (q0, .inl (cI, 6, .inl (fun _ => 0))), (q1, .inl (cI, 6, .inl (fun _ => 0)))] := hD
  refine lv_aload_n hx hb d_Res_init_45 rfl (lv_at hl 0 rfl) ?_
  refine lv_iconst (v := 0) hx hb d_Res_init_46 (by decide) ?_
  refine va_put (D := D) (ci := 4) (v := .int 0) (ty := .int) (C := R_Res) (T := F_Res) (N := 10) hx hb hts i_Res t_Res t_Res_ok n_Res hown hK hP hD hS 0 rfl rfl 7 (by decide) (hts (.fieldLink R_Res 35 "BreatheOut$Rescuers" "pulling" "I") (tbl_at 304 (by decide +kernel) rfl)) (fun _ h9 => h9) rfl (by decide +kernel) rfl rfl (Nat.le_of_ble_eq_true rfl) d_Res_init_47 (fun H locs hP hD hS => ?_)
  have hP : va_P D classes [(h0, .inr (4, [.ref q0, .int 0, .int 0, .int 0, .ref q1, .int 0, .int 0, .int 0, .int 0, .int 0])), (q0, .inl (cI, 6, .inl (fun _ => 0))), (q1, .inl (cI, 6, .inl (fun _ => 0)))] H := hP
  have hD : va_D A [(h0, .inr (4, [.ref q0, .int 0, .int 0, .int 0, .ref q1, .int 0, .int 0, .int 0, .int 0, .int 0])), (q0, .inl (cI, 6, .inl (fun _ => 0))), (q1, .inl (cI, 6, .inl (fun _ => 0)))] := hD
  refine lv_aload_n hx hb d_Res_init_50 rfl (lv_at hl 0 rfl) ?_
  refine lv_iconst (v := 0) hx hb d_Res_init_51 (by decide) ?_
  refine va_put (D := D) (ci := 4) (v := .int 0) (ty := .int) (C := R_Res) (T := F_Res) (N := 10) hx hb hts i_Res t_Res t_Res_ok n_Res hown hK hP hD hS 0 rfl rfl 8 (by decide) (hts (.fieldLink R_Res 38 "BreatheOut$Rescuers" "pushing" "I") (tbl_at 305 (by decide +kernel) rfl)) (fun _ h9 => h9) rfl (by decide +kernel) rfl rfl (Nat.le_of_ble_eq_true rfl) d_Res_init_52 (fun H locs hP hD hS => ?_)
  have hP : va_P D classes [(h0, .inr (4, [.ref q0, .int 0, .int 0, .int 0, .ref q1, .int 0, .int 0, .int 0, .int 0, .int 0])), (q0, .inl (cI, 6, .inl (fun _ => 0))), (q1, .inl (cI, 6, .inl (fun _ => 0)))] H := hP
  have hD : va_D A [(h0, .inr (4, [.ref q0, .int 0, .int 0, .int 0, .ref q1, .int 0, .int 0, .int 0, .int 0, .int 0])), (q0, .inl (cI, 6, .inl (fun _ => 0))), (q1, .inl (cI, 6, .inl (fun _ => 0)))] := hD
  refine lv_aload_n hx hb d_Res_init_55 rfl (lv_at hl 0 rfl) ?_
  refine lv_iconst (v := 0) hx hb d_Res_init_56 (by decide) ?_
  refine va_put (D := D) (ci := 4) (v := .int 0) (ty := .int) (C := R_Res) (T := F_Res) (N := 10) hx hb hts i_Res t_Res t_Res_ok n_Res hown hK hP hD hS 0 rfl rfl 9 (by decide) (hts (.fieldLink R_Res 41 "BreatheOut$Rescuers" "calm" "I") (tbl_at 306 (by decide +kernel) rfl)) (fun _ h9 => h9) rfl (by decide +kernel) rfl rfl (Nat.le_of_ble_eq_true rfl) d_Res_init_57 (fun H locs hP hD hS => ?_)
  have hP : va_P D classes [(h0, .inr (4, [.ref q0, .int 0, .int 0, .int 0, .ref q1, .int 0, .int 0, .int 0, .int 0, .int 0])), (q0, .inl (cI, 6, .inl (fun _ => 0))), (q1, .inl (cI, 6, .inl (fun _ => 0)))] H := hP
  have hD : va_D A [(h0, .inr (4, [.ref q0, .int 0, .int 0, .int 0, .ref q1, .int 0, .int 0, .int 0, .int 0, .int 0])), (q0, .inl (cI, 6, .inl (fun _ => 0))), (q1, .inl (cI, 6, .inl (fun _ => 0)))] := hD
  have hP9 : va_P D classes (sg cI 0 (fun j => if j < 1 then h0 else if j < 2 then q0 else if j < 3 then q1 else 0) z_Res 0 [8, 106, 106]) H := hP
  have hD9 : va_D A (sg cI 0 (fun j => if j < 1 then h0 else if j < 2 then q0 else if j < 3 then q1 else 0) z_Res 0 [8, 106, 106]) := hD
  exact W.vret hx hb hr (fun t ht hW => ⟨⟨(fun j => if j < 1 then h0 else if j < 2 then q0 else if j < 3 then q1 else 0, 0), rfl, rfl, by rw [ht]; exact hP9, hD9, (fun h => absurd h (by decide))⟩, hS.F ht⟩) hS.2.2 d_Res_init_60
def z_She : St := zz
theorem d_She_init_0 : decode b_She_init 0 = .ok (.aload_n 0, 1) := by decide +kernel
theorem d_She_init_1 : decode b_She_init 1 = .ok (.invokespecial 3, 3) := by decide +kernel
theorem d_She_init_4 : decode b_She_init 4 = .ok (.aload_n 0, 1) := by decide +kernel
theorem d_She_init_5 : decode b_She_init 5 = .ok (.iconst 0, 1) := by decide +kernel
theorem d_She_init_6 : decode b_She_init 6 = .ok (.putfield 9, 3) := by decide +kernel
theorem d_She_init_9 : decode b_She_init 9 = .ok (.aload_n 0, 1) := by decide +kernel
theorem d_She_init_10 : decode b_She_init 10 = .ok (.iconst 0, 1) := by decide +kernel
theorem d_She_init_11 : decode b_She_init 11 = .ok (.putfield 15, 3) := by decide +kernel
theorem d_She_init_14 : decode b_She_init 14 = .ok (.aload_n 0, 1) := by decide +kernel
theorem d_She_init_15 : decode b_She_init 15 = .ok (.iconst 0, 1) := by decide +kernel
theorem d_She_init_16 : decode b_She_init 16 = .ok (.putfield 18, 3) := by decide +kernel
theorem d_She_init_19 : decode b_She_init 19 = .ok (.aload_n 0, 1) := by decide +kernel
theorem d_She_init_20 : decode b_She_init 20 = .ok (.iconst 0, 1) := by decide +kernel
theorem d_She_init_21 : decode b_She_init 21 = .ok (.putfield 21, 3) := by decide +kernel
theorem d_She_init_24 : decode b_She_init 24 = .ok (.aload_n 0, 1) := by decide +kernel
theorem d_She_init_25 : decode b_She_init 25 = .ok (.iconst 0, 1) := by decide +kernel
theorem d_She_init_26 : decode b_She_init 26 = .ok (.putfield 24, 3) := by decide +kernel
theorem d_She_init_29 : decode b_She_init 29 = .ok (.aload_n 0, 1) := by decide +kernel
theorem d_She_init_30 : decode b_She_init 30 = .ok (.bipush 100, 2) := by decide +kernel
theorem d_She_init_32 : decode b_She_init 32 = .ok (.newarray .int, 2) := by decide +kernel
theorem d_She_init_34 : decode b_She_init 34 = .ok (.putfield 27, 3) := by decide +kernel
theorem d_She_init_37 : decode b_She_init 37 = .ok (.return_, 1) := by decide +kernel
set_option maxHeartbeats 4000000 in
set_option maxRecDepth 100000 in
theorem c_She_init (l : Launch) (D : va_G) (cI : ClassId) : Ini l D cI y_She_init b_She_init 1 ({ frames := 1, cells := 1, slots := 100, locals := 12 }) 1 100 (.inr (5, [.int 0, .int 0, .int 0, .int 0, .int 0, .null])) [9, 200] z_She := by
  intro h0 sz
  refine Met.ofW (cc := b_She_init) (maxL := 1) (ret := none) (by decide) rfl ?_
  intro p e s m args below meth c s₁ B hml hv
  obtain ⟨rfl, hsz, hP, hK, hN, hD0⟩ := hv
  have hx := B.exec
  have hb := B.bytes
  have hr := B.returns
  have hts0 := atoms_spec (ws := Cond.code y_She_init b_She_init 1 none :: tbl) B.pre
  have hts : ∀ w ∈ tbl, w.before _ s = true := fun w hw => hts0 w (List.mem_cons_of_mem _ hw)
  have hown : s.vm.findClass R_She = some m.cls := findClass_of_methodNamed B.named
  have hlocks := B.notSynchronized
  have hin : meth.name = "<init>" := (name_of_methodNamed B.named B.method).1
  subst hsz
  have hD := hD0.self (sz := s.heap.size)
  unfold iniQ
  generalize hAe : va_A [(h0, .inr (5, [.int 0, .int 0, .int 0, .int 0, .int 0, .null]))] s.heap.size = A at hD ⊢
  have hA : ∀ q : Nat, s.heap.size ≤ q → A q := fun q h => by rw [← hAe]; exact Or.inr h
  have hS : va_S A s.heap s.heap [] := va_S.rf
  have hP : va_P D classes [(h0, .inr (5, [.int 0, .int 0, .int 0, .int 0, .int 0, .null]))] s.heap := hP
  have hl := lv_entry ([.ref h0]) (n := 1) (Nat.le_of_ble_eq_true rfl)
  rw [lg_entry_eq]
  generalize (lg_sl ([.ref h0]) ++ List.replicate (1 - (lg_sl ([.ref h0])).length) Slot.unset).toArray = ls at hl ⊢
  have hl : lv_has ls 1 [(0, .ref h0)] := hl
  refine lv_aload_n hx hb d_She_init_0 rfl (lv_at hl 0 rfl) ?_
  refine W.objInit hx hb hown (hts (.methodLink R_She 3 objectInit) (tbl_at 334 (by decide +kernel) rfl)) (hts (.instanceMethod objectInit) oi_w.1) (hts _ oi_w.2) rfl (by rw [hml]; exact hl.1) rfl d_She_init_1 (Nat.le_of_ble_eq_true rfl) (Nat.le_of_ble_eq_true rfl) ?_
  refine W.eq (g2 := F0 m 4 ls []) rfl ?_
  refine lv_aload_n hx hb d_She_init_4 rfl (lv_at hl 0 rfl) ?_
  refine lv_iconst (v := 0) hx hb d_She_init_5 (by decide) ?_
  refine va_put (D := D) (ci := 5) (v := .int 0) (ty := .int) (C := R_She) (T := F_She) (N := 6) hx hb hts i_She t_She t_She_ok n_She hown hK hP hD hS 0 rfl rfl 0 (by decide) (hts (.fieldLink R_She 9 "BreatheOut$Shelf" "holds" "I") (tbl_at 335 (by decide +kernel) rfl)) (fun _ h9 => h9) rfl (by decide +kernel) rfl rfl (Nat.le_of_ble_eq_true rfl) d_She_init_6 (fun H locs hP hD hS => ?_)
  have hP : va_P D classes [(h0, .inr (5, [.int 0, .int 0, .int 0, .int 0, .int 0, .null]))] H := hP
  have hD : va_D A [(h0, .inr (5, [.int 0, .int 0, .int 0, .int 0, .int 0, .null]))] := hD
  refine lv_aload_n hx hb d_She_init_9 rfl (lv_at hl 0 rfl) ?_
  refine lv_iconst (v := 0) hx hb d_She_init_10 (by decide) ?_
  refine va_put (D := D) (ci := 5) (v := .int 0) (ty := .int) (C := R_She) (T := F_She) (N := 6) hx hb hts i_She t_She t_She_ok n_She hown hK hP hD hS 0 rfl rfl 1 (by decide) (hts (.fieldLink R_She 15 "BreatheOut$Shelf" "kind" "I") (tbl_at 337 (by decide +kernel) rfl)) (fun _ h9 => h9) rfl (by decide +kernel) rfl rfl (Nat.le_of_ble_eq_true rfl) d_She_init_11 (fun H locs hP hD hS => ?_)
  have hP : va_P D classes [(h0, .inr (5, [.int 0, .int 0, .int 0, .int 0, .int 0, .null]))] H := hP
  have hD : va_D A [(h0, .inr (5, [.int 0, .int 0, .int 0, .int 0, .int 0, .null]))] := hD
  refine lv_aload_n hx hb d_She_init_14 rfl (lv_at hl 0 rfl) ?_
  refine lv_iconst (v := 0) hx hb d_She_init_15 (by decide) ?_
  refine va_put (D := D) (ci := 5) (v := .int 0) (ty := .int) (C := R_She) (T := F_She) (N := 6) hx hb hts i_She t_She t_She_ok n_She hown hK hP hD hS 0 rfl rfl 2 (by decide) (hts (.fieldLink R_She 18 "BreatheOut$Shelf" "figure" "I") (tbl_at 339 (by decide +kernel) rfl)) (fun _ h9 => h9) rfl (by decide +kernel) rfl rfl (Nat.le_of_ble_eq_true rfl) d_She_init_16 (fun H locs hP hD hS => ?_)
  have hP : va_P D classes [(h0, .inr (5, [.int 0, .int 0, .int 0, .int 0, .int 0, .null]))] H := hP
  have hD : va_D A [(h0, .inr (5, [.int 0, .int 0, .int 0, .int 0, .int 0, .null]))] := hD
  refine lv_aload_n hx hb d_She_init_19 rfl (lv_at hl 0 rfl) ?_
  refine lv_iconst (v := 0) hx hb d_She_init_20 (by decide) ?_
  refine va_put (D := D) (ci := 5) (v := .int 0) (ty := .int) (C := R_She) (T := F_She) (N := 6) hx hb hts i_She t_She t_She_ok n_She hown hK hP hD hS 0 rfl rfl 3 (by decide) (hts (.fieldLink R_She 21 "BreatheOut$Shelf" "sort" "I") (tbl_at 341 (by decide +kernel) rfl)) (fun _ h9 => h9) rfl (by decide +kernel) rfl rfl (Nat.le_of_ble_eq_true rfl) d_She_init_21 (fun H locs hP hD hS => ?_)
  have hP : va_P D classes [(h0, .inr (5, [.int 0, .int 0, .int 0, .int 0, .int 0, .null]))] H := hP
  have hD : va_D A [(h0, .inr (5, [.int 0, .int 0, .int 0, .int 0, .int 0, .null]))] := hD
  refine lv_aload_n hx hb d_She_init_24 rfl (lv_at hl 0 rfl) ?_
  refine lv_iconst (v := 0) hx hb d_She_init_25 (by decide) ?_
  refine va_put (D := D) (ci := 5) (v := .int 0) (ty := .int) (C := R_She) (T := F_She) (N := 6) hx hb hts i_She t_She t_She_ok n_She hown hK hP hD hS 0 rfl rfl 4 (by decide) (hts (.fieldLink R_She 24 "BreatheOut$Shelf" "length" "I") (tbl_at 343 (by decide +kernel) rfl)) (fun _ h9 => h9) rfl (by decide +kernel) rfl rfl (Nat.le_of_ble_eq_true rfl) d_She_init_26 (fun H locs hP hD hS => ?_)
  have hP : va_P D classes [(h0, .inr (5, [.int 0, .int 0, .int 0, .int 0, .int 0, .null]))] H := hP
  have hD : va_D A [(h0, .inr (5, [.int 0, .int 0, .int 0, .int 0, .int 0, .null]))] := hD
  refine lv_aload_n hx hb d_She_init_29 rfl (lv_at hl 0 rfl) ?_
  refine lv_bipush (v := 100) hx hb d_She_init_30 (by decide) ?_
  have h_0 : 0 + 1 ≤ 1 := by decide
  have i_0 : 0 + 100 ≤ 100 := by decide
  refine va_newa (atype := .int) (N' := 100) (a0 := (100, .inl (fun _ => 0))) hx hb (hts _ ai_w) rfl hK hP hD hS hA (fun _ => rfl) (by decide) (by decide) (by decide) h_0 i_0 d_She_init_32 (fun q0 cA H hK2 hP hD hS => ?_)
  obtain rfl : cI = cA := (va_one hK2).symm
  have hP : va_P D classes [(h0, .inr (5, [.int 0, .int 0, .int 0, .int 0, .int 0, .null])), (q0, .inl (cI, 100, .inl (fun _ => 0)))] H := hP
  have hD : va_D A [(h0, .inr (5, [.int 0, .int 0, .int 0, .int 0, .int 0, .null])), (q0, .inl (cI, 100, .inl (fun _ => 0)))] := hD
  refine va_putF (D := D) (ci := 5) (v := .ref q0) (ty := .array .int) (C := R_She) (T := F_She) (N := 6) hx hb hts i_She t_She t_She_ok n_She hown hK hP hD hS 0 rfl rfl 5 (by decide) (hts (.fieldLink R_She 27 "BreatheOut$Shelf" "cells" "[I") (tbl_at 346 (by decide +kernel) rfl)) (fun _ h9 => h9) rfl hin rfl (by decide +kernel) rfl rfl (Nat.le_of_ble_eq_true rfl) d_She_init_34 (fun H locs hP hD hS => ?_)
  have hP : va_P D classes [(h0, .inr (5, [.int 0, .int 0, .int 0, .int 0, .int 0, .ref q0])), (q0, .inl (cI, 100, .inl (fun _ => 0)))] H := hP
  have hD : va_D A [(h0, .inr (5, [.int 0, .int 0, .int 0, .int 0, .int 0, .ref q0])), (q0, .inl (cI, 100, .inl (fun _ => 0)))] := hD
  have hP9 : va_P D classes (sg cI 0 (fun j => if j < 1 then h0 else if j < 2 then q0 else 0) z_She 0 [9, 200]) H := hP
  have hD9 : va_D A (sg cI 0 (fun j => if j < 1 then h0 else if j < 2 then q0 else 0) z_She 0 [9, 200]) := hD
  exact W.vret hx hb hr (fun t ht hW => ⟨⟨(fun j => if j < 1 then h0 else if j < 2 then q0 else 0, 0), rfl, rfl, by rw [ht]; exact hP9, hD9, (fun h => absurd h (by decide))⟩, hS.F ht⟩) hS.2.2 d_She_init_37
def z_Mod : St := fun p k => if p = 1 then upd (upd (upd (fun _ => 0) 3 1) 4 15) 5 120 k else 0
theorem d_Mod_init_0 : decode b_Mod_init 0 = .ok (.aload_n 0, 1) := by decide +kernel
theorem d_Mod_init_1 : decode b_Mod_init 1 = .ok (.invokespecial 1, 3) := by decide +kernel
theorem d_Mod_init_4 : decode b_Mod_init 4 = .ok (.aload_n 0, 1) := by decide +kernel
theorem d_Mod_init_5 : decode b_Mod_init 5 = .ok (.bipush 78, 2) := by decide +kernel
theorem d_Mod_init_7 : decode b_Mod_init 7 = .ok (.newarray .int, 2) := by decide +kernel
theorem d_Mod_init_9 : decode b_Mod_init 9 = .ok (.putfield 9, 3) := by decide +kernel
theorem d_Mod_init_12 : decode b_Mod_init 12 = .ok (.aload_n 0, 1) := by decide +kernel
theorem d_Mod_init_13 : decode b_Mod_init 13 = .ok (.bipush 78, 2) := by decide +kernel
theorem d_Mod_init_15 : decode b_Mod_init 15 = .ok (.newarray .int, 2) := by decide +kernel
theorem d_Mod_init_17 : decode b_Mod_init 17 = .ok (.putfield 13, 3) := by decide +kernel
theorem d_Mod_init_20 : decode b_Mod_init 20 = .ok (.aload_n 0, 1) := by decide +kernel
theorem d_Mod_init_21 : decode b_Mod_init 21 = .ok (.bipush 78, 2) := by decide +kernel
theorem d_Mod_init_23 : decode b_Mod_init 23 = .ok (.newarray .int, 2) := by decide +kernel
theorem d_Mod_init_25 : decode b_Mod_init 25 = .ok (.putfield 16, 3) := by decide +kernel
theorem d_Mod_init_28 : decode b_Mod_init 28 = .ok (.aload_n 0, 1) := by decide +kernel
theorem d_Mod_init_29 : decode b_Mod_init 29 = .ok (.bipush 6, 2) := by decide +kernel
theorem d_Mod_init_31 : decode b_Mod_init 31 = .ok (.newarray .int, 2) := by decide +kernel
theorem d_Mod_init_33 : decode b_Mod_init 33 = .ok (.putfield 19, 3) := by decide +kernel
theorem d_Mod_init_36 : decode b_Mod_init 36 = .ok (.aload_n 0, 1) := by decide +kernel
theorem d_Mod_init_37 : decode b_Mod_init 37 = .ok (.bipush 6, 2) := by decide +kernel
theorem d_Mod_init_39 : decode b_Mod_init 39 = .ok (.newarray .int, 2) := by decide +kernel
theorem d_Mod_init_41 : decode b_Mod_init 41 = .ok (.putfield 22, 3) := by decide +kernel
theorem d_Mod_init_44 : decode b_Mod_init 44 = .ok (.aload_n 0, 1) := by decide +kernel
theorem d_Mod_init_45 : decode b_Mod_init 45 = .ok (.iconst 4, 1) := by decide +kernel
theorem d_Mod_init_46 : decode b_Mod_init 46 = .ok (.newarray .int, 2) := by decide +kernel
theorem d_Mod_init_48 : decode b_Mod_init 48 = .ok (.putfield 25, 3) := by decide +kernel
theorem d_Mod_init_51 : decode b_Mod_init 51 = .ok (.aload_n 0, 1) := by decide +kernel
theorem d_Mod_init_52 : decode b_Mod_init 52 = .ok (.bipush 6, 2) := by decide +kernel
theorem d_Mod_init_54 : decode b_Mod_init 54 = .ok (.newarray .int, 2) := by decide +kernel
theorem d_Mod_init_56 : decode b_Mod_init 56 = .ok (.putfield 28, 3) := by decide +kernel
theorem d_Mod_init_59 : decode b_Mod_init 59 = .ok (.aload_n 0, 1) := by decide +kernel
theorem d_Mod_init_60 : decode b_Mod_init 60 = .ok (.bipush 6, 2) := by decide +kernel
theorem d_Mod_init_62 : decode b_Mod_init 62 = .ok (.newarray .int, 2) := by decide +kernel
theorem d_Mod_init_64 : decode b_Mod_init 64 = .ok (.putfield 31, 3) := by decide +kernel
theorem d_Mod_init_67 : decode b_Mod_init 67 = .ok (.aload_n 0, 1) := by decide +kernel
theorem d_Mod_init_68 : decode b_Mod_init 68 = .ok (.bipush 6, 2) := by decide +kernel
theorem d_Mod_init_70 : decode b_Mod_init 70 = .ok (.newarray .int, 2) := by decide +kernel
theorem d_Mod_init_72 : decode b_Mod_init 72 = .ok (.putfield 34, 3) := by decide +kernel
theorem d_Mod_init_75 : decode b_Mod_init 75 = .ok (.aload_n 0, 1) := by decide +kernel
theorem d_Mod_init_76 : decode b_Mod_init 76 = .ok (.bipush 8, 2) := by decide +kernel
theorem d_Mod_init_78 : decode b_Mod_init 78 = .ok (.newarray .int, 2) := by decide +kernel
theorem d_Mod_init_80 : decode b_Mod_init 80 = .ok (.putfield 37, 3) := by decide +kernel
theorem d_Mod_init_83 : decode b_Mod_init 83 = .ok (.aload_n 0, 1) := by decide +kernel
theorem d_Mod_init_84 : decode b_Mod_init 84 = .ok (.bipush 8, 2) := by decide +kernel
theorem d_Mod_init_86 : decode b_Mod_init 86 = .ok (.newarray .int, 2) := by decide +kernel
theorem d_Mod_init_88 : decode b_Mod_init 88 = .ok (.putfield 40, 3) := by decide +kernel
theorem d_Mod_init_91 : decode b_Mod_init 91 = .ok (.aload_n 0, 1) := by decide +kernel
theorem d_Mod_init_92 : decode b_Mod_init 92 = .ok (.bipush 8, 2) := by decide +kernel
theorem d_Mod_init_94 : decode b_Mod_init 94 = .ok (.newarray .int, 2) := by decide +kernel
theorem d_Mod_init_96 : decode b_Mod_init 96 = .ok (.putfield 43, 3) := by decide +kernel
theorem d_Mod_init_99 : decode b_Mod_init 99 = .ok (.aload_n 0, 1) := by decide +kernel
theorem d_Mod_init_100 : decode b_Mod_init 100 = .ok (.bipush 8, 2) := by decide +kernel
theorem d_Mod_init_102 : decode b_Mod_init 102 = .ok (.newarray .int, 2) := by decide +kernel
theorem d_Mod_init_104 : decode b_Mod_init 104 = .ok (.putfield 46, 3) := by decide +kernel
theorem d_Mod_init_107 : decode b_Mod_init 107 = .ok (.aload_n 0, 1) := by decide +kernel
theorem d_Mod_init_108 : decode b_Mod_init 108 = .ok (.bipush 8, 2) := by decide +kernel
theorem d_Mod_init_110 : decode b_Mod_init 110 = .ok (.newarray .int, 2) := by decide +kernel
theorem d_Mod_init_112 : decode b_Mod_init 112 = .ok (.putfield 49, 3) := by decide +kernel
theorem d_Mod_init_115 : decode b_Mod_init 115 = .ok (.aload_n 0, 1) := by decide +kernel
theorem d_Mod_init_116 : decode b_Mod_init 116 = .ok (.sipush 800, 3) := by decide +kernel
theorem d_Mod_init_119 : decode b_Mod_init 119 = .ok (.newarray .int, 2) := by decide +kernel
theorem d_Mod_init_121 : decode b_Mod_init 121 = .ok (.putfield 52, 3) := by decide +kernel
theorem d_Mod_init_124 : decode b_Mod_init 124 = .ok (.aload_n 0, 1) := by decide +kernel
theorem d_Mod_init_125 : decode b_Mod_init 125 = .ok (.getfield 9, 3) := by decide +kernel
theorem d_Mod_init_128 : decode b_Mod_init 128 = .ok (.iconst 3, 1) := by decide +kernel
theorem d_Mod_init_129 : decode b_Mod_init 129 = .ok (.iconst 1, 1) := by decide +kernel
theorem d_Mod_init_130 : decode b_Mod_init 130 = .ok (.iastore, 1) := by decide +kernel
theorem d_Mod_init_131 : decode b_Mod_init 131 = .ok (.aload_n 0, 1) := by decide +kernel
theorem d_Mod_init_132 : decode b_Mod_init 132 = .ok (.getfield 9, 3) := by decide +kernel
theorem d_Mod_init_135 : decode b_Mod_init 135 = .ok (.iconst 4, 1) := by decide +kernel
theorem d_Mod_init_136 : decode b_Mod_init 136 = .ok (.bipush 15, 2) := by decide +kernel
theorem d_Mod_init_138 : decode b_Mod_init 138 = .ok (.iastore, 1) := by decide +kernel
theorem d_Mod_init_139 : decode b_Mod_init 139 = .ok (.aload_n 0, 1) := by decide +kernel
theorem d_Mod_init_140 : decode b_Mod_init 140 = .ok (.getfield 9, 3) := by decide +kernel
theorem d_Mod_init_143 : decode b_Mod_init 143 = .ok (.iconst 5, 1) := by decide +kernel
theorem d_Mod_init_144 : decode b_Mod_init 144 = .ok (.bipush 120, 2) := by decide +kernel
theorem d_Mod_init_146 : decode b_Mod_init 146 = .ok (.iastore, 1) := by decide +kernel
theorem d_Mod_init_147 : decode b_Mod_init 147 = .ok (.return_, 1) := by decide +kernel
set_option maxHeartbeats 4000000 in
set_option maxRecDepth 100000 in
theorem c_Mod_init (l : Launch) (D : va_G) (cI : ClassId) : Ini l D cI y_Mod_init b_Mod_init 1 ({ frames := 1, cells := 15, slots := 1108, locals := 12 }) 15 1108 (.inr (9, [.null, .null, .null, .int 0, .int 0, .int 0, .int 0, .int 0, .int 0, .int 0, .int 0, .int 0, .int 0, .int 0, .int 0, .int 0, .null, .null, .int 0, .int 0, .int 0, .int 0, .null, .int 0, .int 0, .null, .null, .null, .int 0, .int 0, .int 0, .int 0, .int 0, .null, .null, .null, .null, .null, .null, .int 0])) [10, 178, 178, 178, 106, 106, 104, 106, 106, 106, 108, 108, 108, 108, 108, 900] z_Mod := by
  intro h0 sz
  refine Met.ofW (cc := b_Mod_init) (maxL := 1) (ret := none) (by decide) rfl ?_
  intro p e s m args below meth c s₁ B hml hv
  obtain ⟨rfl, hsz, hP, hK, hN, hD0⟩ := hv
  have hx := B.exec
  have hb := B.bytes
  have hr := B.returns
  have hts0 := atoms_spec (ws := Cond.code y_Mod_init b_Mod_init 1 none :: tbl) B.pre
  have hts : ∀ w ∈ tbl, w.before _ s = true := fun w hw => hts0 w (List.mem_cons_of_mem _ hw)
  have hown : s.vm.findClass R_Mod = some m.cls := findClass_of_methodNamed B.named
  have hlocks := B.notSynchronized
  have hin : meth.name = "<init>" := (name_of_methodNamed B.named B.method).1
  subst hsz
  have hD := hD0.self (sz := s.heap.size)
  unfold iniQ
  generalize hAe : va_A [(h0, .inr (9, [.null, .null, .null, .int 0, .int 0, .int 0, .int 0, .int 0, .int 0, .int 0, .int 0, .int 0, .int 0, .int 0, .int 0, .int 0, .null, .null, .int 0, .int 0, .int 0, .int 0, .null, .int 0, .int 0, .null, .null, .null, .int 0, .int 0, .int 0, .int 0, .int 0, .null, .null, .null, .null, .null, .null, .int 0]))] s.heap.size = A at hD ⊢
  have hA : ∀ q : Nat, s.heap.size ≤ q → A q := fun q h => by rw [← hAe]; exact Or.inr h
  have hS : va_S A s.heap s.heap [] := va_S.rf
  have hP : va_P D classes [(h0, .inr (9, [.null, .null, .null, .int 0, .int 0, .int 0, .int 0, .int 0, .int 0, .int 0, .int 0, .int 0, .int 0, .int 0, .int 0, .int 0, .null, .null, .int 0, .int 0, .int 0, .int 0, .null, .int 0, .int 0, .null, .null, .null, .int 0, .int 0, .int 0, .int 0, .int 0, .null, .null, .null, .null, .null, .null, .int 0]))] s.heap := hP
  have hl := lv_entry ([.ref h0]) (n := 1) (Nat.le_of_ble_eq_true rfl)
  rw [lg_entry_eq]
  generalize (lg_sl ([.ref h0]) ++ List.replicate (1 - (lg_sl ([.ref h0])).length) Slot.unset).toArray = ls at hl ⊢
  have hl : lv_has ls 1 [(0, .ref h0)] := hl
  refine lv_aload_n hx hb d_Mod_init_0 rfl (lv_at hl 0 rfl) ?_
  refine W.objInit hx hb hown (hts (.methodLink R_Mod 1 objectInit) (tbl_at 994 (by decide +kernel) rfl)) (hts (.instanceMethod objectInit) oi_w.1) (hts _ oi_w.2) rfl (by rw [hml]; exact hl.1) rfl d_Mod_init_1 (Nat.le_of_ble_eq_true rfl) (Nat.le_of_ble_eq_true rfl) ?_
  refine W.eq (g2 := F0 m 4 ls []) rfl ?_
  refine lv_aload_n hx hb d_Mod_init_4 rfl (lv_at hl 0 rfl) ?_
  refine lv_bipush (v := 78) hx hb d_Mod_init_5 (by decide) ?_
  have h_0 : 0 + 1 ≤ 15 := by decide
  have i_0 : 0 + 78 ≤ 1108 := by decide
  refine va_newa (atype := .int) (N' := 78) (a0 := (78, .inl (fun _ => 0))) hx hb (hts _ ai_w) rfl hK hP hD hS hA (fun _ => rfl) (by decide) (by decide) (by decide) h_0 i_0 d_Mod_init_7 (fun q0 cA H hK2 hP hD hS => ?_)
  obtain rfl : cI = cA := (va_one hK2).symm
  have hP : va_P D classes [(h0, .inr (9, [.null, .null, .null, .int 0, .int 0, .int 0, .int 0, .int 0, .int 0, .int 0, .int 0, .int 0, .int 0, .int 0, .int 0, .int 0, .null, .null, .int 0, .int 0, .int 0, .int 0, .null, .int 0, .int 0, .null, .null, .null, .int 0, .int 0, .int 0, .int 0, .int 0, .null, .null, .null, .null, .null, .null, .int 0])), (q0, .inl (cI, 78, .inl (fun _ => 0)))] H := hP
  have hD : va_D A [(h0, .inr (9, [.null, .null, .null, .int 0, .int 0, .int 0, .int 0, .int 0, .int 0, .int 0, .int 0, .int 0, .int 0, .int 0, .int 0, .int 0, .null, .null, .int 0, .int 0, .int 0, .int 0, .null, .int 0, .int 0, .null, .null, .null, .int 0, .int 0, .int 0, .int 0, .int 0, .null, .null, .null, .null, .null, .null, .int 0])), (q0, .inl (cI, 78, .inl (fun _ => 0)))] := hD
  refine va_putF (D := D) (ci := 9) (v := .ref q0) (ty := .array .int) (C := R_Mod) (T := F_Mod) (N := 40) hx hb hts i_Mod t_Mod t_Mod_ok n_Mod hown hK hP hD hS 0 rfl rfl 0 (by decide) (hts (.fieldLink R_Mod 9 "BreatheOutModel" "s" "[I") (tbl_at 995 (by decide +kernel) rfl)) (fun _ h9 => h9) rfl hin rfl (by decide +kernel) rfl rfl (Nat.le_of_ble_eq_true rfl) d_Mod_init_9 (fun H locs hP hD hS => ?_)
  have hP : va_P D classes [(h0, .inr (9, [.ref q0, .null, .null, .int 0, .int 0, .int 0, .int 0, .int 0, .int 0, .int 0, .int 0, .int 0, .int 0, .int 0, .int 0, .int 0, .null, .null, .int 0, .int 0, .int 0, .int 0, .null, .int 0, .int 0, .null, .null, .null, .int 0, .int 0, .int 0, .int 0, .int 0, .null, .null, .null, .null, .null, .null, .int 0])), (q0, .inl (cI, 78, .inl (fun _ => 0)))] H := hP
  have hD : va_D A [(h0, .inr (9, [.ref q0, .null, .null, .int 0, .int 0, .int 0, .int 0, .int 0, .int 0, .int 0, .int 0, .int 0, .int 0, .int 0, .int 0, .int 0, .null, .null, .int 0, .int 0, .int 0, .int 0, .null, .int 0, .int 0, .null, .null, .null, .int 0, .int 0, .int 0, .int 0, .int 0, .null, .null, .null, .null, .null, .null, .int 0])), (q0, .inl (cI, 78, .inl (fun _ => 0)))] := hD
  refine lv_aload_n hx hb d_Mod_init_12 rfl (lv_at hl 0 rfl) ?_
  refine lv_bipush (v := 78) hx hb d_Mod_init_13 (by decide) ?_
  have h_1 : 1 + 1 ≤ 15 := by decide
  have i_1 : 78 + 78 ≤ 1108 := by decide
  refine va_newa (atype := .int) (N' := 78) (a0 := (78, .inl (fun _ => 0))) hx hb (hts _ ai_w) rfl hK hP hD hS hA (fun _ => rfl) (by decide) (by decide) (by decide) h_1 i_1 d_Mod_init_15 (fun q1 cA H hK2 hP hD hS => ?_)
  obtain rfl : cI = cA := (va_one hK2).symm
  have hP : va_P D classes [(h0, .inr (9, [.ref q0, .null, .null, .int 0, .int 0, .int 0, .int 0, .int 0, .int 0, .int 0, .int 0, .int 0, .int 0, .int 0, .int 0, .int 0, .null, .null, .int 0, .int 0, .int 0, .int 0, .null, .int 0, .int 0, .null, .null, .null, .int 0, .int 0, .int 0, .int 0, .int 0, .null, .null, .null, .null, .null, .null, .int 0])), (q0, .inl (cI, 78, .inl (fun _ => 0))), (q1, .inl (cI, 78, .inl (fun _ => 0)))] H := hP
  have hD : va_D A [(h0, .inr (9, [.ref q0, .null, .null, .int 0, .int 0, .int 0, .int 0, .int 0, .int 0, .int 0, .int 0, .int 0, .int 0, .int 0, .int 0, .int 0, .null, .null, .int 0, .int 0, .int 0, .int 0, .null, .int 0, .int 0, .null, .null, .null, .int 0, .int 0, .int 0, .int 0, .int 0, .null, .null, .null, .null, .null, .null, .int 0])), (q0, .inl (cI, 78, .inl (fun _ => 0))), (q1, .inl (cI, 78, .inl (fun _ => 0)))] := hD
  refine va_putF (D := D) (ci := 9) (v := .ref q1) (ty := .array .int) (C := R_Mod) (T := F_Mod) (N := 40) hx hb hts i_Mod t_Mod t_Mod_ok n_Mod hown hK hP hD hS 0 rfl rfl 1 (by decide) (hts (.fieldLink R_Mod 13 "BreatheOutModel" "image" "[I") (tbl_at 996 (by decide +kernel) rfl)) (fun _ h9 => h9) rfl hin rfl (by decide +kernel) rfl rfl (Nat.le_of_ble_eq_true rfl) d_Mod_init_17 (fun H locs hP hD hS => ?_)
  have hP : va_P D classes [(h0, .inr (9, [.ref q0, .ref q1, .null, .int 0, .int 0, .int 0, .int 0, .int 0, .int 0, .int 0, .int 0, .int 0, .int 0, .int 0, .int 0, .int 0, .null, .null, .int 0, .int 0, .int 0, .int 0, .null, .int 0, .int 0, .null, .null, .null, .int 0, .int 0, .int 0, .int 0, .int 0, .null, .null, .null, .null, .null, .null, .int 0])), (q0, .inl (cI, 78, .inl (fun _ => 0))), (q1, .inl (cI, 78, .inl (fun _ => 0)))] H := hP
  have hD : va_D A [(h0, .inr (9, [.ref q0, .ref q1, .null, .int 0, .int 0, .int 0, .int 0, .int 0, .int 0, .int 0, .int 0, .int 0, .int 0, .int 0, .int 0, .int 0, .null, .null, .int 0, .int 0, .int 0, .int 0, .null, .int 0, .int 0, .null, .null, .null, .int 0, .int 0, .int 0, .int 0, .int 0, .null, .null, .null, .null, .null, .null, .int 0])), (q0, .inl (cI, 78, .inl (fun _ => 0))), (q1, .inl (cI, 78, .inl (fun _ => 0)))] := hD
  refine lv_aload_n hx hb d_Mod_init_20 rfl (lv_at hl 0 rfl) ?_
  refine lv_bipush (v := 78) hx hb d_Mod_init_21 (by decide) ?_
  have h_2 : 2 + 1 ≤ 15 := by decide
  have i_2 : 156 + 78 ≤ 1108 := by decide
  refine va_newa (atype := .int) (N' := 78) (a0 := (78, .inl (fun _ => 0))) hx hb (hts _ ai_w) rfl hK hP hD hS hA (fun _ => rfl) (by decide) (by decide) (by decide) h_2 i_2 d_Mod_init_23 (fun q2 cA H hK2 hP hD hS => ?_)
  obtain rfl : cI = cA := (va_one hK2).symm
  have hP : va_P D classes [(h0, .inr (9, [.ref q0, .ref q1, .null, .int 0, .int 0, .int 0, .int 0, .int 0, .int 0, .int 0, .int 0, .int 0, .int 0, .int 0, .int 0, .int 0, .null, .null, .int 0, .int 0, .int 0, .int 0, .null, .int 0, .int 0, .null, .null, .null, .int 0, .int 0, .int 0, .int 0, .int 0, .null, .null, .null, .null, .null, .null, .int 0])), (q0, .inl (cI, 78, .inl (fun _ => 0))), (q1, .inl (cI, 78, .inl (fun _ => 0))), (q2, .inl (cI, 78, .inl (fun _ => 0)))] H := hP
  have hD : va_D A [(h0, .inr (9, [.ref q0, .ref q1, .null, .int 0, .int 0, .int 0, .int 0, .int 0, .int 0, .int 0, .int 0, .int 0, .int 0, .int 0, .int 0, .int 0, .null, .null, .int 0, .int 0, .int 0, .int 0, .null, .int 0, .int 0, .null, .null, .null, .int 0, .int 0, .int 0, .int 0, .int 0, .null, .null, .null, .null, .null, .null, .int 0])), (q0, .inl (cI, 78, .inl (fun _ => 0))), (q1, .inl (cI, 78, .inl (fun _ => 0))), (q2, .inl (cI, 78, .inl (fun _ => 0)))] := hD
  refine va_putF (D := D) (ci := 9) (v := .ref q2) (ty := .array .int) (C := R_Mod) (T := F_Mod) (N := 40) hx hb hts i_Mod t_Mod t_Mod_ok n_Mod hown hK hP hD hS 0 rfl rfl 2 (by decide) (hts (.fieldLink R_Mod 16 "BreatheOutModel" "was" "[I") (tbl_at 997 (by decide +kernel) rfl)) (fun _ h9 => h9) rfl hin rfl (by decide +kernel) rfl rfl (Nat.le_of_ble_eq_true rfl) d_Mod_init_25 (fun H locs hP hD hS => ?_)
  have hP : va_P D classes [(h0, .inr (9, [.ref q0, .ref q1, .ref q2, .int 0, .int 0, .int 0, .int 0, .int 0, .int 0, .int 0, .int 0, .int 0, .int 0, .int 0, .int 0, .int 0, .null, .null, .int 0, .int 0, .int 0, .int 0, .null, .int 0, .int 0, .null, .null, .null, .int 0, .int 0, .int 0, .int 0, .int 0, .null, .null, .null, .null, .null, .null, .int 0])), (q0, .inl (cI, 78, .inl (fun _ => 0))), (q1, .inl (cI, 78, .inl (fun _ => 0))), (q2, .inl (cI, 78, .inl (fun _ => 0)))] H := hP
  have hD : va_D A [(h0, .inr (9, [.ref q0, .ref q1, .ref q2, .int 0, .int 0, .int 0, .int 0, .int 0, .int 0, .int 0, .int 0, .int 0, .int 0, .int 0, .int 0, .int 0, .null, .null, .int 0, .int 0, .int 0, .int 0, .null, .int 0, .int 0, .null, .null, .null, .int 0, .int 0, .int 0, .int 0, .int 0, .null, .null, .null, .null, .null, .null, .int 0])), (q0, .inl (cI, 78, .inl (fun _ => 0))), (q1, .inl (cI, 78, .inl (fun _ => 0))), (q2, .inl (cI, 78, .inl (fun _ => 0)))] := hD
  refine lv_aload_n hx hb d_Mod_init_28 rfl (lv_at hl 0 rfl) ?_
  refine lv_bipush (v := 6) hx hb d_Mod_init_29 (by decide) ?_
  have h_3 : 3 + 1 ≤ 15 := by decide
  have i_3 : 234 + 6 ≤ 1108 := by decide
  refine va_newa (atype := .int) (N' := 6) (a0 := (6, .inl (fun _ => 0))) hx hb (hts _ ai_w) rfl hK hP hD hS hA (fun _ => rfl) (by decide) (by decide) (by decide) h_3 i_3 d_Mod_init_31 (fun q3 cA H hK2 hP hD hS => ?_)
  obtain rfl : cI = cA := (va_one hK2).symm
  have hP : va_P D classes [(h0, .inr (9, [.ref q0, .ref q1, .ref q2, .int 0, .int 0, .int 0, .int 0, .int 0, .int 0, .int 0, .int 0, .int 0, .int 0, .int 0, .int 0, .int 0, .null, .null, .int 0, .int 0, .int 0, .int 0, .null, .int 0, .int 0, .null, .null, .null, .int 0, .int 0, .int 0, .int 0, .int 0, .null, .null, .null, .null, .null, .null, .int 0])), (q0, .inl (cI, 78, .inl (fun _ => 0))), (q1, .inl (cI, 78, .inl (fun _ => 0))), (q2, .inl (cI, 78, .inl (fun _ => 0))), (q3, .inl (cI, 6, .inl (fun _ => 0)))] H := hP
  have hD : va_D A [(h0, .inr (9, [.ref q0, .ref q1, .ref q2, .int 0, .int 0, .int 0, .int 0, .int 0, .int 0, .int 0, .int 0, .int 0, .int 0, .int 0, .int 0, .int 0, .null, .null, .int 0, .int 0, .int 0, .int 0, .null, .int 0, .int 0, .null, .null, .null, .int 0, .int 0, .int 0, .int 0, .int 0, .null, .null, .null, .null, .null, .null, .int 0])), (q0, .inl (cI, 78, .inl (fun _ => 0))), (q1, .inl (cI, 78, .inl (fun _ => 0))), (q2, .inl (cI, 78, .inl (fun _ => 0))), (q3, .inl (cI, 6, .inl (fun _ => 0)))] := hD
  refine va_putF (D := D) (ci := 9) (v := .ref q3) (ty := .array .int) (C := R_Mod) (T := F_Mod) (N := 40) hx hb hts i_Mod t_Mod t_Mod_ok n_Mod hown hK hP hD hS 0 rfl rfl 16 (by decide) (hts (.fieldLink R_Mod 19 "BreatheOutModel" "throughAt" "[I") (tbl_at 1011 (by decide +kernel) rfl)) (fun _ h9 => h9) rfl hin rfl (by decide +kernel) rfl rfl (Nat.le_of_ble_eq_true rfl) d_Mod_init_33 (fun H locs hP hD hS => ?_)
  have hP : va_P D classes [(h0, .inr (9, [.ref q0, .ref q1, .ref q2, .int 0, .int 0, .int 0, .int 0, .int 0, .int 0, .int 0, .int 0, .int 0, .int 0, .int 0, .int 0, .int 0, .ref q3, .null, .int 0, .int 0, .int 0, .int 0, .null, .int 0, .int 0, .null, .null, .null, .int 0, .int 0, .int 0, .int 0, .int 0, .null, .null, .null, .null, .null, .null, .int 0])), (q0, .inl (cI, 78, .inl (fun _ => 0))), (q1, .inl (cI, 78, .inl (fun _ => 0))), (q2, .inl (cI, 78, .inl (fun _ => 0))), (q3, .inl (cI, 6, .inl (fun _ => 0)))] H := hP
  have hD : va_D A [(h0, .inr (9, [.ref q0, .ref q1, .ref q2, .int 0, .int 0, .int 0, .int 0, .int 0, .int 0, .int 0, .int 0, .int 0, .int 0, .int 0, .int 0, .int 0, .ref q3, .null, .int 0, .int 0, .int 0, .int 0, .null, .int 0, .int 0, .null, .null, .null, .int 0, .int 0, .int 0, .int 0, .int 0, .null, .null, .null, .null, .null, .null, .int 0])), (q0, .inl (cI, 78, .inl (fun _ => 0))), (q1, .inl (cI, 78, .inl (fun _ => 0))), (q2, .inl (cI, 78, .inl (fun _ => 0))), (q3, .inl (cI, 6, .inl (fun _ => 0)))] := hD
  refine lv_aload_n hx hb d_Mod_init_36 rfl (lv_at hl 0 rfl) ?_
  refine lv_bipush (v := 6) hx hb d_Mod_init_37 (by decide) ?_
  have h_4 : 4 + 1 ≤ 15 := by decide
  have i_4 : 240 + 6 ≤ 1108 := by decide
  refine va_newa (atype := .int) (N' := 6) (a0 := (6, .inl (fun _ => 0))) hx hb (hts _ ai_w) rfl hK hP hD hS hA (fun _ => rfl) (by decide) (by decide) (by decide) h_4 i_4 d_Mod_init_39 (fun q4 cA H hK2 hP hD hS => ?_)
  obtain rfl : cI = cA := (va_one hK2).symm
  have hP : va_P D classes [(h0, .inr (9, [.ref q0, .ref q1, .ref q2, .int 0, .int 0, .int 0, .int 0, .int 0, .int 0, .int 0, .int 0, .int 0, .int 0, .int 0, .int 0, .int 0, .ref q3, .null, .int 0, .int 0, .int 0, .int 0, .null, .int 0, .int 0, .null, .null, .null, .int 0, .int 0, .int 0, .int 0, .int 0, .null, .null, .null, .null, .null, .null, .int 0])), (q0, .inl (cI, 78, .inl (fun _ => 0))), (q1, .inl (cI, 78, .inl (fun _ => 0))), (q2, .inl (cI, 78, .inl (fun _ => 0))), (q3, .inl (cI, 6, .inl (fun _ => 0))), (q4, .inl (cI, 6, .inl (fun _ => 0)))] H := hP
  have hD : va_D A [(h0, .inr (9, [.ref q0, .ref q1, .ref q2, .int 0, .int 0, .int 0, .int 0, .int 0, .int 0, .int 0, .int 0, .int 0, .int 0, .int 0, .int 0, .int 0, .ref q3, .null, .int 0, .int 0, .int 0, .int 0, .null, .int 0, .int 0, .null, .null, .null, .int 0, .int 0, .int 0, .int 0, .int 0, .null, .null, .null, .null, .null, .null, .int 0])), (q0, .inl (cI, 78, .inl (fun _ => 0))), (q1, .inl (cI, 78, .inl (fun _ => 0))), (q2, .inl (cI, 78, .inl (fun _ => 0))), (q3, .inl (cI, 6, .inl (fun _ => 0))), (q4, .inl (cI, 6, .inl (fun _ => 0)))] := hD
  refine va_putF (D := D) (ci := 9) (v := .ref q4) (ty := .array .int) (C := R_Mod) (T := F_Mod) (N := 40) hx hb hts i_Mod t_Mod t_Mod_ok n_Mod hown hK hP hD hS 0 rfl rfl 17 (by decide) (hts (.fieldLink R_Mod 22 "BreatheOutModel" "line" "[I") (tbl_at 1012 (by decide +kernel) rfl)) (fun _ h9 => h9) rfl hin rfl (by decide +kernel) rfl rfl (Nat.le_of_ble_eq_true rfl) d_Mod_init_41 (fun H locs hP hD hS => ?_)
  have hP : va_P D classes [(h0, .inr (9, [.ref q0, .ref q1, .ref q2, .int 0, .int 0, .int 0, .int 0, .int 0, .int 0, .int 0, .int 0, .int 0, .int 0, .int 0, .int 0, .int 0, .ref q3, .ref q4, .int 0, .int 0, .int 0, .int 0, .null, .int 0, .int 0, .null, .null, .null, .int 0, .int 0, .int 0, .int 0, .int 0, .null, .null, .null, .null, .null, .null, .int 0])), (q0, .inl (cI, 78, .inl (fun _ => 0))), (q1, .inl (cI, 78, .inl (fun _ => 0))), (q2, .inl (cI, 78, .inl (fun _ => 0))), (q3, .inl (cI, 6, .inl (fun _ => 0))), (q4, .inl (cI, 6, .inl (fun _ => 0)))] H := hP
  have hD : va_D A [(h0, .inr (9, [.ref q0, .ref q1, .ref q2, .int 0, .int 0, .int 0, .int 0, .int 0, .int 0, .int 0, .int 0, .int 0, .int 0, .int 0, .int 0, .int 0, .ref q3, .ref q4, .int 0, .int 0, .int 0, .int 0, .null, .int 0, .int 0, .null, .null, .null, .int 0, .int 0, .int 0, .int 0, .int 0, .null, .null, .null, .null, .null, .null, .int 0])), (q0, .inl (cI, 78, .inl (fun _ => 0))), (q1, .inl (cI, 78, .inl (fun _ => 0))), (q2, .inl (cI, 78, .inl (fun _ => 0))), (q3, .inl (cI, 6, .inl (fun _ => 0))), (q4, .inl (cI, 6, .inl (fun _ => 0)))] := hD
  refine lv_aload_n hx hb d_Mod_init_44 rfl (lv_at hl 0 rfl) ?_
  refine lv_iconst (v := 4) hx hb d_Mod_init_45 (by decide) ?_
  have h_5 : 5 + 1 ≤ 15 := by decide
  have i_5 : 246 + 4 ≤ 1108 := by decide
  refine va_newa (atype := .int) (N' := 4) (a0 := (4, .inl (fun _ => 0))) hx hb (hts _ ai_w) rfl hK hP hD hS hA (fun _ => rfl) (by decide) (by decide) (by decide) h_5 i_5 d_Mod_init_46 (fun q5 cA H hK2 hP hD hS => ?_)
  obtain rfl : cI = cA := (va_one hK2).symm
  have hP : va_P D classes [(h0, .inr (9, [.ref q0, .ref q1, .ref q2, .int 0, .int 0, .int 0, .int 0, .int 0, .int 0, .int 0, .int 0, .int 0, .int 0, .int 0, .int 0, .int 0, .ref q3, .ref q4, .int 0, .int 0, .int 0, .int 0, .null, .int 0, .int 0, .null, .null, .null, .int 0, .int 0, .int 0, .int 0, .int 0, .null, .null, .null, .null, .null, .null, .int 0])), (q0, .inl (cI, 78, .inl (fun _ => 0))), (q1, .inl (cI, 78, .inl (fun _ => 0))), (q2, .inl (cI, 78, .inl (fun _ => 0))), (q3, .inl (cI, 6, .inl (fun _ => 0))), (q4, .inl (cI, 6, .inl (fun _ => 0))), (q5, .inl (cI, 4, .inl (fun _ => 0)))] H := hP
  have hD : va_D A [(h0, .inr (9, [.ref q0, .ref q1, .ref q2, .int 0, .int 0, .int 0, .int 0, .int 0, .int 0, .int 0, .int 0, .int 0, .int 0, .int 0, .int 0, .int 0, .ref q3, .ref q4, .int 0, .int 0, .int 0, .int 0, .null, .int 0, .int 0, .null, .null, .null, .int 0, .int 0, .int 0, .int 0, .int 0, .null, .null, .null, .null, .null, .null, .int 0])), (q0, .inl (cI, 78, .inl (fun _ => 0))), (q1, .inl (cI, 78, .inl (fun _ => 0))), (q2, .inl (cI, 78, .inl (fun _ => 0))), (q3, .inl (cI, 6, .inl (fun _ => 0))), (q4, .inl (cI, 6, .inl (fun _ => 0))), (q5, .inl (cI, 4, .inl (fun _ => 0)))] := hD
  refine va_putF (D := D) (ci := 9) (v := .ref q5) (ty := .array .int) (C := R_Mod) (T := F_Mod) (N := 40) hx hb hts i_Mod t_Mod t_Mod_ok n_Mod hown hK hP hD hS 0 rfl rfl 22 (by decide) (hts (.fieldLink R_Mod 25 "BreatheOutModel" "numbers" "[I") (tbl_at 1017 (by decide +kernel) rfl)) (fun _ h9 => h9) rfl hin rfl (by decide +kernel) rfl rfl (Nat.le_of_ble_eq_true rfl) d_Mod_init_48 (fun H locs hP hD hS => ?_)
  have hP : va_P D classes [(h0, .inr (9, [.ref q0, .ref q1, .ref q2, .int 0, .int 0, .int 0, .int 0, .int 0, .int 0, .int 0, .int 0, .int 0, .int 0, .int 0, .int 0, .int 0, .ref q3, .ref q4, .int 0, .int 0, .int 0, .int 0, .ref q5, .int 0, .int 0, .null, .null, .null, .int 0, .int 0, .int 0, .int 0, .int 0, .null, .null, .null, .null, .null, .null, .int 0])), (q0, .inl (cI, 78, .inl (fun _ => 0))), (q1, .inl (cI, 78, .inl (fun _ => 0))), (q2, .inl (cI, 78, .inl (fun _ => 0))), (q3, .inl (cI, 6, .inl (fun _ => 0))), (q4, .inl (cI, 6, .inl (fun _ => 0))), (q5, .inl (cI, 4, .inl (fun _ => 0)))] H := hP
  have hD : va_D A [(h0, .inr (9, [.ref q0, .ref q1, .ref q2, .int 0, .int 0, .int 0, .int 0, .int 0, .int 0, .int 0, .int 0, .int 0, .int 0, .int 0, .int 0, .int 0, .ref q3, .ref q4, .int 0, .int 0, .int 0, .int 0, .ref q5, .int 0, .int 0, .null, .null, .null, .int 0, .int 0, .int 0, .int 0, .int 0, .null, .null, .null, .null, .null, .null, .int 0])), (q0, .inl (cI, 78, .inl (fun _ => 0))), (q1, .inl (cI, 78, .inl (fun _ => 0))), (q2, .inl (cI, 78, .inl (fun _ => 0))), (q3, .inl (cI, 6, .inl (fun _ => 0))), (q4, .inl (cI, 6, .inl (fun _ => 0))), (q5, .inl (cI, 4, .inl (fun _ => 0)))] := hD
  refine lv_aload_n hx hb d_Mod_init_51 rfl (lv_at hl 0 rfl) ?_
  refine lv_bipush (v := 6) hx hb d_Mod_init_52 (by decide) ?_
  have h_6 : 6 + 1 ≤ 15 := by decide
  have i_6 : 250 + 6 ≤ 1108 := by decide
  refine va_newa (atype := .int) (N' := 6) (a0 := (6, .inl (fun _ => 0))) hx hb (hts _ ai_w) rfl hK hP hD hS hA (fun _ => rfl) (by decide) (by decide) (by decide) h_6 i_6 d_Mod_init_54 (fun q6 cA H hK2 hP hD hS => ?_)
  obtain rfl : cI = cA := (va_one hK2).symm
  have hP : va_P D classes [(h0, .inr (9, [.ref q0, .ref q1, .ref q2, .int 0, .int 0, .int 0, .int 0, .int 0, .int 0, .int 0, .int 0, .int 0, .int 0, .int 0, .int 0, .int 0, .ref q3, .ref q4, .int 0, .int 0, .int 0, .int 0, .ref q5, .int 0, .int 0, .null, .null, .null, .int 0, .int 0, .int 0, .int 0, .int 0, .null, .null, .null, .null, .null, .null, .int 0])), (q0, .inl (cI, 78, .inl (fun _ => 0))), (q1, .inl (cI, 78, .inl (fun _ => 0))), (q2, .inl (cI, 78, .inl (fun _ => 0))), (q3, .inl (cI, 6, .inl (fun _ => 0))), (q4, .inl (cI, 6, .inl (fun _ => 0))), (q5, .inl (cI, 4, .inl (fun _ => 0))), (q6, .inl (cI, 6, .inl (fun _ => 0)))] H := hP
  have hD : va_D A [(h0, .inr (9, [.ref q0, .ref q1, .ref q2, .int 0, .int 0, .int 0, .int 0, .int 0, .int 0, .int 0, .int 0, .int 0, .int 0, .int 0, .int 0, .int 0, .ref q3, .ref q4, .int 0, .int 0, .int 0, .int 0, .ref q5, .int 0, .int 0, .null, .null, .null, .int 0, .int 0, .int 0, .int 0, .int 0, .null, .null, .null, .null, .null, .null, .int 0])), (q0, .inl (cI, 78, .inl (fun _ => 0))), (q1, .inl (cI, 78, .inl (fun _ => 0))), (q2, .inl (cI, 78, .inl (fun _ => 0))), (q3, .inl (cI, 6, .inl (fun _ => 0))), (q4, .inl (cI, 6, .inl (fun _ => 0))), (q5, .inl (cI, 4, .inl (fun _ => 0))), (q6, .inl (cI, 6, .inl (fun _ => 0)))] := hD
  refine va_putF (D := D) (ci := 9) (v := .ref q6) (ty := .array .int) (C := R_Mod) (T := F_Mod) (N := 40) hx hb hts i_Mod t_Mod t_Mod_ok n_Mod hown hK hP hD hS 0 rfl rfl 25 (by decide) (hts (.fieldLink R_Mod 28 "BreatheOutModel" "bestOrder" "[I") (tbl_at 1020 (by decide +kernel) rfl)) (fun _ h9 => h9) rfl hin rfl (by decide +kernel) rfl rfl (Nat.le_of_ble_eq_true rfl) d_Mod_init_56 (fun H locs hP hD hS => ?_)
  have hP : va_P D classes [(h0, .inr (9, [.ref q0, .ref q1, .ref q2, .int 0, .int 0, .int 0, .int 0, .int 0, .int 0, .int 0, .int 0, .int 0, .int 0, .int 0, .int 0, .int 0, .ref q3, .ref q4, .int 0, .int 0, .int 0, .int 0, .ref q5, .int 0, .int 0, .ref q6, .null, .null, .int 0, .int 0, .int 0, .int 0, .int 0, .null, .null, .null, .null, .null, .null, .int 0])), (q0, .inl (cI, 78, .inl (fun _ => 0))), (q1, .inl (cI, 78, .inl (fun _ => 0))), (q2, .inl (cI, 78, .inl (fun _ => 0))), (q3, .inl (cI, 6, .inl (fun _ => 0))), (q4, .inl (cI, 6, .inl (fun _ => 0))), (q5, .inl (cI, 4, .inl (fun _ => 0))), (q6, .inl (cI, 6, .inl (fun _ => 0)))] H := hP
  have hD : va_D A [(h0, .inr (9, [.ref q0, .ref q1, .ref q2, .int 0, .int 0, .int 0, .int 0, .int 0, .int 0, .int 0, .int 0, .int 0, .int 0, .int 0, .int 0, .int 0, .ref q3, .ref q4, .int 0, .int 0, .int 0, .int 0, .ref q5, .int 0, .int 0, .ref q6, .null, .null, .int 0, .int 0, .int 0, .int 0, .int 0, .null, .null, .null, .null, .null, .null, .int 0])), (q0, .inl (cI, 78, .inl (fun _ => 0))), (q1, .inl (cI, 78, .inl (fun _ => 0))), (q2, .inl (cI, 78, .inl (fun _ => 0))), (q3, .inl (cI, 6, .inl (fun _ => 0))), (q4, .inl (cI, 6, .inl (fun _ => 0))), (q5, .inl (cI, 4, .inl (fun _ => 0))), (q6, .inl (cI, 6, .inl (fun _ => 0)))] := hD
  refine lv_aload_n hx hb d_Mod_init_59 rfl (lv_at hl 0 rfl) ?_
  refine lv_bipush (v := 6) hx hb d_Mod_init_60 (by decide) ?_
  have h_7 : 7 + 1 ≤ 15 := by decide
  have i_7 : 256 + 6 ≤ 1108 := by decide
  refine va_newa (atype := .int) (N' := 6) (a0 := (6, .inl (fun _ => 0))) hx hb (hts _ ai_w) rfl hK hP hD hS hA (fun _ => rfl) (by decide) (by decide) (by decide) h_7 i_7 d_Mod_init_62 (fun q7 cA H hK2 hP hD hS => ?_)
  obtain rfl : cI = cA := (va_one hK2).symm
  have hP : va_P D classes [(h0, .inr (9, [.ref q0, .ref q1, .ref q2, .int 0, .int 0, .int 0, .int 0, .int 0, .int 0, .int 0, .int 0, .int 0, .int 0, .int 0, .int 0, .int 0, .ref q3, .ref q4, .int 0, .int 0, .int 0, .int 0, .ref q5, .int 0, .int 0, .ref q6, .null, .null, .int 0, .int 0, .int 0, .int 0, .int 0, .null, .null, .null, .null, .null, .null, .int 0])), (q0, .inl (cI, 78, .inl (fun _ => 0))), (q1, .inl (cI, 78, .inl (fun _ => 0))), (q2, .inl (cI, 78, .inl (fun _ => 0))), (q3, .inl (cI, 6, .inl (fun _ => 0))), (q4, .inl (cI, 6, .inl (fun _ => 0))), (q5, .inl (cI, 4, .inl (fun _ => 0))), (q6, .inl (cI, 6, .inl (fun _ => 0))), (q7, .inl (cI, 6, .inl (fun _ => 0)))] H := hP
  have hD : va_D A [(h0, .inr (9, [.ref q0, .ref q1, .ref q2, .int 0, .int 0, .int 0, .int 0, .int 0, .int 0, .int 0, .int 0, .int 0, .int 0, .int 0, .int 0, .int 0, .ref q3, .ref q4, .int 0, .int 0, .int 0, .int 0, .ref q5, .int 0, .int 0, .ref q6, .null, .null, .int 0, .int 0, .int 0, .int 0, .int 0, .null, .null, .null, .null, .null, .null, .int 0])), (q0, .inl (cI, 78, .inl (fun _ => 0))), (q1, .inl (cI, 78, .inl (fun _ => 0))), (q2, .inl (cI, 78, .inl (fun _ => 0))), (q3, .inl (cI, 6, .inl (fun _ => 0))), (q4, .inl (cI, 6, .inl (fun _ => 0))), (q5, .inl (cI, 4, .inl (fun _ => 0))), (q6, .inl (cI, 6, .inl (fun _ => 0))), (q7, .inl (cI, 6, .inl (fun _ => 0)))] := hD
  refine va_putF (D := D) (ci := 9) (v := .ref q7) (ty := .array .int) (C := R_Mod) (T := F_Mod) (N := 40) hx hb hts i_Mod t_Mod t_Mod_ok n_Mod hown hK hP hD hS 0 rfl rfl 26 (by decide) (hts (.fieldLink R_Mod 31 "BreatheOutModel" "deed" "[I") (tbl_at 1021 (by decide +kernel) rfl)) (fun _ h9 => h9) rfl hin rfl (by decide +kernel) rfl rfl (Nat.le_of_ble_eq_true rfl) d_Mod_init_64 (fun H locs hP hD hS => ?_)
  have hP : va_P D classes [(h0, .inr (9, [.ref q0, .ref q1, .ref q2, .int 0, .int 0, .int 0, .int 0, .int 0, .int 0, .int 0, .int 0, .int 0, .int 0, .int 0, .int 0, .int 0, .ref q3, .ref q4, .int 0, .int 0, .int 0, .int 0, .ref q5, .int 0, .int 0, .ref q6, .ref q7, .null, .int 0, .int 0, .int 0, .int 0, .int 0, .null, .null, .null, .null, .null, .null, .int 0])), (q0, .inl (cI, 78, .inl (fun _ => 0))), (q1, .inl (cI, 78, .inl (fun _ => 0))), (q2, .inl (cI, 78, .inl (fun _ => 0))), (q3, .inl (cI, 6, .inl (fun _ => 0))), (q4, .inl (cI, 6, .inl (fun _ => 0))), (q5, .inl (cI, 4, .inl (fun _ => 0))), (q6, .inl (cI, 6, .inl (fun _ => 0))), (q7, .inl (cI, 6, .inl (fun _ => 0)))] H := hP
  have hD : va_D A [(h0, .inr (9, [.ref q0, .ref q1, .ref q2, .int 0, .int 0, .int 0, .int 0, .int 0, .int 0, .int 0, .int 0, .int 0, .int 0, .int 0, .int 0, .int 0, .ref q3, .ref q4, .int 0, .int 0, .int 0, .int 0, .ref q5, .int 0, .int 0, .ref q6, .ref q7, .null, .int 0, .int 0, .int 0, .int 0, .int 0, .null, .null, .null, .null, .null, .null, .int 0])), (q0, .inl (cI, 78, .inl (fun _ => 0))), (q1, .inl (cI, 78, .inl (fun _ => 0))), (q2, .inl (cI, 78, .inl (fun _ => 0))), (q3, .inl (cI, 6, .inl (fun _ => 0))), (q4, .inl (cI, 6, .inl (fun _ => 0))), (q5, .inl (cI, 4, .inl (fun _ => 0))), (q6, .inl (cI, 6, .inl (fun _ => 0))), (q7, .inl (cI, 6, .inl (fun _ => 0)))] := hD
  refine lv_aload_n hx hb d_Mod_init_67 rfl (lv_at hl 0 rfl) ?_
  refine lv_bipush (v := 6) hx hb d_Mod_init_68 (by decide) ?_
  have h_8 : 8 + 1 ≤ 15 := by decide
  have i_8 : 262 + 6 ≤ 1108 := by decide
  refine va_newa (atype := .int) (N' := 6) (a0 := (6, .inl (fun _ => 0))) hx hb (hts _ ai_w) rfl hK hP hD hS hA (fun _ => rfl) (by decide) (by decide) (by decide) h_8 i_8 d_Mod_init_70 (fun q8 cA H hK2 hP hD hS => ?_)
  obtain rfl : cI = cA := (va_one hK2).symm
  have hP : va_P D classes [(h0, .inr (9, [.ref q0, .ref q1, .ref q2, .int 0, .int 0, .int 0, .int 0, .int 0, .int 0, .int 0, .int 0, .int 0, .int 0, .int 0, .int 0, .int 0, .ref q3, .ref q4, .int 0, .int 0, .int 0, .int 0, .ref q5, .int 0, .int 0, .ref q6, .ref q7, .null, .int 0, .int 0, .int 0, .int 0, .int 0, .null, .null, .null, .null, .null, .null, .int 0])), (q0, .inl (cI, 78, .inl (fun _ => 0))), (q1, .inl (cI, 78, .inl (fun _ => 0))), (q2, .inl (cI, 78, .inl (fun _ => 0))), (q3, .inl (cI, 6, .inl (fun _ => 0))), (q4, .inl (cI, 6, .inl (fun _ => 0))), (q5, .inl (cI, 4, .inl (fun _ => 0))), (q6, .inl (cI, 6, .inl (fun _ => 0))), (q7, .inl (cI, 6, .inl (fun _ => 0))), (q8, .inl (cI, 6, .inl (fun _ => 0)))] H := hP
  have hD : va_D A [(h0, .inr (9, [.ref q0, .ref q1, .ref q2, .int 0, .int 0, .int 0, .int 0, .int 0, .int 0, .int 0, .int 0, .int 0, .int 0, .int 0, .int 0, .int 0, .ref q3, .ref q4, .int 0, .int 0, .int 0, .int 0, .ref q5, .int 0, .int 0, .ref q6, .ref q7, .null, .int 0, .int 0, .int 0, .int 0, .int 0, .null, .null, .null, .null, .null, .null, .int 0])), (q0, .inl (cI, 78, .inl (fun _ => 0))), (q1, .inl (cI, 78, .inl (fun _ => 0))), (q2, .inl (cI, 78, .inl (fun _ => 0))), (q3, .inl (cI, 6, .inl (fun _ => 0))), (q4, .inl (cI, 6, .inl (fun _ => 0))), (q5, .inl (cI, 4, .inl (fun _ => 0))), (q6, .inl (cI, 6, .inl (fun _ => 0))), (q7, .inl (cI, 6, .inl (fun _ => 0))), (q8, .inl (cI, 6, .inl (fun _ => 0)))] := hD
  refine va_putF (D := D) (ci := 9) (v := .ref q8) (ty := .array .int) (C := R_Mod) (T := F_Mod) (N := 40) hx hb hts i_Mod t_Mod t_Mod_ok n_Mod hown hK hP hD hS 0 rfl rfl 27 (by decide) (hts (.fieldLink R_Mod 34 "BreatheOutModel" "bestDeed" "[I") (tbl_at 1022 (by decide +kernel) rfl)) (fun _ h9 => h9) rfl hin rfl (by decide +kernel) rfl rfl (Nat.le_of_ble_eq_true rfl) d_Mod_init_72 (fun H locs hP hD hS => ?_)
  have hP : va_P D classes [(h0, .inr (9, [.ref q0, .ref q1, .ref q2, .int 0, .int 0, .int 0, .int 0, .int 0, .int 0, .int 0, .int 0, .int 0, .int 0, .int 0, .int 0, .int 0, .ref q3, .ref q4, .int 0, .int 0, .int 0, .int 0, .ref q5, .int 0, .int 0, .ref q6, .ref q7, .ref q8, .int 0, .int 0, .int 0, .int 0, .int 0, .null, .null, .null, .null, .null, .null, .int 0])), (q0, .inl (cI, 78, .inl (fun _ => 0))), (q1, .inl (cI, 78, .inl (fun _ => 0))), (q2, .inl (cI, 78, .inl (fun _ => 0))), (q3, .inl (cI, 6, .inl (fun _ => 0))), (q4, .inl (cI, 6, .inl (fun _ => 0))), (q5, .inl (cI, 4, .inl (fun _ => 0))), (q6, .inl (cI, 6, .inl (fun _ => 0))), (q7, .inl (cI, 6, .inl (fun _ => 0))), (q8, .inl (cI, 6, .inl (fun _ => 0)))] H := hP
  have hD : va_D A [(h0, .inr (9, [.ref q0, .ref q1, .ref q2, .int 0, .int 0, .int 0, .int 0, .int 0, .int 0, .int 0, .int 0, .int 0, .int 0, .int 0, .int 0, .int 0, .ref q3, .ref q4, .int 0, .int 0, .int 0, .int 0, .ref q5, .int 0, .int 0, .ref q6, .ref q7, .ref q8, .int 0, .int 0, .int 0, .int 0, .int 0, .null, .null, .null, .null, .null, .null, .int 0])), (q0, .inl (cI, 78, .inl (fun _ => 0))), (q1, .inl (cI, 78, .inl (fun _ => 0))), (q2, .inl (cI, 78, .inl (fun _ => 0))), (q3, .inl (cI, 6, .inl (fun _ => 0))), (q4, .inl (cI, 6, .inl (fun _ => 0))), (q5, .inl (cI, 4, .inl (fun _ => 0))), (q6, .inl (cI, 6, .inl (fun _ => 0))), (q7, .inl (cI, 6, .inl (fun _ => 0))), (q8, .inl (cI, 6, .inl (fun _ => 0)))] := hD
  refine lv_aload_n hx hb d_Mod_init_75 rfl (lv_at hl 0 rfl) ?_
  refine lv_bipush (v := 8) hx hb d_Mod_init_76 (by decide) ?_
  have h_9 : 9 + 1 ≤ 15 := by decide
  have i_9 : 268 + 8 ≤ 1108 := by decide
  refine va_newa (atype := .int) (N' := 8) (a0 := (8, .inl (fun _ => 0))) hx hb (hts _ ai_w) rfl hK hP hD hS hA (fun _ => rfl) (by decide) (by decide) (by decide) h_9 i_9 d_Mod_init_78 (fun q9 cA H hK2 hP hD hS => ?_)
  obtain rfl : cI = cA := (va_one hK2).symm
  have hP : va_P D classes [(h0, .inr (9, [.ref q0, .ref q1, .ref q2, .int 0, .int 0, .int 0, .int 0, .int 0, .int 0, .int 0, .int 0, .int 0, .int 0, .int 0, .int 0, .int 0, .ref q3, .ref q4, .int 0, .int 0, .int 0, .int 0, .ref q5, .int 0, .int 0, .ref q6, .ref q7, .ref q8, .int 0, .int 0, .int 0, .int 0, .int 0, .null, .null, .null, .null, .null, .null, .int 0])), (q0, .inl (cI, 78, .inl (fun _ => 0))), (q1, .inl (cI, 78, .inl (fun _ => 0))), (q2, .inl (cI, 78, .inl (fun _ => 0))), (q3, .inl (cI, 6, .inl (fun _ => 0))), (q4, .inl (cI, 6, .inl (fun _ => 0))), (q5, .inl (cI, 4, .inl (fun _ => 0))), (q6, .inl (cI, 6, .inl (fun _ => 0))), (q7, .inl (cI, 6, .inl (fun _ => 0))), (q8, .inl (cI, 6, .inl (fun _ => 0))), (q9, .inl (cI, 8, .inl (fun _ => 0)))] H := hP
  have hD : va_D A [(h0, .inr (9, [.ref q0, .ref q1, .ref q2, .int 0, .int 0, .int 0, .int 0, .int 0, .int 0, .int 0, .int 0, .int 0, .int 0, .int 0, .int 0, .int 0, .ref q3, .ref q4, .int 0, .int 0, .int 0, .int 0, .ref q5, .int 0, .int 0, .ref q6, .ref q7, .ref q8, .int 0, .int 0, .int 0, .int 0, .int 0, .null, .null, .null, .null, .null, .null, .int 0])), (q0, .inl (cI, 78, .inl (fun _ => 0))), (q1, .inl (cI, 78, .inl (fun _ => 0))), (q2, .inl (cI, 78, .inl (fun _ => 0))), (q3, .inl (cI, 6, .inl (fun _ => 0))), (q4, .inl (cI, 6, .inl (fun _ => 0))), (q5, .inl (cI, 4, .inl (fun _ => 0))), (q6, .inl (cI, 6, .inl (fun _ => 0))), (q7, .inl (cI, 6, .inl (fun _ => 0))), (q8, .inl (cI, 6, .inl (fun _ => 0))), (q9, .inl (cI, 8, .inl (fun _ => 0)))] := hD
  refine va_putF (D := D) (ci := 9) (v := .ref q9) (ty := .array .int) (C := R_Mod) (T := F_Mod) (N := 40) hx hb hts i_Mod t_Mod t_Mod_ok n_Mod hown hK hP hD hS 0 rfl rfl 33 (by decide) (hts (.fieldLink R_Mod 37 "BreatheOutModel" "kept" "[I") (tbl_at 1028 (by decide +kernel) rfl)) (fun _ h9 => h9) rfl hin rfl (by decide +kernel) rfl rfl (Nat.le_of_ble_eq_true rfl) d_Mod_init_80 (fun H locs hP hD hS => ?_)
  have hP : va_P D classes [(h0, .inr (9, [.ref q0, .ref q1, .ref q2, .int 0, .int 0, .int 0, .int 0, .int 0, .int 0, .int 0, .int 0, .int 0, .int 0, .int 0, .int 0, .int 0, .ref q3, .ref q4, .int 0, .int 0, .int 0, .int 0, .ref q5, .int 0, .int 0, .ref q6, .ref q7, .ref q8, .int 0, .int 0, .int 0, .int 0, .int 0, .ref q9, .null, .null, .null, .null, .null, .int 0])), (q0, .inl (cI, 78, .inl (fun _ => 0))), (q1, .inl (cI, 78, .inl (fun _ => 0))), (q2, .inl (cI, 78, .inl (fun _ => 0))), (q3, .inl (cI, 6, .inl (fun _ => 0))), (q4, .inl (cI, 6, .inl (fun _ => 0))), (q5, .inl (cI, 4, .inl (fun _ => 0))), (q6, .inl (cI, 6, .inl (fun _ => 0))), (q7, .inl (cI, 6, .inl (fun _ => 0))), (q8, .inl (cI, 6, .inl (fun _ => 0))), (q9, .inl (cI, 8, .inl (fun _ => 0)))] H := hP
  have hD : va_D A [(h0, .inr (9, [.ref q0, .ref q1, .ref q2, .int 0, .int 0, .int 0, .int 0, .int 0, .int 0, .int 0, .int 0, .int 0, .int 0, .int 0, .int 0, .int 0, .ref q3, .ref q4, .int 0, .int 0, .int 0, .int 0, .ref q5, .int 0, .int 0, .ref q6, .ref q7, .ref q8, .int 0, .int 0, .int 0, .int 0, .int 0, .ref q9, .null, .null, .null, .null, .null, .int 0])), (q0, .inl (cI, 78, .inl (fun _ => 0))), (q1, .inl (cI, 78, .inl (fun _ => 0))), (q2, .inl (cI, 78, .inl (fun _ => 0))), (q3, .inl (cI, 6, .inl (fun _ => 0))), (q4, .inl (cI, 6, .inl (fun _ => 0))), (q5, .inl (cI, 4, .inl (fun _ => 0))), (q6, .inl (cI, 6, .inl (fun _ => 0))), (q7, .inl (cI, 6, .inl (fun _ => 0))), (q8, .inl (cI, 6, .inl (fun _ => 0))), (q9, .inl (cI, 8, .inl (fun _ => 0)))] := hD
  refine lv_aload_n hx hb d_Mod_init_83 rfl (lv_at hl 0 rfl) ?_
  refine lv_bipush (v := 8) hx hb d_Mod_init_84 (by decide) ?_
  have h_10 : 10 + 1 ≤ 15 := by decide
  have i_10 : 276 + 8 ≤ 1108 := by decide
  refine va_newa (atype := .int) (N' := 8) (a0 := (8, .inl (fun _ => 0))) hx hb (hts _ ai_w) rfl hK hP hD hS hA (fun _ => rfl) (by decide) (by decide) (by decide) h_10 i_10 d_Mod_init_86 (fun q10 cA H hK2 hP hD hS => ?_)
  obtain rfl : cI = cA := (va_one hK2).symm
  have hP : va_P D classes [(h0, .inr (9, [.ref q0, .ref q1, .ref q2, .int 0, .int 0, .int 0, .int 0, .int 0, .int 0, .int 0, .int 0, .int 0, .int 0, .int 0, .int 0, .int 0, .ref q3, .ref q4, .int 0, .int 0, .int 0, .int 0, .ref q5, .int 0, .int 0, .ref q6, .ref q7, .ref q8, .int 0, .int 0, .int 0, .int 0, .int 0, .ref q9, .null, .null, .null, .null, .null, .int 0])), (q0, .inl (cI, 78, .inl (fun _ => 0))), (q1, .inl (cI, 78, .inl (fun _ => 0))), (q2, .inl (cI, 78, .inl (fun _ => 0))), (q3, .inl (cI, 6, .inl (fun _ => 0))), (q4, .inl (cI, 6, .inl (fun _ => 0))), (q5, .inl (cI, 4, .inl (fun _ => 0))), (q6, .inl (cI, 6, .inl (fun _ => 0))), (q7, .inl (cI, 6, .inl (fun _ => 0))), (q8, .inl (cI, 6, .inl (fun _ => 0))), (q9, .inl (cI, 8, .inl (fun _ => 0))), (q10, .inl (cI, 8, .inl (fun _ => 0)))] H := hP
  have hD : va_D A [(h0, .inr (9, [.ref q0, .ref q1, .ref q2, .int 0, .int 0, .int 0, .int 0, .int 0, .int 0, .int 0, .int 0, .int 0, .int 0, .int 0, .int 0, .int 0, .ref q3, .ref q4, .int 0, .int 0, .int 0, .int 0, .ref q5, .int 0, .int 0, .ref q6, .ref q7, .ref q8, .int 0, .int 0, .int 0, .int 0, .int 0, .ref q9, .null, .null, .null, .null, .null, .int 0])), (q0, .inl (cI, 78, .inl (fun _ => 0))), (q1, .inl (cI, 78, .inl (fun _ => 0))), (q2, .inl (cI, 78, .inl (fun _ => 0))), (q3, .inl (cI, 6, .inl (fun _ => 0))), (q4, .inl (cI, 6, .inl (fun _ => 0))), (q5, .inl (cI, 4, .inl (fun _ => 0))), (q6, .inl (cI, 6, .inl (fun _ => 0))), (q7, .inl (cI, 6, .inl (fun _ => 0))), (q8, .inl (cI, 6, .inl (fun _ => 0))), (q9, .inl (cI, 8, .inl (fun _ => 0))), (q10, .inl (cI, 8, .inl (fun _ => 0)))] := hD
  refine va_putF (D := D) (ci := 9) (v := .ref q10) (ty := .array .int) (C := R_Mod) (T := F_Mod) (N := 40) hx hb hts i_Mod t_Mod t_Mod_ok n_Mod hown hK hP hD hS 0 rfl rfl 34 (by decide) (hts (.fieldLink R_Mod 40 "BreatheOutModel" "keptKind" "[I") (tbl_at 1029 (by decide +kernel) rfl)) (fun _ h9 => h9) rfl hin rfl (by decide +kernel) rfl rfl (Nat.le_of_ble_eq_true rfl) d_Mod_init_88 (fun H locs hP hD hS => ?_)
  have hP : va_P D classes [(h0, .inr (9, [.ref q0, .ref q1, .ref q2, .int 0, .int 0, .int 0, .int 0, .int 0, .int 0, .int 0, .int 0, .int 0, .int 0, .int 0, .int 0, .int 0, .ref q3, .ref q4, .int 0, .int 0, .int 0, .int 0, .ref q5, .int 0, .int 0, .ref q6, .ref q7, .ref q8, .int 0, .int 0, .int 0, .int 0, .int 0, .ref q9, .ref q10, .null, .null, .null, .null, .int 0])), (q0, .inl (cI, 78, .inl (fun _ => 0))), (q1, .inl (cI, 78, .inl (fun _ => 0))), (q2, .inl (cI, 78, .inl (fun _ => 0))), (q3, .inl (cI, 6, .inl (fun _ => 0))), (q4, .inl (cI, 6, .inl (fun _ => 0))), (q5, .inl (cI, 4, .inl (fun _ => 0))), (q6, .inl (cI, 6, .inl (fun _ => 0))), (q7, .inl (cI, 6, .inl (fun _ => 0))), (q8, .inl (cI, 6, .inl (fun _ => 0))), (q9, .inl (cI, 8, .inl (fun _ => 0))), (q10, .inl (cI, 8, .inl (fun _ => 0)))] H := hP
  have hD : va_D A [(h0, .inr (9, [.ref q0, .ref q1, .ref q2, .int 0, .int 0, .int 0, .int 0, .int 0, .int 0, .int 0, .int 0, .int 0, .int 0, .int 0, .int 0, .int 0, .ref q3, .ref q4, .int 0, .int 0, .int 0, .int 0, .ref q5, .int 0, .int 0, .ref q6, .ref q7, .ref q8, .int 0, .int 0, .int 0, .int 0, .int 0, .ref q9, .ref q10, .null, .null, .null, .null, .int 0])), (q0, .inl (cI, 78, .inl (fun _ => 0))), (q1, .inl (cI, 78, .inl (fun _ => 0))), (q2, .inl (cI, 78, .inl (fun _ => 0))), (q3, .inl (cI, 6, .inl (fun _ => 0))), (q4, .inl (cI, 6, .inl (fun _ => 0))), (q5, .inl (cI, 4, .inl (fun _ => 0))), (q6, .inl (cI, 6, .inl (fun _ => 0))), (q7, .inl (cI, 6, .inl (fun _ => 0))), (q8, .inl (cI, 6, .inl (fun _ => 0))), (q9, .inl (cI, 8, .inl (fun _ => 0))), (q10, .inl (cI, 8, .inl (fun _ => 0)))] := hD
  refine lv_aload_n hx hb d_Mod_init_91 rfl (lv_at hl 0 rfl) ?_
  refine lv_bipush (v := 8) hx hb d_Mod_init_92 (by decide) ?_
  have h_11 : 11 + 1 ≤ 15 := by decide
  have i_11 : 284 + 8 ≤ 1108 := by decide
  refine va_newa (atype := .int) (N' := 8) (a0 := (8, .inl (fun _ => 0))) hx hb (hts _ ai_w) rfl hK hP hD hS hA (fun _ => rfl) (by decide) (by decide) (by decide) h_11 i_11 d_Mod_init_94 (fun q11 cA H hK2 hP hD hS => ?_)
  obtain rfl : cI = cA := (va_one hK2).symm
  have hP : va_P D classes [(h0, .inr (9, [.ref q0, .ref q1, .ref q2, .int 0, .int 0, .int 0, .int 0, .int 0, .int 0, .int 0, .int 0, .int 0, .int 0, .int 0, .int 0, .int 0, .ref q3, .ref q4, .int 0, .int 0, .int 0, .int 0, .ref q5, .int 0, .int 0, .ref q6, .ref q7, .ref q8, .int 0, .int 0, .int 0, .int 0, .int 0, .ref q9, .ref q10, .null, .null, .null, .null, .int 0])), (q0, .inl (cI, 78, .inl (fun _ => 0))), (q1, .inl (cI, 78, .inl (fun _ => 0))), (q2, .inl (cI, 78, .inl (fun _ => 0))), (q3, .inl (cI, 6, .inl (fun _ => 0))), (q4, .inl (cI, 6, .inl (fun _ => 0))), (q5, .inl (cI, 4, .inl (fun _ => 0))), (q6, .inl (cI, 6, .inl (fun _ => 0))), (q7, .inl (cI, 6, .inl (fun _ => 0))), (q8, .inl (cI, 6, .inl (fun _ => 0))), (q9, .inl (cI, 8, .inl (fun _ => 0))), (q10, .inl (cI, 8, .inl (fun _ => 0))), (q11, .inl (cI, 8, .inl (fun _ => 0)))] H := hP
  have hD : va_D A [(h0, .inr (9, [.ref q0, .ref q1, .ref q2, .int 0, .int 0, .int 0, .int 0, .int 0, .int 0, .int 0, .int 0, .int 0, .int 0, .int 0, .int 0, .int 0, .ref q3, .ref q4, .int 0, .int 0, .int 0, .int 0, .ref q5, .int 0, .int 0, .ref q6, .ref q7, .ref q8, .int 0, .int 0, .int 0, .int 0, .int 0, .ref q9, .ref q10, .null, .null, .null, .null, .int 0])), (q0, .inl (cI, 78, .inl (fun _ => 0))), (q1, .inl (cI, 78, .inl (fun _ => 0))), (q2, .inl (cI, 78, .inl (fun _ => 0))), (q3, .inl (cI, 6, .inl (fun _ => 0))), (q4, .inl (cI, 6, .inl (fun _ => 0))), (q5, .inl (cI, 4, .inl (fun _ => 0))), (q6, .inl (cI, 6, .inl (fun _ => 0))), (q7, .inl (cI, 6, .inl (fun _ => 0))), (q8, .inl (cI, 6, .inl (fun _ => 0))), (q9, .inl (cI, 8, .inl (fun _ => 0))), (q10, .inl (cI, 8, .inl (fun _ => 0))), (q11, .inl (cI, 8, .inl (fun _ => 0)))] := hD
  refine va_putF (D := D) (ci := 9) (v := .ref q11) (ty := .array .int) (C := R_Mod) (T := F_Mod) (N := 40) hx hb hts i_Mod t_Mod t_Mod_ok n_Mod hown hK hP hD hS 0 rfl rfl 35 (by decide) (hts (.fieldLink R_Mod 43 "BreatheOutModel" "keptFigure" "[I") (tbl_at 1030 (by decide +kernel) rfl)) (fun _ h9 => h9) rfl hin rfl (by decide +kernel) rfl rfl (Nat.le_of_ble_eq_true rfl) d_Mod_init_96 (fun H locs hP hD hS => ?_)
  have hP : va_P D classes [(h0, .inr (9, [.ref q0, .ref q1, .ref q2, .int 0, .int 0, .int 0, .int 0, .int 0, .int 0, .int 0, .int 0, .int 0, .int 0, .int 0, .int 0, .int 0, .ref q3, .ref q4, .int 0, .int 0, .int 0, .int 0, .ref q5, .int 0, .int 0, .ref q6, .ref q7, .ref q8, .int 0, .int 0, .int 0, .int 0, .int 0, .ref q9, .ref q10, .ref q11, .null, .null, .null, .int 0])), (q0, .inl (cI, 78, .inl (fun _ => 0))), (q1, .inl (cI, 78, .inl (fun _ => 0))), (q2, .inl (cI, 78, .inl (fun _ => 0))), (q3, .inl (cI, 6, .inl (fun _ => 0))), (q4, .inl (cI, 6, .inl (fun _ => 0))), (q5, .inl (cI, 4, .inl (fun _ => 0))), (q6, .inl (cI, 6, .inl (fun _ => 0))), (q7, .inl (cI, 6, .inl (fun _ => 0))), (q8, .inl (cI, 6, .inl (fun _ => 0))), (q9, .inl (cI, 8, .inl (fun _ => 0))), (q10, .inl (cI, 8, .inl (fun _ => 0))), (q11, .inl (cI, 8, .inl (fun _ => 0)))] H := hP
  have hD : va_D A [(h0, .inr (9, [.ref q0, .ref q1, .ref q2, .int 0, .int 0, .int 0, .int 0, .int 0, .int 0, .int 0, .int 0, .int 0, .int 0, .int 0, .int 0, .int 0, .ref q3, .ref q4, .int 0, .int 0, .int 0, .int 0, .ref q5, .int 0, .int 0, .ref q6, .ref q7, .ref q8, .int 0, .int 0, .int 0, .int 0, .int 0, .ref q9, .ref q10, .ref q11, .null, .null, .null, .int 0])), (q0, .inl (cI, 78, .inl (fun _ => 0))), (q1, .inl (cI, 78, .inl (fun _ => 0))), (q2, .inl (cI, 78, .inl (fun _ => 0))), (q3, .inl (cI, 6, .inl (fun _ => 0))), (q4, .inl (cI, 6, .inl (fun _ => 0))), (q5, .inl (cI, 4, .inl (fun _ => 0))), (q6, .inl (cI, 6, .inl (fun _ => 0))), (q7, .inl (cI, 6, .inl (fun _ => 0))), (q8, .inl (cI, 6, .inl (fun _ => 0))), (q9, .inl (cI, 8, .inl (fun _ => 0))), (q10, .inl (cI, 8, .inl (fun _ => 0))), (q11, .inl (cI, 8, .inl (fun _ => 0)))] := hD
  refine lv_aload_n hx hb d_Mod_init_99 rfl (lv_at hl 0 rfl) ?_
  refine lv_bipush (v := 8) hx hb d_Mod_init_100 (by decide) ?_
  have h_12 : 12 + 1 ≤ 15 := by decide
  have i_12 : 292 + 8 ≤ 1108 := by decide
  refine va_newa (atype := .int) (N' := 8) (a0 := (8, .inl (fun _ => 0))) hx hb (hts _ ai_w) rfl hK hP hD hS hA (fun _ => rfl) (by decide) (by decide) (by decide) h_12 i_12 d_Mod_init_102 (fun q12 cA H hK2 hP hD hS => ?_)
  obtain rfl : cI = cA := (va_one hK2).symm
  have hP : va_P D classes [(h0, .inr (9, [.ref q0, .ref q1, .ref q2, .int 0, .int 0, .int 0, .int 0, .int 0, .int 0, .int 0, .int 0, .int 0, .int 0, .int 0, .int 0, .int 0, .ref q3, .ref q4, .int 0, .int 0, .int 0, .int 0, .ref q5, .int 0, .int 0, .ref q6, .ref q7, .ref q8, .int 0, .int 0, .int 0, .int 0, .int 0, .ref q9, .ref q10, .ref q11, .null, .null, .null, .int 0])), (q0, .inl (cI, 78, .inl (fun _ => 0))), (q1, .inl (cI, 78, .inl (fun _ => 0))), (q2, .inl (cI, 78, .inl (fun _ => 0))), (q3, .inl (cI, 6, .inl (fun _ => 0))), (q4, .inl (cI, 6, .inl (fun _ => 0))), (q5, .inl (cI, 4, .inl (fun _ => 0))), (q6, .inl (cI, 6, .inl (fun _ => 0))), (q7, .inl (cI, 6, .inl (fun _ => 0))), (q8, .inl (cI, 6, .inl (fun _ => 0))), (q9, .inl (cI, 8, .inl (fun _ => 0))), (q10, .inl (cI, 8, .inl (fun _ => 0))), (q11, .inl (cI, 8, .inl (fun _ => 0))), (q12, .inl (cI, 8, .inl (fun _ => 0)))] H := hP
  have hD : va_D A [(h0, .inr (9, [.ref q0, .ref q1, .ref q2, .int 0, .int 0, .int 0, .int 0, .int 0, .int 0, .int 0, .int 0, .int 0, .int 0, .int 0, .int 0, .int 0, .ref q3, .ref q4, .int 0, .int 0, .int 0, .int 0, .ref q5, .int 0, .int 0, .ref q6, .ref q7, .ref q8, .int 0, .int 0, .int 0, .int 0, .int 0, .ref q9, .ref q10, .ref q11, .null, .null, .null, .int 0])), (q0, .inl (cI, 78, .inl (fun _ => 0))), (q1, .inl (cI, 78, .inl (fun _ => 0))), (q2, .inl (cI, 78, .inl (fun _ => 0))), (q3, .inl (cI, 6, .inl (fun _ => 0))), (q4, .inl (cI, 6, .inl (fun _ => 0))), (q5, .inl (cI, 4, .inl (fun _ => 0))), (q6, .inl (cI, 6, .inl (fun _ => 0))), (q7, .inl (cI, 6, .inl (fun _ => 0))), (q8, .inl (cI, 6, .inl (fun _ => 0))), (q9, .inl (cI, 8, .inl (fun _ => 0))), (q10, .inl (cI, 8, .inl (fun _ => 0))), (q11, .inl (cI, 8, .inl (fun _ => 0))), (q12, .inl (cI, 8, .inl (fun _ => 0)))] := hD
  refine va_putF (D := D) (ci := 9) (v := .ref q12) (ty := .array .int) (C := R_Mod) (T := F_Mod) (N := 40) hx hb hts i_Mod t_Mod t_Mod_ok n_Mod hown hK hP hD hS 0 rfl rfl 36 (by decide) (hts (.fieldLink R_Mod 46 "BreatheOutModel" "sort" "[I") (tbl_at 1031 (by decide +kernel) rfl)) (fun _ h9 => h9) rfl hin rfl (by decide +kernel) rfl rfl (Nat.le_of_ble_eq_true rfl) d_Mod_init_104 (fun H locs hP hD hS => ?_)
  have hP : va_P D classes [(h0, .inr (9, [.ref q0, .ref q1, .ref q2, .int 0, .int 0, .int 0, .int 0, .int 0, .int 0, .int 0, .int 0, .int 0, .int 0, .int 0, .int 0, .int 0, .ref q3, .ref q4, .int 0, .int 0, .int 0, .int 0, .ref q5, .int 0, .int 0, .ref q6, .ref q7, .ref q8, .int 0, .int 0, .int 0, .int 0, .int 0, .ref q9, .ref q10, .ref q11, .ref q12, .null, .null, .int 0])), (q0, .inl (cI, 78, .inl (fun _ => 0))), (q1, .inl (cI, 78, .inl (fun _ => 0))), (q2, .inl (cI, 78, .inl (fun _ => 0))), (q3, .inl (cI, 6, .inl (fun _ => 0))), (q4, .inl (cI, 6, .inl (fun _ => 0))), (q5, .inl (cI, 4, .inl (fun _ => 0))), (q6, .inl (cI, 6, .inl (fun _ => 0))), (q7, .inl (cI, 6, .inl (fun _ => 0))), (q8, .inl (cI, 6, .inl (fun _ => 0))), (q9, .inl (cI, 8, .inl (fun _ => 0))), (q10, .inl (cI, 8, .inl (fun _ => 0))), (q11, .inl (cI, 8, .inl (fun _ => 0))), (q12, .inl (cI, 8, .inl (fun _ => 0)))] H := hP
  have hD : va_D A [(h0, .inr (9, [.ref q0, .ref q1, .ref q2, .int 0, .int 0, .int 0, .int 0, .int 0, .int 0, .int 0, .int 0, .int 0, .int 0, .int 0, .int 0, .int 0, .ref q3, .ref q4, .int 0, .int 0, .int 0, .int 0, .ref q5, .int 0, .int 0, .ref q6, .ref q7, .ref q8, .int 0, .int 0, .int 0, .int 0, .int 0, .ref q9, .ref q10, .ref q11, .ref q12, .null, .null, .int 0])), (q0, .inl (cI, 78, .inl (fun _ => 0))), (q1, .inl (cI, 78, .inl (fun _ => 0))), (q2, .inl (cI, 78, .inl (fun _ => 0))), (q3, .inl (cI, 6, .inl (fun _ => 0))), (q4, .inl (cI, 6, .inl (fun _ => 0))), (q5, .inl (cI, 4, .inl (fun _ => 0))), (q6, .inl (cI, 6, .inl (fun _ => 0))), (q7, .inl (cI, 6, .inl (fun _ => 0))), (q8, .inl (cI, 6, .inl (fun _ => 0))), (q9, .inl (cI, 8, .inl (fun _ => 0))), (q10, .inl (cI, 8, .inl (fun _ => 0))), (q11, .inl (cI, 8, .inl (fun _ => 0))), (q12, .inl (cI, 8, .inl (fun _ => 0)))] := hD
  refine lv_aload_n hx hb d_Mod_init_107 rfl (lv_at hl 0 rfl) ?_
  refine lv_bipush (v := 8) hx hb d_Mod_init_108 (by decide) ?_
  have h_13 : 13 + 1 ≤ 15 := by decide
  have i_13 : 300 + 8 ≤ 1108 := by decide
  refine va_newa (atype := .int) (N' := 8) (a0 := (8, .inl (fun _ => 0))) hx hb (hts _ ai_w) rfl hK hP hD hS hA (fun _ => rfl) (by decide) (by decide) (by decide) h_13 i_13 d_Mod_init_110 (fun q13 cA H hK2 hP hD hS => ?_)
  obtain rfl : cI = cA := (va_one hK2).symm
  have hP : va_P D classes [(h0, .inr (9, [.ref q0, .ref q1, .ref q2, .int 0, .int 0, .int 0, .int 0, .int 0, .int 0, .int 0, .int 0, .int 0, .int 0, .int 0, .int 0, .int 0, .ref q3, .ref q4, .int 0, .int 0, .int 0, .int 0, .ref q5, .int 0, .int 0, .ref q6, .ref q7, .ref q8, .int 0, .int 0, .int 0, .int 0, .int 0, .ref q9, .ref q10, .ref q11, .ref q12, .null, .null, .int 0])), (q0, .inl (cI, 78, .inl (fun _ => 0))), (q1, .inl (cI, 78, .inl (fun _ => 0))), (q2, .inl (cI, 78, .inl (fun _ => 0))), (q3, .inl (cI, 6, .inl (fun _ => 0))), (q4, .inl (cI, 6, .inl (fun _ => 0))), (q5, .inl (cI, 4, .inl (fun _ => 0))), (q6, .inl (cI, 6, .inl (fun _ => 0))), (q7, .inl (cI, 6, .inl (fun _ => 0))), (q8, .inl (cI, 6, .inl (fun _ => 0))), (q9, .inl (cI, 8, .inl (fun _ => 0))), (q10, .inl (cI, 8, .inl (fun _ => 0))), (q11, .inl (cI, 8, .inl (fun _ => 0))), (q12, .inl (cI, 8, .inl (fun _ => 0))), (q13, .inl (cI, 8, .inl (fun _ => 0)))] H := hP
  have hD : va_D A [(h0, .inr (9, [.ref q0, .ref q1, .ref q2, .int 0, .int 0, .int 0, .int 0, .int 0, .int 0, .int 0, .int 0, .int 0, .int 0, .int 0, .int 0, .int 0, .ref q3, .ref q4, .int 0, .int 0, .int 0, .int 0, .ref q5, .int 0, .int 0, .ref q6, .ref q7, .ref q8, .int 0, .int 0, .int 0, .int 0, .int 0, .ref q9, .ref q10, .ref q11, .ref q12, .null, .null, .int 0])), (q0, .inl (cI, 78, .inl (fun _ => 0))), (q1, .inl (cI, 78, .inl (fun _ => 0))), (q2, .inl (cI, 78, .inl (fun _ => 0))), (q3, .inl (cI, 6, .inl (fun _ => 0))), (q4, .inl (cI, 6, .inl (fun _ => 0))), (q5, .inl (cI, 4, .inl (fun _ => 0))), (q6, .inl (cI, 6, .inl (fun _ => 0))), (q7, .inl (cI, 6, .inl (fun _ => 0))), (q8, .inl (cI, 6, .inl (fun _ => 0))), (q9, .inl (cI, 8, .inl (fun _ => 0))), (q10, .inl (cI, 8, .inl (fun _ => 0))), (q11, .inl (cI, 8, .inl (fun _ => 0))), (q12, .inl (cI, 8, .inl (fun _ => 0))), (q13, .inl (cI, 8, .inl (fun _ => 0)))] := hD
  refine va_putF (D := D) (ci := 9) (v := .ref q13) (ty := .array .int) (C := R_Mod) (T := F_Mod) (N := 40) hx hb hts i_Mod t_Mod t_Mod_ok n_Mod hown hK hP hD hS 0 rfl rfl 37 (by decide) (hts (.fieldLink R_Mod 49 "BreatheOutModel" "size" "[I") (tbl_at 1032 (by decide +kernel) rfl)) (fun _ h9 => h9) rfl hin rfl (by decide +kernel) rfl rfl (Nat.le_of_ble_eq_true rfl) d_Mod_init_112 (fun H locs hP hD hS => ?_)
  have hP : va_P D classes [(h0, .inr (9, [.ref q0, .ref q1, .ref q2, .int 0, .int 0, .int 0, .int 0, .int 0, .int 0, .int 0, .int 0, .int 0, .int 0, .int 0, .int 0, .int 0, .ref q3, .ref q4, .int 0, .int 0, .int 0, .int 0, .ref q5, .int 0, .int 0, .ref q6, .ref q7, .ref q8, .int 0, .int 0, .int 0, .int 0, .int 0, .ref q9, .ref q10, .ref q11, .ref q12, .ref q13, .null, .int 0])), (q0, .inl (cI, 78, .inl (fun _ => 0))), (q1, .inl (cI, 78, .inl (fun _ => 0))), (q2, .inl (cI, 78, .inl (fun _ => 0))), (q3, .inl (cI, 6, .inl (fun _ => 0))), (q4, .inl (cI, 6, .inl (fun _ => 0))), (q5, .inl (cI, 4, .inl (fun _ => 0))), (q6, .inl (cI, 6, .inl (fun _ => 0))), (q7, .inl (cI, 6, .inl (fun _ => 0))), (q8, .inl (cI, 6, .inl (fun _ => 0))), (q9, .inl (cI, 8, .inl (fun _ => 0))), (q10, .inl (cI, 8, .inl (fun _ => 0))), (q11, .inl (cI, 8, .inl (fun _ => 0))), (q12, .inl (cI, 8, .inl (fun _ => 0))), (q13, .inl (cI, 8, .inl (fun _ => 0)))] H := hP
  have hD : va_D A [(h0, .inr (9, [.ref q0, .ref q1, .ref q2, .int 0, .int 0, .int 0, .int 0, .int 0, .int 0, .int 0, .int 0, .int 0, .int 0, .int 0, .int 0, .int 0, .ref q3, .ref q4, .int 0, .int 0, .int 0, .int 0, .ref q5, .int 0, .int 0, .ref q6, .ref q7, .ref q8, .int 0, .int 0, .int 0, .int 0, .int 0, .ref q9, .ref q10, .ref q11, .ref q12, .ref q13, .null, .int 0])), (q0, .inl (cI, 78, .inl (fun _ => 0))), (q1, .inl (cI, 78, .inl (fun _ => 0))), (q2, .inl (cI, 78, .inl (fun _ => 0))), (q3, .inl (cI, 6, .inl (fun _ => 0))), (q4, .inl (cI, 6, .inl (fun _ => 0))), (q5, .inl (cI, 4, .inl (fun _ => 0))), (q6, .inl (cI, 6, .inl (fun _ => 0))), (q7, .inl (cI, 6, .inl (fun _ => 0))), (q8, .inl (cI, 6, .inl (fun _ => 0))), (q9, .inl (cI, 8, .inl (fun _ => 0))), (q10, .inl (cI, 8, .inl (fun _ => 0))), (q11, .inl (cI, 8, .inl (fun _ => 0))), (q12, .inl (cI, 8, .inl (fun _ => 0))), (q13, .inl (cI, 8, .inl (fun _ => 0)))] := hD
  refine lv_aload_n hx hb d_Mod_init_115 rfl (lv_at hl 0 rfl) ?_
  refine lv_sipush (v := 800) hx hb d_Mod_init_116 (by decide) ?_
  have h_14 : 14 + 1 ≤ 15 := by decide
  have i_14 : 308 + 800 ≤ 1108 := by decide
  refine va_newa (atype := .int) (N' := 800) (a0 := (800, .inl (fun _ => 0))) hx hb (hts _ ai_w) rfl hK hP hD hS hA (fun _ => rfl) (by decide) (by decide) (by decide) h_14 i_14 d_Mod_init_119 (fun q14 cA H hK2 hP hD hS => ?_)
  obtain rfl : cI = cA := (va_one hK2).symm
  have hP : va_P D classes [(h0, .inr (9, [.ref q0, .ref q1, .ref q2, .int 0, .int 0, .int 0, .int 0, .int 0, .int 0, .int 0, .int 0, .int 0, .int 0, .int 0, .int 0, .int 0, .ref q3, .ref q4, .int 0, .int 0, .int 0, .int 0, .ref q5, .int 0, .int 0, .ref q6, .ref q7, .ref q8, .int 0, .int 0, .int 0, .int 0, .int 0, .ref q9, .ref q10, .ref q11, .ref q12, .ref q13, .null, .int 0])), (q0, .inl (cI, 78, .inl (fun _ => 0))), (q1, .inl (cI, 78, .inl (fun _ => 0))), (q2, .inl (cI, 78, .inl (fun _ => 0))), (q3, .inl (cI, 6, .inl (fun _ => 0))), (q4, .inl (cI, 6, .inl (fun _ => 0))), (q5, .inl (cI, 4, .inl (fun _ => 0))), (q6, .inl (cI, 6, .inl (fun _ => 0))), (q7, .inl (cI, 6, .inl (fun _ => 0))), (q8, .inl (cI, 6, .inl (fun _ => 0))), (q9, .inl (cI, 8, .inl (fun _ => 0))), (q10, .inl (cI, 8, .inl (fun _ => 0))), (q11, .inl (cI, 8, .inl (fun _ => 0))), (q12, .inl (cI, 8, .inl (fun _ => 0))), (q13, .inl (cI, 8, .inl (fun _ => 0))), (q14, .inl (cI, 800, .inl (fun _ => 0)))] H := hP
  have hD : va_D A [(h0, .inr (9, [.ref q0, .ref q1, .ref q2, .int 0, .int 0, .int 0, .int 0, .int 0, .int 0, .int 0, .int 0, .int 0, .int 0, .int 0, .int 0, .int 0, .ref q3, .ref q4, .int 0, .int 0, .int 0, .int 0, .ref q5, .int 0, .int 0, .ref q6, .ref q7, .ref q8, .int 0, .int 0, .int 0, .int 0, .int 0, .ref q9, .ref q10, .ref q11, .ref q12, .ref q13, .null, .int 0])), (q0, .inl (cI, 78, .inl (fun _ => 0))), (q1, .inl (cI, 78, .inl (fun _ => 0))), (q2, .inl (cI, 78, .inl (fun _ => 0))), (q3, .inl (cI, 6, .inl (fun _ => 0))), (q4, .inl (cI, 6, .inl (fun _ => 0))), (q5, .inl (cI, 4, .inl (fun _ => 0))), (q6, .inl (cI, 6, .inl (fun _ => 0))), (q7, .inl (cI, 6, .inl (fun _ => 0))), (q8, .inl (cI, 6, .inl (fun _ => 0))), (q9, .inl (cI, 8, .inl (fun _ => 0))), (q10, .inl (cI, 8, .inl (fun _ => 0))), (q11, .inl (cI, 8, .inl (fun _ => 0))), (q12, .inl (cI, 8, .inl (fun _ => 0))), (q13, .inl (cI, 8, .inl (fun _ => 0))), (q14, .inl (cI, 800, .inl (fun _ => 0)))] := hD
  refine va_putF (D := D) (ci := 9) (v := .ref q14) (ty := .array .int) (C := R_Mod) (T := F_Mod) (N := 40) hx hb hts i_Mod t_Mod t_Mod_ok n_Mod hown hK hP hD hS 0 rfl rfl 38 (by decide) (hts (.fieldLink R_Mod 52 "BreatheOutModel" "element" "[I") (tbl_at 1033 (by decide +kernel) rfl)) (fun _ h9 => h9) rfl hin rfl (by decide +kernel) rfl rfl (Nat.le_of_ble_eq_true rfl) d_Mod_init_121 (fun H locs hP hD hS => ?_)
  have hP : va_P D classes [(h0, .inr (9, [.ref q0, .ref q1, .ref q2, .int 0, .int 0, .int 0, .int 0, .int 0, .int 0, .int 0, .int 0, .int 0, .int 0, .int 0, .int 0, .int 0, .ref q3, .ref q4, .int 0, .int 0, .int 0, .int 0, .ref q5, .int 0, .int 0, .ref q6, .ref q7, .ref q8, .int 0, .int 0, .int 0, .int 0, .int 0, .ref q9, .ref q10, .ref q11, .ref q12, .ref q13, .ref q14, .int 0])), (q0, .inl (cI, 78, .inl (fun _ => 0))), (q1, .inl (cI, 78, .inl (fun _ => 0))), (q2, .inl (cI, 78, .inl (fun _ => 0))), (q3, .inl (cI, 6, .inl (fun _ => 0))), (q4, .inl (cI, 6, .inl (fun _ => 0))), (q5, .inl (cI, 4, .inl (fun _ => 0))), (q6, .inl (cI, 6, .inl (fun _ => 0))), (q7, .inl (cI, 6, .inl (fun _ => 0))), (q8, .inl (cI, 6, .inl (fun _ => 0))), (q9, .inl (cI, 8, .inl (fun _ => 0))), (q10, .inl (cI, 8, .inl (fun _ => 0))), (q11, .inl (cI, 8, .inl (fun _ => 0))), (q12, .inl (cI, 8, .inl (fun _ => 0))), (q13, .inl (cI, 8, .inl (fun _ => 0))), (q14, .inl (cI, 800, .inl (fun _ => 0)))] H := hP
  have hD : va_D A [(h0, .inr (9, [.ref q0, .ref q1, .ref q2, .int 0, .int 0, .int 0, .int 0, .int 0, .int 0, .int 0, .int 0, .int 0, .int 0, .int 0, .int 0, .int 0, .ref q3, .ref q4, .int 0, .int 0, .int 0, .int 0, .ref q5, .int 0, .int 0, .ref q6, .ref q7, .ref q8, .int 0, .int 0, .int 0, .int 0, .int 0, .ref q9, .ref q10, .ref q11, .ref q12, .ref q13, .ref q14, .int 0])), (q0, .inl (cI, 78, .inl (fun _ => 0))), (q1, .inl (cI, 78, .inl (fun _ => 0))), (q2, .inl (cI, 78, .inl (fun _ => 0))), (q3, .inl (cI, 6, .inl (fun _ => 0))), (q4, .inl (cI, 6, .inl (fun _ => 0))), (q5, .inl (cI, 4, .inl (fun _ => 0))), (q6, .inl (cI, 6, .inl (fun _ => 0))), (q7, .inl (cI, 6, .inl (fun _ => 0))), (q8, .inl (cI, 6, .inl (fun _ => 0))), (q9, .inl (cI, 8, .inl (fun _ => 0))), (q10, .inl (cI, 8, .inl (fun _ => 0))), (q11, .inl (cI, 8, .inl (fun _ => 0))), (q12, .inl (cI, 8, .inl (fun _ => 0))), (q13, .inl (cI, 8, .inl (fun _ => 0))), (q14, .inl (cI, 800, .inl (fun _ => 0)))] := hD
  refine lv_aload_n hx hb d_Mod_init_124 rfl (lv_at hl 0 rfl) ?_
  refine va_get (D := D) (ci := 9) (v := .ref q0) (C := R_Mod) (T := F_Mod) (N := 40) hx hb hts i_Mod hown hK hP 0 rfl rfl 0 (by decide) (hts (.fieldLink R_Mod 9 "BreatheOutModel" "s" "[I") (tbl_at 995 (by decide +kernel) rfl)) (fun _ h9 => h9) rfl d_Mod_init_125 ?_
  refine lv_iconst (v := 3) hx hb d_Mod_init_128 (by decide) ?_
  refine lv_iconst (v := 1) hx hb d_Mod_init_129 (by decide) ?_
  refine va_iast hx hb hK hP hD hS 1 0 rfl rfl (by unfold vp_in; decide) d_Mod_init_130 (fun H locs hP hD hS => ?_)
  have hP : va_P D classes [(h0, .inr (9, [.ref q0, .ref q1, .ref q2, .int 0, .int 0, .int 0, .int 0, .int 0, .int 0, .int 0, .int 0, .int 0, .int 0, .int 0, .int 0, .int 0, .ref q3, .ref q4, .int 0, .int 0, .int 0, .int 0, .ref q5, .int 0, .int 0, .ref q6, .ref q7, .ref q8, .int 0, .int 0, .int 0, .int 0, .int 0, .ref q9, .ref q10, .ref q11, .ref q12, .ref q13, .ref q14, .int 0])), (q0, .inl (cI, 78, .inl (upd (fun _ => 0) 3 1))), (q1, .inl (cI, 78, .inl (fun _ => 0))), (q2, .inl (cI, 78, .inl (fun _ => 0))), (q3, .inl (cI, 6, .inl (fun _ => 0))), (q4, .inl (cI, 6, .inl (fun _ => 0))), (q5, .inl (cI, 4, .inl (fun _ => 0))), (q6, .inl (cI, 6, .inl (fun _ => 0))), (q7, .inl (cI, 6, .inl (fun _ => 0))), (q8, .inl (cI, 6, .inl (fun _ => 0))), (q9, .inl (cI, 8, .inl (fun _ => 0))), (q10, .inl (cI, 8, .inl (fun _ => 0))), (q11, .inl (cI, 8, .inl (fun _ => 0))), (q12, .inl (cI, 8, .inl (fun _ => 0))), (q13, .inl (cI, 8, .inl (fun _ => 0))), (q14, .inl (cI, 800, .inl (fun _ => 0)))] H := hP
  have hD : va_D A [(h0, .inr (9, [.ref q0, .ref q1, .ref q2, .int 0, .int 0, .int 0, .int 0, .int 0, .int 0, .int 0, .int 0, .int 0, .int 0, .int 0, .int 0, .int 0, .ref q3, .ref q4, .int 0, .int 0, .int 0, .int 0, .ref q5, .int 0, .int 0, .ref q6, .ref q7, .ref q8, .int 0, .int 0, .int 0, .int 0, .int 0, .ref q9, .ref q10, .ref q11, .ref q12, .ref q13, .ref q14, .int 0])), (q0, .inl (cI, 78, .inl (upd (fun _ => 0) 3 1))), (q1, .inl (cI, 78, .inl (fun _ => 0))), (q2, .inl (cI, 78, .inl (fun _ => 0))), (q3, .inl (cI, 6, .inl (fun _ => 0))), (q4, .inl (cI, 6, .inl (fun _ => 0))), (q5, .inl (cI, 4, .inl (fun _ => 0))), (q6, .inl (cI, 6, .inl (fun _ => 0))), (q7, .inl (cI, 6, .inl (fun _ => 0))), (q8, .inl (cI, 6, .inl (fun _ => 0))), (q9, .inl (cI, 8, .inl (fun _ => 0))), (q10, .inl (cI, 8, .inl (fun _ => 0))), (q11, .inl (cI, 8, .inl (fun _ => 0))), (q12, .inl (cI, 8, .inl (fun _ => 0))), (q13, .inl (cI, 8, .inl (fun _ => 0))), (q14, .inl (cI, 800, .inl (fun _ => 0)))] := hD
  refine lv_aload_n hx hb d_Mod_init_131 rfl (lv_at hl 0 rfl) ?_
  refine va_get (D := D) (ci := 9) (v := .ref q0) (C := R_Mod) (T := F_Mod) (N := 40) hx hb hts i_Mod hown hK hP 0 rfl rfl 0 (by decide) (hts (.fieldLink R_Mod 9 "BreatheOutModel" "s" "[I") (tbl_at 995 (by decide +kernel) rfl)) (fun _ h9 => h9) rfl d_Mod_init_132 ?_
  refine lv_iconst (v := 4) hx hb d_Mod_init_135 (by decide) ?_
  refine lv_bipush (v := 15) hx hb d_Mod_init_136 (by decide) ?_
  refine va_iast hx hb hK hP hD hS 1 0 rfl rfl (by unfold vp_in; decide) d_Mod_init_138 (fun H locs hP hD hS => ?_)
  have hP : va_P D classes [(h0, .inr (9, [.ref q0, .ref q1, .ref q2, .int 0, .int 0, .int 0, .int 0, .int 0, .int 0, .int 0, .int 0, .int 0, .int 0, .int 0, .int 0, .int 0, .ref q3, .ref q4, .int 0, .int 0, .int 0, .int 0, .ref q5, .int 0, .int 0, .ref q6, .ref q7, .ref q8, .int 0, .int 0, .int 0, .int 0, .int 0, .ref q9, .ref q10, .ref q11, .ref q12, .ref q13, .ref q14, .int 0])), (q0, .inl (cI, 78, .inl (upd (upd (fun _ => 0) 3 1) 4 15))), (q1, .inl (cI, 78, .inl (fun _ => 0))), (q2, .inl (cI, 78, .inl (fun _ => 0))), (q3, .inl (cI, 6, .inl (fun _ => 0))), (q4, .inl (cI, 6, .inl (fun _ => 0))), (q5, .inl (cI, 4, .inl (fun _ => 0))), (q6, .inl (cI, 6, .inl (fun _ => 0))), (q7, .inl (cI, 6, .inl (fun _ => 0))), (q8, .inl (cI, 6, .inl (fun _ => 0))), (q9, .inl (cI, 8, .inl (fun _ => 0))), (q10, .inl (cI, 8, .inl (fun _ => 0))), (q11, .inl (cI, 8, .inl (fun _ => 0))), (q12, .inl (cI, 8, .inl (fun _ => 0))), (q13, .inl (cI, 8, .inl (fun _ => 0))), (q14, .inl (cI, 800, .inl (fun _ => 0)))] H := hP
  have hD : va_D A [(h0, .inr (9, [.ref q0, .ref q1, .ref q2, .int 0, .int 0, .int 0, .int 0, .int 0, .int 0, .int 0, .int 0, .int 0, .int 0, .int 0, .int 0, .int 0, .ref q3, .ref q4, .int 0, .int 0, .int 0, .int 0, .ref q5, .int 0, .int 0, .ref q6, .ref q7, .ref q8, .int 0, .int 0, .int 0, .int 0, .int 0, .ref q9, .ref q10, .ref q11, .ref q12, .ref q13, .ref q14, .int 0])), (q0, .inl (cI, 78, .inl (upd (upd (fun _ => 0) 3 1) 4 15))), (q1, .inl (cI, 78, .inl (fun _ => 0))), (q2, .inl (cI, 78, .inl (fun _ => 0))), (q3, .inl (cI, 6, .inl (fun _ => 0))), (q4, .inl (cI, 6, .inl (fun _ => 0))), (q5, .inl (cI, 4, .inl (fun _ => 0))), (q6, .inl (cI, 6, .inl (fun _ => 0))), (q7, .inl (cI, 6, .inl (fun _ => 0))), (q8, .inl (cI, 6, .inl (fun _ => 0))), (q9, .inl (cI, 8, .inl (fun _ => 0))), (q10, .inl (cI, 8, .inl (fun _ => 0))), (q11, .inl (cI, 8, .inl (fun _ => 0))), (q12, .inl (cI, 8, .inl (fun _ => 0))), (q13, .inl (cI, 8, .inl (fun _ => 0))), (q14, .inl (cI, 800, .inl (fun _ => 0)))] := hD
  refine lv_aload_n hx hb d_Mod_init_139 rfl (lv_at hl 0 rfl) ?_
  refine va_get (D := D) (ci := 9) (v := .ref q0) (C := R_Mod) (T := F_Mod) (N := 40) hx hb hts i_Mod hown hK hP 0 rfl rfl 0 (by decide) (hts (.fieldLink R_Mod 9 "BreatheOutModel" "s" "[I") (tbl_at 995 (by decide +kernel) rfl)) (fun _ h9 => h9) rfl d_Mod_init_140 ?_
  refine lv_iconst (v := 5) hx hb d_Mod_init_143 (by decide) ?_
  refine lv_bipush (v := 120) hx hb d_Mod_init_144 (by decide) ?_
  refine va_iast hx hb hK hP hD hS 1 0 rfl rfl (by unfold vp_in; decide) d_Mod_init_146 (fun H locs hP hD hS => ?_)
  have hP : va_P D classes [(h0, .inr (9, [.ref q0, .ref q1, .ref q2, .int 0, .int 0, .int 0, .int 0, .int 0, .int 0, .int 0, .int 0, .int 0, .int 0, .int 0, .int 0, .int 0, .ref q3, .ref q4, .int 0, .int 0, .int 0, .int 0, .ref q5, .int 0, .int 0, .ref q6, .ref q7, .ref q8, .int 0, .int 0, .int 0, .int 0, .int 0, .ref q9, .ref q10, .ref q11, .ref q12, .ref q13, .ref q14, .int 0])), (q0, .inl (cI, 78, .inl (upd (upd (upd (fun _ => 0) 3 1) 4 15) 5 120))), (q1, .inl (cI, 78, .inl (fun _ => 0))), (q2, .inl (cI, 78, .inl (fun _ => 0))), (q3, .inl (cI, 6, .inl (fun _ => 0))), (q4, .inl (cI, 6, .inl (fun _ => 0))), (q5, .inl (cI, 4, .inl (fun _ => 0))), (q6, .inl (cI, 6, .inl (fun _ => 0))), (q7, .inl (cI, 6, .inl (fun _ => 0))), (q8, .inl (cI, 6, .inl (fun _ => 0))), (q9, .inl (cI, 8, .inl (fun _ => 0))), (q10, .inl (cI, 8, .inl (fun _ => 0))), (q11, .inl (cI, 8, .inl (fun _ => 0))), (q12, .inl (cI, 8, .inl (fun _ => 0))), (q13, .inl (cI, 8, .inl (fun _ => 0))), (q14, .inl (cI, 800, .inl (fun _ => 0)))] H := hP
  have hD : va_D A [(h0, .inr (9, [.ref q0, .ref q1, .ref q2, .int 0, .int 0, .int 0, .int 0, .int 0, .int 0, .int 0, .int 0, .int 0, .int 0, .int 0, .int 0, .int 0, .ref q3, .ref q4, .int 0, .int 0, .int 0, .int 0, .ref q5, .int 0, .int 0, .ref q6, .ref q7, .ref q8, .int 0, .int 0, .int 0, .int 0, .int 0, .ref q9, .ref q10, .ref q11, .ref q12, .ref q13, .ref q14, .int 0])), (q0, .inl (cI, 78, .inl (upd (upd (upd (fun _ => 0) 3 1) 4 15) 5 120))), (q1, .inl (cI, 78, .inl (fun _ => 0))), (q2, .inl (cI, 78, .inl (fun _ => 0))), (q3, .inl (cI, 6, .inl (fun _ => 0))), (q4, .inl (cI, 6, .inl (fun _ => 0))), (q5, .inl (cI, 4, .inl (fun _ => 0))), (q6, .inl (cI, 6, .inl (fun _ => 0))), (q7, .inl (cI, 6, .inl (fun _ => 0))), (q8, .inl (cI, 6, .inl (fun _ => 0))), (q9, .inl (cI, 8, .inl (fun _ => 0))), (q10, .inl (cI, 8, .inl (fun _ => 0))), (q11, .inl (cI, 8, .inl (fun _ => 0))), (q12, .inl (cI, 8, .inl (fun _ => 0))), (q13, .inl (cI, 8, .inl (fun _ => 0))), (q14, .inl (cI, 800, .inl (fun _ => 0)))] := hD
  have hP9 : va_P D classes (sg cI 0 (fun j => if j < 1 then h0 else if j < 2 then q0 else if j < 3 then q1 else if j < 4 then q2 else if j < 5 then q3 else if j < 6 then q4 else if j < 7 then q5 else if j < 8 then q6 else if j < 9 then q7 else if j < 10 then q8 else if j < 11 then q9 else if j < 12 then q10 else if j < 13 then q11 else if j < 14 then q12 else if j < 15 then q13 else if j < 16 then q14 else 0) z_Mod 0 [10, 178, 178, 178, 106, 106, 104, 106, 106, 106, 108, 108, 108, 108, 108, 900]) H := hP
  have hD9 : va_D A (sg cI 0 (fun j => if j < 1 then h0 else if j < 2 then q0 else if j < 3 then q1 else if j < 4 then q2 else if j < 5 then q3 else if j < 6 then q4 else if j < 7 then q5 else if j < 8 then q6 else if j < 9 then q7 else if j < 10 then q8 else if j < 11 then q9 else if j < 12 then q10 else if j < 13 then q11 else if j < 14 then q12 else if j < 15 then q13 else if j < 16 then q14 else 0) z_Mod 0 [10, 178, 178, 178, 106, 106, 104, 106, 106, 106, 108, 108, 108, 108, 108, 900]) := hD
  exact W.vret hx hb hr (fun t ht hW => ⟨⟨(fun j => if j < 1 then h0 else if j < 2 then q0 else if j < 3 then q1 else if j < 4 then q2 else if j < 5 then q3 else if j < 6 then q4 else if j < 7 then q5 else if j < 8 then q6 else if j < 9 then q7 else if j < 10 then q8 else if j < 11 then q9 else if j < 12 then q10 else if j < 13 then q11 else if j < 14 then q12 else if j < 15 then q13 else if j < 16 then q14 else 0, 0), rfl, rfl, by rw [ht]; exact hP9, hD9, (fun h => absurd h (by decide))⟩, hS.F ht⟩) hS.2.2 d_Mod_init_147
