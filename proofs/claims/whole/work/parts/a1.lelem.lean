/-! THE LAW's own 'element': it calls element, catches, writes into out -/
theorem d_Law_element_0 : decode b_Law_element 0 = .ok (.aload_n 3, 1) := by decide +kernel
theorem d_Law_element_1 : decode b_Law_element 1 = .ok (.iconst 0, 1) := by decide +kernel
theorem d_Law_element_2 : decode b_Law_element 2 = .ok (.aload_n 0, 1) := by decide +kernel
theorem d_Law_element_3 : decode b_Law_element 3 = .ok (.iload_n 1, 1) := by decide +kernel
theorem d_Law_element_4 : decode b_Law_element 4 = .ok (.iload_n 2, 1) := by decide +kernel
theorem d_Law_element_5 : decode b_Law_element 5 = .ok (.invokevirtual 7, 3) := by decide +kernel
theorem d_Law_element_8 : decode b_Law_element 8 = .ok (.lastore, 1) := by decide +kernel
theorem d_Law_element_9 : decode b_Law_element 9 = .ok (.goto 11, 3) := by decide +kernel
theorem d_Law_element_12 : decode b_Law_element 12 = .ok (.astore 4, 2) := by decide +kernel
theorem d_Law_element_14 : decode b_Law_element 14 = .ok (.iconst 1, 1) := by decide +kernel
theorem d_Law_element_15 : decode b_Law_element 15 = .ok (.ireturn, 1) := by decide +kernel
theorem d_Law_element_16 : decode b_Law_element 16 = .ok (.astore 4, 2) := by decide +kernel
theorem d_Law_element_18 : decode b_Law_element 18 = .ok (.iconst 2, 1) := by decide +kernel
theorem d_Law_element_19 : decode b_Law_element 19 = .ok (.ireturn, 1) := by decide +kernel
theorem d_Law_element_20 : decode b_Law_element 20 = .ok (.iconst 0, 1) := by decide +kernel
theorem d_Law_element_21 : decode b_Law_element 21 = .ok (.ireturn, 1) := by decide +kernel

def hh_el : List (Nat × Nat × Nat × Nat) := [(0, 9, 12, 13), (0, 9, 16, 15)]
theorem cl_Law_13 : Cond.classLink R_Law 13 kIA ∈ tbl := tbl_at 978 (by decide +kernel) rfl
theorem cl_Law_15 : Cond.classLink R_Law 15 kIS ∈ tbl := tbl_at 979 (by decide +kernel) rfl
theorem ml_Law_7 : Cond.methodLink R_Law 7 y_Brt_element ∈ tbl := tbl_at 980 (by decide +kernel) rfl
set_option maxRecDepth 100000 in
theorem cw_Brt_element : CwV y_Brt_element b_Brt_element 3 (some FieldType.long) 2 := ⟨tbl_at 981 (by decide +kernel) rfl, tbl_at 982 (by decide +kernel) rfl, tbl_at 48 (by decide +kernel) rfl, tbl_at 983 rfl rfl, by decide +kernel, by decide +kernel, by decide +kernel⟩
def PcE (g : Gx) (o : Nat) (cL : ClassId) (A0 : Nat → Prop) (av : List Value) (s : St) (f : Nat → Int64) : Array Value → State → Prop := va_Pc av (fun U => va_P (gD g) classes (gw g s) U.heap ∧ va_P (gD g) classes (outW cL o f) U.heap ∧ va_K (gD g) classes (gty g ++ [(cL, .long)]) U ∧ gN U ∧ gT U ∧ gZ A0 U U.heap)
theorem pcE_blind {g : Gx} {o : Nat} {cL : ClassId} {A0 : Nat → Prop} {av : List Value} {s : St} {f : Nat → Int64} : FrameBlind (PcE g o cL A0 av s f) := fun a U g0 mk q => by
  obtain ⟨q0, qP, qO, qK, qN, qT, qZ⟩ := q
  exact ⟨q0, qP, qO, va_K.moved (u := U) (U := U.calling g0 mk a) (Vm.Alike.refl U.vm) qK, gN_same (u := U) (U := U.calling g0 mk a) rfl qN, gT_same (u := U) (U := U.calling g0 mk a) rfl qT, gZ_moved (u := U) (U := U.calling g0 mk a) (Vm.Alike.refl U.vm) qZ⟩
def QcE (g : Gx) (o : Nat) (cL : ClassId) (A0 : Nat → Prop) (s : St) (post : Int32 → (Nat → Int64) → Prop) : Array Value → State → Outcome → State → Prop := fun _ st oc t =>
  (∃ (r : Int32) (f' : Nat → Int64), oc = .returned (some (.int r)) ∧ post r f' ∧ va_P (gD g) classes (gw g s) t.heap ∧ va_P (gD g) classes (outW cL o f') t.heap) ∧ va_F A0 st t
def rm_Law_element : Room := { frames := 7, cells := 1, slots := 6, locals := 104 }
theorem out_set {cL : ClassId} {o : Nat} {ws : va_W} {f f' : Nat → Int64} {n : Nat} (h : ws.length = n) : (ws ++ outW cL o f).set n (o, .inl (cL, 1, .inr (.inl f'))) = ws ++ outW cL o f' := by
  subst h
  simp [outW]
theorem out_at {cL : ClassId} {o : Nat} {ws : va_W} {f : Nat → Int64} {n : Nat} (h : ws.length = n) : (ws ++ outW cL o f)[n]? = some (o, .inl (cL, 1, .inr (.inl f))) := by
  subst h
  simp [outW]
theorem va_Pl {D : va_G} {cl : List vw_C} {w1 w2 : va_W} {H : Heap} (h : va_P D cl (w1 ++ w2) H) : va_P D cl w1 H := fun k q hk => h k q (by rw [List.getElem?_append_left (List.getElem?_eq_some_iff.mp hk).1]; exact hk)
theorem va_Pr {D : va_G} {cl : List vw_C} {w1 w2 : va_W} {H : Heap} (h : va_P D cl (w1 ++ w2) H) : va_P D cl w2 H := fun k q hk => h (w1.length + k) q (by rw [List.getElem?_append_right (by omega), show w1.length + k - w1.length = k by omega]; exact hk)
theorem outW_a {cL : ClassId} {o : Nat} {f : Nat → Int64} {k : Nat} {q : Nat × va_E} (h : (outW cL o f)[k]? = some q) : q.1 = o := by
  match k, h with
  | 0, h => cases h; rfl
  | k + 1, h => simp [outW] at h
set_option maxHeartbeats 4000000 in
set_option maxRecDepth 20000 in
theorem m_Law_element (g : Gx) (hg : gOk g) (hfl : (gl g).stackTraces = false) (o : Nat) (cL : ClassId) (A0 : Nat → Prop) (hA : ∀ q, gA g q → A0 q ∧ q ≠ o) (ho : A0 o) (x1 x2 : Int32) (s : St) (f : Nat → Int64) (Q : Int64 → Prop) (QE : String → Prop) (hw : vc_Brt_element x1 x2 s Q QE) : Met (gl g) y_Law_element (Cond.codeWith y_Law_element b_Law_element 5 (some FieldType.int) hh_el :: tbl) rm_Law_element (PcE g o cL A0 [.ref (ga g 0), .int x1, .int x2, .ref o] s f) (QcE g o cL A0 s (fun r f' => (r = 0 ∧ Q (f' 0)) ∨ (r = 1 ∧ QE kIA) ∨ (r = 2 ∧ QE kIS))) 1 6 A0 := by
  refine MetFree.of_bodyS (code := b_Law_element) (maxLocals := 5) (ret := some FieldType.int) (by decide) ?_ ?_
  · intro args s m h hn
    obtain ⟨m9, meth, c, hn9, h1, h2, h3, h4, -, h5, h6, -⟩ := Cond.codeWith_spec (atoms_spec (ws := Cond.codeWith y_Law_element b_Law_element 5 (some FieldType.int) hh_el :: tbl) h _ List.mem_cons_self)
    cases hn.symm.trans hn9
    exact ⟨meth, c, h1, h2, h3, h4, h5, h6⟩
  · intro p e s0 m args below meth c s₁ B hml hv _
    obtain ⟨rfl, hP, hO, hK, hN, hT, hZ⟩ := hv
    have hh0 : s₁.heap = s0.heap := by rw [B.state]; rfl
    have hts0 := atoms_spec (ws := Cond.codeWith y_Law_element b_Law_element 5 (some FieldType.int) hh_el :: tbl) B.pre
    have htab : c.exceptionTable.toList = tableOf hh_el := vx_table (x := y_Law_element) B (hts0 _ List.mem_cons_self)
    have hts : ∀ w ∈ tbl, w.before _ s0 = true := fun w hw => hts0 w (List.mem_cons_of_mem _ hw)
    have hx := B.exec
    have hb := B.bytes
    have hr := B.returns
    have hown : s0.vm.findClass R_Law = some m.cls := findClass_of_methodNamed B.named
    have hlocks := B.notSynchronized
    have hl := lv_entry ([.ref (ga g 0), .int x1, .int x2, .ref o]) (n := 5) (Nat.le_of_ble_eq_true rfl)
    have K : W p (gl g) e rm_Law_element s0 m ([.ref (ga g 0), .int x1, .int x2, .ref o] : List Value).toArray below meth c s0.heap [] 0 0 (MQ below (QcE g o cL A0 s (fun r f' => (r = 0 ∧ Q (f' 0)) ∨ (r = 1 ∧ QE kIA) ∨ (r = 2 ∧ QE kIS))) ([.ref (ga g 0), .int x1, .int x2, .ref o] : List Value).toArray s0 1 6 A0) (entryFrame m ([.ref (ga g 0), .int x1, .int x2, .ref o] : List Value).toArray 5) := by
      rw [lg_entry_eq]
      generalize (lg_sl ([.ref (ga g 0), .int x1, .int x2, .ref o]) ++ List.replicate (5 - (lg_sl ([.ref (ga g 0), .int x1, .int x2, .ref o])).length) Slot.unset).toArray = ls at hl ⊢
      have hl : lv_has ls 5 [(0, .ref (ga g 0)), (1, .int x1), (2, .int x2), (3, .ref o)] := hl
      have hK2 := hK.sub (tys' := gty g) [0, 1] rfl
      have hZ2 : gZ (gA g) s0 s0.heap := gZ_narrow hZ (fun q z => (hA q z).1)
      refine lv_aload_n hx hb d_Law_element_0 rfl (lv_at hl 3 rfl) ?_
      refine lv_iconst (v := 0) hx hb d_Law_element_1 (by decide) ?_
      refine lv_aload_n hx hb d_Law_element_2 rfl (lv_at hl 0 rfl) ?_
      refine lv_iload_n hx hb d_Law_element_3 rfl (lv_at hl 1 rfl) ?_
      refine lv_iload_n hx hb d_Law_element_4 rfl (lv_at hl 2 rfl) ?_
      have hrun := vx_runV (p := p) (l := gl g) (e := e) (R := rm_Law_element) (s := s0) (m := m) (args := ([.ref (ga g 0), .int x1, .int x2, .ref o] : List Value).toArray) (below := below) (meth := meth) (c := c) (H := s0.heap) (locs := []) (cells := 0) (slots := 0) (g := F0 m 5 ls [.int x2, .int x1, .ref (ga g 0), .int 0, .ref o]) (As := [.int x1, .int x2]) (rest := [.int 0, .ref o]) (Ts := tbl) (b := ga g 0) (C := y_Brt_element.cls) (nL := 5) (own := R_Law) ⟨hx, hb, hml, hown, hts⟩ (m_Brt_element g hg hfl x1 x2 s Q QE hw) (n := 2) ⟨callB_of 2 hts (good_code cw_Brt_element.2.2.2.1) rfl rfl rfl (hts _ cw_Brt_element.2.2.1) (hts _ ml_Law_7) cw_Brt_element.2.2.2.2 ⟨Nat.le_of_ble_eq_true rfl, Nat.le_of_ble_eq_true rfl⟩, hts _ cw_Brt_element.1, hts _ cw_Brt_element.2.1⟩ ⟨pcT_blind, va_recv hK2 hP (ci := 8) (q0 := 0) rfl (gw_obj (p := 0) (k := 1) rfl (by decide) (by decide)), fun U hU hW => ⟨rfl, by rw [hU]; exact hP, va_K.moved hW.alike hK2, gN_warm hW hN, gT_warm hW hT, by rw [hU]; exact gZ_moved hW.alike hZ2⟩⟩ rfl rfl hl.1 rfl (lv_room (Nat.le_of_ble_eq_true rfl)) d_Law_element_5 ⟨Nat.le_of_ble_eq_true rfl, Nat.le_of_ble_eq_true rfl⟩
      have hS0 : va_S A0 s0.heap s0.heap [] := va_S.rf
      intro T hTT XX
      rcases hrun T hTT XX with ⟨v, st₀, t, T', L1, h0, X', hL, e1, e2, ⟨⟨v1, u, hv, ⟨r, hr1, hu, hq⟩, hb2⟩, hz, hk⟩, go⟩ | ⟨q, st₀, t, T', L1, E, ce, h0, X', hL, e1, e2, ⟨_, _, ⟨⟨hE, hqe⟩, hb2⟩, hz, hk⟩, hce, hcv, hcl, go⟩
      · cases hv
        subst hr1 hu
        rw [h0] at hz hk
        have hP1 : va_P (gD g) classes (gw g s) T'.heap := by rw [e1]; exact hb2
        have hO1 : va_P (gD g) classes (outW cL o f) T'.heap := hO.kept (fun k q hq => by rw [e1]; exact hk q.1 (vx_lt hO hq) (fun z => (hA _ z).2 (outW_a hq)))
        have hS1 : va_S A0 s0.heap T'.heap L1 := ⟨by rw [e1]; exact hz, fun q h1 h2 => by rw [e1]; exact hk q h1 (fun z => h2 (hA _ z).1), fun q hq => (hA _ (hL q hq)).1⟩
        have hD1 : va_D A0 (gw g s ++ outW cL o f) := va_D.app ((hg s).weaken (fun _ _ _ z => (hA _ z).1)) ⟨fun i j p q hi hj _ => by
            match i, j, hi, hj with
            | 0, 0, _, _ => rfl
            | i + 1, _, hi, _ => simp [outW] at hi
            | _, j + 1, _, hj => simp [outW] at hj, fun k q hk => by rw [outW_a hk]; exact ho⟩ (fun i j p q hi hj e => by
            have h1 := (hg s).2 i p hi
            rw [outW_a hj] at e
            exact (hA _ h1).2 e)
        have k : W p (gl g) e rm_Law_element s0 m ([.ref (ga g 0), .int x1, .int x2, .ref o] : List Value).toArray below meth c T'.heap L1 1 6 (MQ below (QcE g o cL A0 s (fun r f' => (r = 0 ∧ Q (f' 0)) ∨ (r = 1 ∧ QE kIA) ∨ (r = 2 ∧ QE kIS))) ([.ref (ga g 0), .int x1, .int x2, .ref o] : List Value).toArray s0 1 6 A0) (F0 m 8 ls [.long r, .int 0, .ref o]) := by
          refine va_last (D := gD g) hx hb hK (hP1.app hO1) hD1 hS1 98 2 (out_at (by simp [gw, wl])) rfl (by unfold vp_in; decide) d_Law_element_8 (fun H1 locs1 hP2 hD2 hS2 => ?_)
          rw [out_set (by simp [gw, wl])] at hP2
          refine lv_goto (tgt := 20) hx hb d_Law_element_9 (by decide) ?_
          refine lv_iconst (v := 0) hx hb d_Law_element_20 (by decide) ?_
          refine W.iret hx hb hr (fun t ht hW => ⟨⟨0, _, rfl, Or.inl ⟨rfl, ?_⟩, by rw [ht]; exact va_Pl hP2, by rw [ht]; exact va_Pr hP2⟩, hS2.F ht⟩) hS2.2.2 d_Law_element_21 hlocks
          exact hq
        obtain ⟨t2, a1, b1⟩ := k T' rfl X'
        exact ⟨t2, go t2 a1, b1⟩
      · rw [h0] at hz hk
        have hP1 : va_P (gD g) classes (gw g s) T'.heap := by rw [e1]; exact hb2
        have hO1 : va_P (gD g) classes (outW cL o f) T'.heap := hO.kept (fun k q hq => by rw [e1]; exact hk q.1 (vx_lt hO hq) (fun z => (hA _ z).2 (outW_a hq)))
        have hS1 : va_S A0 s0.heap T'.heap L1 := ⟨by rw [e1]; exact hz, fun q h1 h2 => by rw [e1]; exact hk q h1 (fun z => h2 (hA _ z).1), fun q hq => (hA _ (hL q hq)).1⟩
        have hce1 : T'.heap[q]? = some ce := by rw [e1]; exact hce
        have k : vx_W p (gl g) e rm_Law_element s0 m ([.ref (ga g 0), .int x1, .int x2, .ref o] : List Value).toArray below meth c T'.heap L1 1 6 (MQ below (QcE g o cL A0 s (fun r f' => (r = 0 ∧ Q (f' 0)) ∨ (r = 1 ∧ QE kIA) ∨ (r = 2 ∧ QE kIS))) ([.ref (ga g 0), .int x1, .int x2, .ref o] : List Value).toArray s0 1 6 A0) (F0 m 5 ls [.int 0, .ref o]) q := by
          rcases hE with rfl | rfl
          · refine vx_catch (own := R_Law) (name := kIA) hown [] ⟨0, 9, 12, 13⟩ [⟨0, 9, 16, 15⟩] htab (fun z hz => by cases hz) (by decide) (by decide) (hts _ cl_Law_13) (va_Nw.use rfl (hT.1 kIA (by decide))) hce1 hcv hcl ?_
            refine lv_astore (lv' := [(4, .ref q), (0, .ref (ga g 0)), (1, .int x1), (2, .int x2), (3, .ref o)]) hx hb d_Law_element_12 hl (by decide) rfl (fun ls hl => ?_)
            refine lv_iconst (v := 1) hx hb d_Law_element_14 (by decide) ?_
            exact W.iret hx hb hr (fun t ht hW => ⟨⟨1, f, rfl, Or.inr (Or.inl ⟨rfl, hqe⟩), by rw [ht]; exact hP1, by rw [ht]; exact hO1⟩, hS1.F ht⟩) hS1.2.2 d_Law_element_15 hlocks
          · refine vx_catch (own := R_Law) (name := kIS) hown [⟨0, 9, 12, 13⟩] ⟨0, 9, 16, 15⟩ [] htab (fun z hz => by
              rcases List.mem_singleton.mp hz with rfl
              exact Or.inr ⟨by decide, kIA, hts _ cl_Law_13, hT.2.2.1 (kIS, kIA) (by decide)⟩) (by decide) (by decide) (hts _ cl_Law_15) (va_Nw.use rfl (hT.1 kIS (by decide))) hce1 hcv hcl ?_
            refine lv_astore (lv' := [(4, .ref q), (0, .ref (ga g 0)), (1, .int x1), (2, .int x2), (3, .ref o)]) hx hb d_Law_element_16 hl (by decide) rfl (fun ls hl => ?_)
            refine lv_iconst (v := 2) hx hb d_Law_element_18 (by decide) ?_
            exact W.iret hx hb hr (fun t ht hW => ⟨⟨2, f, rfl, Or.inr (Or.inr ⟨rfl, hqe⟩), by rw [ht]; exact hP1, by rw [ht]; exact hO1⟩, hS1.F ht⟩) hS1.2.2 d_Law_element_19 hlocks
        obtain ⟨t2, a1, b1⟩ := k T' rfl X'
        exact ⟨t2, go.trans a1, b1⟩
    obtain ⟨t, a1, o1, b1, b2, b3⟩ := K s₁ hh0 (Stand.of_body B)
    exact ⟨t, o1, a1, b1, b2, ⟨b3.1, b3.2⟩⟩
/-! the law calls it -/
section LE
variable {X : Xx} {o : Nat} {cL : ClassId} {b L : Nat} {xs1 : Nat → Int32} {Q : State → Prop} {kc ks : Nat} {s : St} {f : Nat → Int64} {pc : Nat} {Lo : List (Option Value)}
theorem ml_Law_175 : Cond.methodLink R_Law 175 y_Law_element ∈ tbl := tbl_at 975 (by decide +kernel) rfl
set_option maxRecDepth 100000 in
theorem cw_Law_element : Cond.static y_Law_element ∈ tbl ∧ Cond.initialized y_Law_element.cls ∈ tbl ∧ Cond.codeWith y_Law_element b_Law_element 5 (some FieldType.int) hh_el ∈ tbl ∧ y_Law_element.cls ≠ "java/lang/invoke/MethodHandle" ∧ y_Law_element.cls ≠ "java/lang/invoke/VarHandle" ∧ (parseMethodDescriptor y_Law_element.desc).map (fun d => d.parameters.length) = some 4 := ⟨tbl_at 976 (by decide +kernel) rfl, tbl_at 47 (by decide +kernel) rfl, tbl_at 977 rfl rfl, by decide +kernel, by decide +kernel, by decide +kernel⟩
set_option maxHeartbeats 1000000 in
theorem l_callE {x1 x2 : Int32} {QQ : Int64 → Prop} {QE : String → Prop} (K : Lok X o cL b L xs1) (hw : vc_Brt_element x1 x2 s QQ QE) (hcs : kc + 1 ≤ 601024 ∧ ks + 6 ≤ 7293034) (d : decode code pc = .ok (.invokestatic 175, 3))
    (k : ∀ (r : Int32) (f' : Nat → Int64), (r = 0 ∧ QQ (f' 0)) ∨ (r = 1 ∧ QE kIA) ∨ (r = 2 ∧ QE kIS) → LV X o cL Q (kc + 1) (ks + 6) s f' (pc + 3) Lo [.int r]) : LV X o cL Q kc ks s f pc Lo [.ref o, .int x2, .int x1, .ref (xa X 0)] := fun H locs ls hP hO hS hl' => by
  have C := K.1
  have hts := C.2.2.2.2.1
  have hRm := C.2.2.2.2.2.2.2.1
  have hA := K.2.2.2.2.1
  have hZ : gZ (lA X) (xs X) H := gZ_kept K.2.2.1 hS.2.1
  have hrun := vx_runSW (p := xp X) (l := gl (xg X)) (e := xe X) (R := xR X) (s := xs X) (m := xm X) (args := xar X) (below := xbe X) (meth := xme X) (c := xc X) (H := H) (locs := locs) (cells := kc) (slots := ks) (g := F0 (xm X) pc ls [.ref o, .int x2, .int x1, .ref (xa X 0)]) (As := [.ref (xa X 0), .int x1, .int x2, .ref o]) (rest := []) (Ts := tbl) (nL := 8) (own := R_Law) ⟨C.1, C.2.1, C.2.2.1, C.2.2.2.1, hts⟩ (m_Law_element (xg X) C.2.2.2.2.2.2.1 K.2.2.2.1 o cL (lA X) hA K.2.2.2.2.2.1 x1 x2 s f QQ QE hw) (n := 4) ⟨⟨rfl, rfl, by rw [hRm]; exact Nat.le_of_ble_eq_true rfl, by rw [hRm]; exact Nat.le_of_ble_eq_true rfl, pay_in hts (good_code cw_Law_element.2.2.1), List.mem_cons_self⟩, hts _ cw_Law_element.2.2.1, hts _ cw_Law_element.2.1, ⟨cw_Law_element.2.2.2.1, cw_Law_element.2.2.2.2.1⟩, fun sig h => by
    have h2 := cw_Law_element.2.2.2.2.2
    rw [h] at h2
    exact (Option.some.inj h2).symm, hts _ ml_Law_175, hts _ cw_Law_element.1⟩ ⟨pcE_blind, fun U hU hW => ⟨rfl, by rw [hU]; exact hP, by rw [hU]; exact hO, va_K.moved hW.alike K.2.2.2.2.2.2.2.2.2.1, gN_warm hW C.2.2.2.2.2.2.2.2.2.2.2, gT_warm hW K.2.1, by rw [hU]; exact gZ_moved hW.alike hZ⟩⟩ rfl rfl (hl'.1.trans C.2.2.2.2.2.2.2.2.2.2.1) rfl (lv_room (Nat.le_of_ble_eq_true rfl)) d (by rw [hRm]; exact hcs)
  intro T hT XX
  obtain ⟨v, st₀, t, T', L1, h0, X', hL, e1, e2, ⟨⟨r, f', hv, hp, hb1, hb2⟩, hz, hk⟩, go⟩ := hrun T hT XX
  cases hv
  rw [h0] at hz hk
  obtain ⟨t2, a1, b1⟩ := k r f' hp T'.heap (locs ++ L1) ls (by rw [e1]; exact hb1) (by rw [e1]; exact hb2) ⟨Nat.le_trans hS.1 (by rw [e1]; exact hz), fun q h1 h2 => by rw [e1, hk q (Nat.lt_of_lt_of_le h1 hS.1) h2]; exact hS.2.1 q h1 h2, fun q hq => by
      rcases List.mem_append.mp hq with h | h
      · exact hS.2.2 q h
      · exact hL q h⟩ hl' T' rfl X'
  exact ⟨t2, go t2 a1, b1⟩
end LE
