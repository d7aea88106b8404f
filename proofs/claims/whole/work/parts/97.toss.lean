/-! THROWING: calls of methods that throw, catching; toss -/
section XTC
variable {X : Xx} {cc cy : ByteArray} {own : String} {nL ny n i : Nat} {ret ry : Option FieldType} {rm r : Room} {Q : State → Prop} {kc ks mc ms : Nat} {s : St} {pc : Nat} {L : List (Option Value)} {st As rest : List Value} {p : Nat} {y : MethodName} {post : Option Value → St → Prop} {pE : String → Prop}
theorem x_afterX {avs : Array Value} {H : Heap} {locs : List Loc} {ls : Array Slot} (hr : vx_Run (xp X) (gl (xg X)) (xe X) (xR X) (xs X) (xm X) (xar X) (xbe X) (xme X) (xc X) H locs kc ks mc ms (F0 (xm X) pc ls st) rest (Qx (xg X) post avs) (XT (xg X) s pE) (gA (xg X))) (hS : va_S (gA (xg X)) (xs X).heap H locs) (hl : lh ls (xn X) L)
    (k : ∀ v s', post v s' → V X Q (kc + mc) (ks + ms) s' (pc + 3) L (v.toList ++ rest)) (kx : ∀ E q, pE E → VX X Q (kc + mc) (ks + ms) s pc L rest E q) : W (xp X) (gl (xg X)) (xe X) (xR X) (xs X) (xm X) (xar X) (xbe X) (xme X) (xc X) H locs kc ks Q (F0 (xm X) pc ls st) := by
  intro T hT XX
  rcases hr T hT XX with ⟨v, st₀, t, T', L1, h0, X', hL, e1, e2, ⟨⟨v1, u, hv, hp, hb⟩, hz, hk⟩, go⟩ | ⟨q, st₀, t, T', L1, E, ce, h0, X', hL, e1, e2, ⟨_, _, ⟨hE, hb⟩, hz, hk⟩, hce, hcv, hcl, go⟩
  · cases hv
    rw [h0] at hz hk
    obtain ⟨t2, a1, b1⟩ := k v u hp T'.heap (locs ++ L1) ls (by rw [e1]; exact hb) ⟨Nat.le_trans hS.1 (by rw [e1]; exact hz), fun q h1 h2 => by rw [e1, hk q (Nat.lt_of_lt_of_le h1 hS.1) h2]; exact hS.2.1 q h1 h2, fun q hq => by
        rcases List.mem_append.mp hq with h | h
        · exact hS.2.2 q h
        · exact hL q h⟩ hl T' rfl X'
    exact ⟨t2, go t2 a1, b1⟩
  · rw [h0] at hz hk
    obtain ⟨t2, a1, b1⟩ := kx E q hE T'.heap (locs ++ L1) ls ce (by rw [e1]; exact hb) ⟨Nat.le_trans hS.1 (by rw [e1]; exact hz), fun q h1 h2 => by rw [e1, hk q (Nat.lt_of_lt_of_le h1 hS.1) h2]; exact hS.2.1 q h1 h2, fun q hq => by
        rcases List.mem_append.mp hq with h | h
        · exact hS.2.2 q h
        · exact hL q h⟩ hl (by rw [e1]; exact hce) hcv hcl T' rfl X'
    exact ⟨t2, go.trans a1, b1⟩
theorem x_callST (C : Cok X cc own nL ret rm) (hT : gT (xs X)) (hZ : gZ (gA (xg X)) (xs X) (xs X).heap) (hM : vx_Met (gl (xg X)) y (Cond.code y cy ny ry :: tbl) r (PcT (xg X) As s) (Qx (xg X) post) (XT (xg X) s pE) mc ms (gA (xg X))) (w : CwS y cy ny ry n) (hl : Cond.methodLink own i y ∈ tbl) (hn : As.length = n) (hR : r.cells = mc ∧ r.slots = ms ∧ r.frames + 1 ≤ rm.frames ∧ 8 + (ny + 11) + r.locals ≤ rm.locals) (hcs : kc + mc ≤ rm.cells ∧ ks + ms ≤ rm.slots) (hst : st = As.reverse ++ rest) (hct : (rest.map fun v => v.category).sum ≤ 8) (d : decode cc pc = .ok (.invokestatic i, 3))
    (k : ∀ v s', post v s' → V X Q (kc + mc) (ks + ms) s' (pc + 3) L (v.toList ++ rest)) (kx : ∀ E q, pE E → VX X Q (kc + mc) (ks + ms) s pc L rest E q) : V X Q kc ks s pc L st := fun H locs ls hP hS hl' => by
  have hts := C.2.2.2.2.1
  have hKK := C.2.2.2.2.2.1
  have hRm := C.2.2.2.2.2.2.2.1
  exact x_afterX (vx_runS (As := As) (rest := rest) (Ts := tbl) (nL := nL) (own := own) ⟨C.1, C.2.1, C.2.2.1, C.2.2.2.1, hts⟩ hM (n := n) ⟨callB_of n hts (good_code w.2.2.1) rfl hR.1 hR.2.1 (hts _ w.2.1) (hts _ hl) w.2.2.2 (by rw [hRm]; exact hR.2.2), hts _ w.1⟩ ⟨pcT_blind, fun U hU hW => ⟨rfl, by rw [hU]; exact hP, va_K.moved hW.alike hKK, gN_warm hW C.2.2.2.2.2.2.2.2.2.2.2, gT_warm hW hT, by rw [hU]; exact gZ_moved hW.alike (gZ_kept hZ hS.2.1)⟩⟩ rfl hn (hl'.1.trans C.2.2.2.2.2.2.2.2.2.2.1) hst (lv_room hct) d (by rw [hRm]; exact hcs)) hS hl' k kx
theorem x_catch (C : Cok X cc own nL ret rm) (hT : gT (xs X)) {E : String} {q : Addr} (hE : E ∈ gTc) (pre : List ExceptionTableEntry) (x : ExceptionTableEntry) (suf : List ExceptionTableEntry) (hsplit : (xc X).exceptionTable.toList = pre ++ x :: suf) (hpass : ∀ z ∈ pre, z.catchType ≠ 0 ∧ ∃ nm, Cond.classLink own z.catchType nm ∈ tbl ∧ (E, nm) ∈ gTn) (hx : covers x pc = true) (h0 : x.catchType ≠ 0) (hlink : Cond.classLink own x.catchType E ∈ tbl)
    (kk : V X Q kc ks s x.handlerPc L [.ref q]) : VX X Q kc ks s pc L rest E q := fun H locs ls ce hP hS hl hce hcv hcl =>
  vx_catch (own := own) (name := E) C.2.2.2.1 pre x suf hsplit (fun z hz => by
    obtain ⟨hz0, nm, h1, h2⟩ := hpass z hz
    exact Or.inr ⟨hz0, nm, C.2.2.2.2.1 _ h1, hT.2.2.1 _ h2⟩) hx h0 (C.2.2.2.2.1 _ hlink) (va_Nw.use rfl (hT.1 _ hE)) hce hcv hcl (kk H locs ls hP hS hl)
end XTC
/-- a method with handlers that returns: its contract out of its walk -/
theorem mm_ofVH {g : Gx} {y : MethodName} {cc : ByteArray} {nL j mc ms : Nat} {ret : Option FieldType} {rm : Room} {av : List Value} {s : St} {post : Option Value → St → Prop} {L : List (Option Value)} {hh : List (Nat × Nat × Nat × Nat)} (hg : gOk g) (hy : plainName y.cls = true) (hav : (lg_sl av).length ≤ nL) (hL : la av ++ List.replicate j none = L)
    (body : ∀ X : Xx, xg X = g → Cok X cc y.cls nL ret rm → gT (xs X) → gZ (gA (xg X)) (xs X) (xs X).heap → (xc X).exceptionTable.toList = tableOf hh → V X (xM X post mc ms) 0 0 s 0 L []) : Met (gl g) y (Cond.codeWith y cc nL ret hh :: tbl) rm (PcT g av s) (Qx g post) mc ms (gA g) := by
  refine MetFree.of_bodyS (code := cc) (maxLocals := nL) (ret := ret) hy ?_ ?_
  · intro args s m h hn
    obtain ⟨m9, meth, c, hn9, h1, h2, h3, h4, -, h5, h6, -⟩ := Cond.codeWith_spec (atoms_spec (ws := Cond.codeWith y cc nL ret hh :: tbl) h _ List.mem_cons_self)
    cases hn.symm.trans hn9
    exact ⟨meth, c, h1, h2, h3, h4, h5, h6⟩
  · intro p e s0 m args below meth c s₁ B hml hv _
    obtain ⟨rfl, hP, hK, hN, hT, hZ⟩ := hv
    have hh0 : s₁.heap = s0.heap := by rw [B.state]; rfl
    have hts := atoms_spec (ws := Cond.codeWith y cc nL ret hh :: tbl) B.pre
    have htab : c.exceptionTable.toList = tableOf hh := vx_table (x := y) B (hts _ List.mem_cons_self)
    have hl := lv_entry av (n := nL) hav
    have K : W p (gl g) e (headSpec (Cond.codeWith y cc nL ret hh :: tbl) rm).room s0 m av.toArray below meth c s0.heap [] 0 0 (MQ below (Qx g post) av.toArray s0 mc ms (gA g)) (entryFrame m av.toArray nL) := by
      rw [lg_entry_eq]
      generalize (lg_sl av ++ List.replicate (nL - (lg_sl av).length) Slot.unset).toArray = ls at hl ⊢
      exact body (g, p, e, (headSpec (Cond.codeWith y cc nL ret hh :: tbl) rm).room, s0, m, av.toArray, below, meth, c, nL) rfl ⟨B.exec, B.bytes, hml, findClass_of_methodNamed B.named, fun w hw => hts w (List.mem_cons_of_mem _ hw), hK, hg, rfl, B.notSynchronized, B.returns, rfl, hN⟩ hT hZ htab s0.heap [] ls hP va_S.rf (by rw [← hL]; exact lh_entry hl)
    obtain ⟨t, a1, o, b1, b2, b3⟩ := K s₁ hh0 (Stand.of_body B)
    exact ⟨t, o, a1, b1, b2, ⟨b3.1, b3.2⟩⟩
theorem d_Brt_toss_0 : decode b_Brt_toss 0 = .ok (.aload_n 0, 1) := by decide +kernel
theorem d_Brt_toss_1 : decode b_Brt_toss 1 = .ok (.iload_n 1, 1) := by decide +kernel
theorem d_Brt_toss_2 : decode b_Brt_toss 2 = .ok (.invokevirtual 155, 3) := by decide +kernel
theorem d_Brt_toss_5 : decode b_Brt_toss 5 = .ok (.istore_n 2, 1) := by decide +kernel
theorem d_Brt_toss_6 : decode b_Brt_toss 6 = .ok (.iload_n 2, 1) := by decide +kernel
theorem d_Brt_toss_7 : decode b_Brt_toss 7 = .ok (.ifCond .eq 5, 3) := by decide +kernel
theorem d_Brt_toss_10 : decode b_Brt_toss 10 = .ok (.iload_n 2, 1) := by decide +kernel
theorem d_Brt_toss_11 : decode b_Brt_toss 11 = .ok (.ireturn, 1) := by decide +kernel
theorem d_Brt_toss_12 : decode b_Brt_toss 12 = .ok (.aload_n 0, 1) := by decide +kernel
theorem d_Brt_toss_13 : decode b_Brt_toss 13 = .ok (.getfield 49, 3) := by decide +kernel
theorem d_Brt_toss_16 : decode b_Brt_toss 16 = .ok (.iload_n 1, 1) := by decide +kernel
theorem d_Brt_toss_17 : decode b_Brt_toss 17 = .ok (.aaload, 1) := by decide +kernel
theorem d_Brt_toss_18 : decode b_Brt_toss 18 = .ok (.getfield 158, 3) := by decide +kernel
theorem d_Brt_toss_21 : decode b_Brt_toss 21 = .ok (.istore_n 3, 1) := by decide +kernel
theorem d_Brt_toss_22 : decode b_Brt_toss 22 = .ok (.aload_n 0, 1) := by decide +kernel
theorem d_Brt_toss_23 : decode b_Brt_toss 23 = .ok (.getfield 49, 3) := by decide +kernel
theorem d_Brt_toss_26 : decode b_Brt_toss 26 = .ok (.iload_n 1, 1) := by decide +kernel
theorem d_Brt_toss_27 : decode b_Brt_toss 27 = .ok (.aaload, 1) := by decide +kernel
theorem d_Brt_toss_28 : decode b_Brt_toss 28 = .ok (.getfield 160, 3) := by decide +kernel
theorem d_Brt_toss_31 : decode b_Brt_toss 31 = .ok (.istore 4, 2) := by decide +kernel
theorem d_Brt_toss_33 : decode b_Brt_toss 33 = .ok (.iload_n 3, 1) := by decide +kernel
theorem d_Brt_toss_34 : decode b_Brt_toss 34 = .ok (.iload 4, 2) := by decide +kernel
theorem d_Brt_toss_36 : decode b_Brt_toss 36 = .ok (.invokestatic 390, 3) := by decide +kernel
theorem d_Brt_toss_39 : decode b_Brt_toss 39 = .ok (.goto 29, 3) := by decide +kernel
theorem d_Brt_toss_42 : decode b_Brt_toss 42 = .ok (.astore 5, 2) := by decide +kernel
theorem d_Brt_toss_44 : decode b_Brt_toss 44 = .ok (.sipush 200, 3) := by decide +kernel
theorem d_Brt_toss_47 : decode b_Brt_toss 47 = .ok (.iload_n 3, 1) := by decide +kernel
theorem d_Brt_toss_48 : decode b_Brt_toss 48 = .ok (.iload 4, 2) := by decide +kernel
theorem d_Brt_toss_50 : decode b_Brt_toss 50 = .ok (.invokestatic 385, 3) := by decide +kernel
theorem d_Brt_toss_53 : decode b_Brt_toss 53 = .ok (.iadd, 1) := by decide +kernel
theorem d_Brt_toss_54 : decode b_Brt_toss 54 = .ok (.ireturn, 1) := by decide +kernel
theorem d_Brt_toss_55 : decode b_Brt_toss 55 = .ok (.astore 5, 2) := by decide +kernel
theorem d_Brt_toss_57 : decode b_Brt_toss 57 = .ok (.bipush 100, 2) := by decide +kernel
theorem d_Brt_toss_59 : decode b_Brt_toss 59 = .ok (.iload 4, 2) := by decide +kernel
theorem d_Brt_toss_61 : decode b_Brt_toss 61 = .ok (.iadd, 1) := by decide +kernel
theorem d_Brt_toss_62 : decode b_Brt_toss 62 = .ok (.ireturn, 1) := by decide +kernel
theorem d_Brt_toss_63 : decode b_Brt_toss 63 = .ok (.astore 5, 2) := by decide +kernel
theorem d_Brt_toss_65 : decode b_Brt_toss 65 = .ok (.iload 4, 2) := by decide +kernel
theorem d_Brt_toss_67 : decode b_Brt_toss 67 = .ok (.ireturn, 1) := by decide +kernel
theorem d_Brt_toss_68 : decode b_Brt_toss 68 = .ok (.bipush (-15), 2) := by decide +kernel
theorem d_Brt_toss_70 : decode b_Brt_toss 70 = .ok (.ireturn, 1) := by decide +kernel

theorem ml_Brt_390 : Cond.methodLink R_Brt 390 y_Kin_fail ∈ tbl := tbl_at 872 (by decide +kernel) rfl
set_option maxRecDepth 100000 in
theorem cw_Kin_fail : CwS y_Kin_fail b_Kin_fail 2 none 2 := ⟨tbl_at 873 (by decide +kernel) rfl, tbl_at 60 (by decide +kernel) rfl, tbl_at 874 rfl rfl, by decide +kernel, by decide +kernel, by decide +kernel⟩
theorem cl_Brt_393 : Cond.classLink R_Brt 393 kUO ∈ tbl := tbl_at 869 (by decide +kernel) rfl
theorem cl_Brt_369 : Cond.classLink R_Brt 369 kIS ∈ tbl := tbl_at 870 (by decide +kernel) rfl
theorem cl_Brt_362 : Cond.classLink R_Brt 362 kIA ∈ tbl := tbl_at 871 (by decide +kernel) rfl
def hh_toss : List (Nat × Nat × Nat × Nat) := [(33, 39, 42, 393), (33, 39, 55, 369), (33, 39, 63, 362)]
def vc_Brt_toss (x1 : Int32) (s : St) (Q : Int32 → Prop) : Prop :=
    vc_Brt_refusalOfKind x1 s (fun r => (r = 0 → (vp_in x1 8 ∧ ((s (shp x1) 1 = 7 ∨ s (shp x1) 2 = 0) → Q (-15)) ∧ (¬ (s (shp x1) 1 = 7 ∨ s (shp x1) 2 = 0) → ((s (shp x1) 1 = 6 → vc_Kin_costOf 2 (s (shp x1) 1) (s (shp x1) 2) (fun c => Q (200 + c))) ∧ (¬ s (shp x1) 1 = 6 → (((s (shp x1) 1 = 2 ∨ s (shp x1) 1 = 3) → Q (100 + s (shp x1) 2)) ∧ (¬ (s (shp x1) 1 = 2 ∨ s (shp x1) 1 = 3) → Q (s (shp x1) 2)))))))) ∧ (¬ r = 0 → Q r))
def rm_Brt_toss : Room := { frames := 7, cells := 1, slots := 6, locals := 103 }
set_option maxHeartbeats 4000000 in
set_option maxRecDepth 20000 in
theorem m_Brt_toss (g : Gx) (hg : gOk g) (hfl : (gl g).stackTraces = false) (x1 : Int32) (s : St) (Q : Int32 → Prop) (hw : vc_Brt_toss x1 s Q) : Met (gl g) y_Brt_toss (Cond.codeWith y_Brt_toss b_Brt_toss 6 (some FieldType.int) hh_toss :: tbl) rm_Brt_toss (PcT g [.ref (ga g 0), .int x1] s) (Qx g (fun v s' => ∃ r : Int32, v = some (.int r) ∧ s = s' ∧ Q r)) 1 6 (gA g) := by
  refine mm_ofVH (j := 4) (L := [some (.ref (ga g 0)), some (.int x1), none, none, none, none]) hg (by decide) (Nat.le_of_ble_eq_true rfl) rfl ?_
  intro X hX C hT hZ htab
  subst hX
  unfold vc_Brt_toss at hw
  refine x_aload_n C d_Brt_toss_0 rfl ?_
  refine x_iload_n C d_Brt_toss_1 rfl ?_
  refine x_callV (As := [.int x1]) (rest := []) (p := 0) C (m_Brt_refusalOfKind (xg X) C.2.2.2.2.2.2.1 x1 s _ hw) cw_Brt_refusalOfKind ml_Brt_155 rfl (by decide) (by decide) rfl rfl rfl ⟨rfl, rfl, Nat.le_of_ble_eq_true rfl, Nat.le_of_ble_eq_true rfl⟩ ⟨Nat.zero_le _, Nat.zero_le _⟩ rfl (Nat.le_of_ble_eq_true rfl) d_Brt_toss_2 ?_
  rintro _ _ ⟨x10, rfl, rfl, hw⟩
  show V X _ _ _ _ 5 [some (.ref (xa X 0)), some (.int x1), none, none, none, none] [.int x10]
  refine x_istore_n (L' := [some (.ref (xa X 0)), some (.int x1), some (.int x10), none, none, none]) C d_Brt_toss_5 (Nat.le_of_ble_eq_true rfl) rfl ?_
  refine x_iload_n C d_Brt_toss_6 rfl ?_
  refine x_if_eq (tgt := 12) C d_Brt_toss_7 (by decide) (fun c12 => ?_) (fun c12 => ?_)
  · obtain ⟨h13, hw1, hw2⟩ := hw.1 c12
    refine x_aload_n C d_Brt_toss_12 rfl ?_
    refine g_Brt_7 (p := 0) C rfl fl_Brt_49 d_Brt_toss_13 ?_
    refine x_iload_n C d_Brt_toss_16 rfl ?_
    refine x_aald C h13 d_Brt_toss_17 ?_
    refine g_She_1 (p := (shp x1)) C (shp_kd h13) fl_Brt_158 d_Brt_toss_18 ?_
    refine x_istore_n (L' := [some (.ref (xa X 0)), some (.int x1), some (.int x10), some (.int (s (shp x1) 1)), none, none]) C d_Brt_toss_21 (Nat.le_of_ble_eq_true rfl) rfl ?_
    refine x_aload_n C d_Brt_toss_22 rfl ?_
    refine g_Brt_7 (p := 0) C rfl fl_Brt_49 d_Brt_toss_23 ?_
    refine x_iload_n C d_Brt_toss_26 rfl ?_
    refine x_aald C h13 d_Brt_toss_27 ?_
    refine g_She_2 (p := (shp x1)) C (shp_kd h13) fl_Brt_160 d_Brt_toss_28 ?_
    refine x_istore (L' := [some (.ref (xa X 0)), some (.int x1), some (.int x10), some (.int (s (shp x1) 1)), some (.int (s (shp x1) 2)), none]) C d_Brt_toss_31 (Nat.le_of_ble_eq_true rfl) rfl ?_
    refine x_iload_n C d_Brt_toss_33 rfl ?_
    refine x_iload C d_Brt_toss_34 rfl ?_
    refine x_callST (As := [.int (s (shp x1) 1), .int (s (shp x1) 2)]) (rest := []) C hT hZ (m_Kin_fail (xg X) C.2.2.2.2.2.2.1 hfl (s (shp x1) 1) (s (shp x1) 2) s) cw_Kin_fail ml_Brt_390 rfl ⟨rfl, rfl, Nat.le_of_ble_eq_true rfl, Nat.le_of_ble_eq_true rfl⟩ ⟨Nat.le_of_ble_eq_true rfl, Nat.le_of_ble_eq_true rfl⟩ rfl (Nat.le_of_ble_eq_true rfl) d_Brt_toss_36 ?_ ?_
    · rintro _ _ ⟨rfl, rfl, hnf⟩
      show V X _ _ _ _ 39 [some (.ref (xa X 0)), some (.int x1), some (.int x10), some (.int (s (shp x1) 1)), some (.int (s (shp x1) 2)), none] []
      refine x_goto (tgt := 68) C d_Brt_toss_39 (by decide) ?_
      refine x_bipush (v := (-15)) C d_Brt_toss_68 rfl ?_
      exact xm_ireturn C d_Brt_toss_70 (Nat.le_refl _) (Nat.le_refl _) ⟨_, rfl, rfl, hw1 hnf⟩
    · rintro E q ⟨hn, rfl⟩
      have hw2 := hw2 hn
      unfold failE
      by_cases c6 : s (shp x1) 1 = 6
      · rw [if_pos c6]
        refine x_catch C hT (by decide) [] ⟨33, 39, 42, 393⟩ [⟨33, 39, 55, 369⟩, ⟨33, 39, 63, 362⟩] htab (fun z hz => by cases hz) (by decide) (by decide) cl_Brt_393 ?_
        show V X _ _ _ _ 42 [some (.ref (xa X 0)), some (.int x1), some (.int x10), some (.int (s (shp x1) 1)), some (.int (s (shp x1) 2)), none] [.ref q]
        refine x_astore (L' := [some (.ref (xa X 0)), some (.int x1), some (.int x10), some (.int (s (shp x1) 1)), some (.int (s (shp x1) 2)), some (.ref q)]) C d_Brt_toss_42 (Nat.le_of_ble_eq_true rfl) rfl ?_
        refine x_sipush (v := 200) C d_Brt_toss_44 rfl ?_
        refine x_iload_n C d_Brt_toss_47 rfl ?_
        refine x_iload C d_Brt_toss_48 rfl ?_
        refine x_callS (As := [.int (s (shp x1) 1), .int (s (shp x1) 2)]) (rest := [.int 200]) C (m_Kin_costOf (xg X) C.2.2.2.2.2.2.1 2 (s (shp x1) 1) (s (shp x1) 2) s _ (hw2.1 c6)) cw_Kin_costOf ml_Brt_385 rfl ⟨rfl, rfl, Nat.le_of_ble_eq_true rfl, Nat.le_of_ble_eq_true rfl⟩ ⟨Nat.le_of_ble_eq_true rfl, Nat.le_of_ble_eq_true rfl⟩ rfl (Nat.le_of_ble_eq_true rfl) d_Brt_toss_50 ?_
        rintro _ _ ⟨x15, rfl, rfl, hw⟩
        show V X _ _ _ _ 53 [some (.ref (xa X 0)), some (.int x1), some (.int x10), some (.int (s (shp x1) 1)), some (.int (s (shp x1) 2)), some (.ref q)] [.int x15, .int 200]
        refine x_iadd C d_Brt_toss_53 ?_
        exact xm_ireturn C d_Brt_toss_54 (Nat.le_refl _) (Nat.le_refl _) ⟨_, rfl, rfl, hw⟩
      · rw [if_neg c6]
        by_cases c23 : s (shp x1) 1 = 2 ∨ s (shp x1) 1 = 3
        · rw [if_pos c23]
          refine x_catch C hT (by decide) [⟨33, 39, 42, 393⟩] ⟨33, 39, 55, 369⟩ [⟨33, 39, 63, 362⟩] htab (fun z hz => by
            rcases List.mem_singleton.mp hz with rfl
            exact ⟨by decide, kUO, cl_Brt_393, by decide⟩) (by decide) (by decide) cl_Brt_369 ?_
          show V X _ _ _ _ 55 [some (.ref (xa X 0)), some (.int x1), some (.int x10), some (.int (s (shp x1) 1)), some (.int (s (shp x1) 2)), none] [.ref q]
          refine x_astore (L' := [some (.ref (xa X 0)), some (.int x1), some (.int x10), some (.int (s (shp x1) 1)), some (.int (s (shp x1) 2)), some (.ref q)]) C d_Brt_toss_55 (Nat.le_of_ble_eq_true rfl) rfl ?_
          refine x_bipush (v := 100) C d_Brt_toss_57 rfl ?_
          refine x_iload C d_Brt_toss_59 rfl ?_
          refine x_iadd C d_Brt_toss_61 ?_
          exact xm_ireturn C d_Brt_toss_62 (Nat.le_refl _) (Nat.le_refl _) ⟨_, rfl, rfl, (hw2.2 c6).1 c23⟩
        · rw [if_neg c23]
          refine x_catch C hT (by decide) [⟨33, 39, 42, 393⟩, ⟨33, 39, 55, 369⟩] ⟨33, 39, 63, 362⟩ [] htab (fun z hz => by
            rcases List.mem_cons.mp hz with rfl | hz
            · exact ⟨by decide, kUO, cl_Brt_393, by decide⟩
            · rcases List.mem_singleton.mp hz with rfl
              exact ⟨by decide, kIS, cl_Brt_369, by decide⟩) (by decide) (by decide) cl_Brt_362 ?_
          show V X _ _ _ _ 63 [some (.ref (xa X 0)), some (.int x1), some (.int x10), some (.int (s (shp x1) 1)), some (.int (s (shp x1) 2)), none] [.ref q]
          refine x_astore (L' := [some (.ref (xa X 0)), some (.int x1), some (.int x10), some (.int (s (shp x1) 1)), some (.int (s (shp x1) 2)), some (.ref q)]) C d_Brt_toss_63 (Nat.le_of_ble_eq_true rfl) rfl ?_
          refine x_iload C d_Brt_toss_65 rfl ?_
          exact xm_ireturn C d_Brt_toss_67 (Nat.le_refl _) (Nat.le_refl _) ⟨_, rfl, rfl, (hw2.2 c6).2 c23⟩
  · refine x_iload_n C d_Brt_toss_10 rfl ?_
    exact xm_ireturn C d_Brt_toss_11 (Nat.zero_le _) (Nat.zero_le _) ⟨_, rfl, rfl, hw.2 c12⟩
