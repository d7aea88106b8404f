/-! THROWING, the class's side: what a state must hold for 'throw new X(text)' and for the catching; rows over the world of places -/
def kUO : String := "java/lang/UnsupportedOperationException"
def kIS : String := "java/lang/IllegalStateException"
def kIA : String := "java/lang/IllegalArgumentException"
def gTc : List String := [kUO, kIS, kIA]
def gTd : List MethodName := [Bundle.initS "java/lang/RuntimeException", Bundle.initS "java/lang/Exception", Bundle.initS "java/lang/Throwable"]
def gTn : List (String × String) := [(kIS, kUO), (kIA, kUO), (kIA, kIS), (kIS, kIA)]
def gTs : List (String × Nat × String) := [(R_Kin, 30, "caught"), (R_Kin, 37, "squeezed"), (R_Kin, 42, "failed"), (R_Brt, 364, "no such shelf"), (R_Brt, 371, "no row"), (R_Brt, 374, "no such place")]
def gTw : List Cond := gTc.map (fun q => .castable q q) ++ gTd.map (fun q => .declares q)
def gT (U : State) : Prop := (∀ q ∈ gTc, va_Nw (.castable q q) U) ∧ (∀ q ∈ gTd, va_Nw (.declares q) U) ∧ (∀ q ∈ gTn, va_Nc q.1 q.2 U) ∧ ∀ q ∈ gTs, ∃ sa, vk_R q.1 q.2.1 q.2.2 sa U
theorem gT_same {u U : State} (h : u.vm = U.vm) (hT : gT u) : gT U := ⟨fun q hq => va_Nw.same rfl h (hT.1 q hq), fun q hq => va_Nw.same rfl h (hT.2.1 q hq), fun q hq => va_Nc.moved (by rw [h]; exact Vm.Alike.refl U.vm) (hT.2.2.1 q hq), fun q hq => by
  obtain ⟨sa, h1⟩ := hT.2.2.2 q hq
  exact ⟨sa, vk_R.same h.symm h1⟩⟩
theorem gT_warm {u U : State} (h : u.WarmedH U.vm) (hT : gT u) : gT U := ⟨fun q hq => va_Nw.warmC h (hT.1 q hq), fun q hq => va_Nw.warmD h (hT.2.1 q hq), fun q hq => va_Nc.moved h.alike (hT.2.2.1 q hq), fun q hq => by
  obtain ⟨sa, h1⟩ := hT.2.2.2 q hq
  exact ⟨sa, vk_R.warm h h1⟩⟩
theorem gT_w {args : Array Value} {s : State} (hT : gT s) : ∀ w ∈ gTw, w.before args s = true := by
  intro w hw
  rcases List.mem_append.mp hw with h | h
  · obtain ⟨q, hq, rfl⟩ := List.mem_map.mp h
    exact va_Nw.use rfl (hT.1 q hq)
  · obtain ⟨q, hq, rfl⟩ := List.mem_map.mp h
    exact va_Nw.use rfl (hT.2.1 q hq)
def gZ (A : Nat → Prop) (U : State) (H : Heap) : Prop := vx_Zq Bundle.tN "UNASSIGNED_STACK" Bundle.steD A U H ∧ vx_Zq Bundle.tN "SUPPRESSED_SENTINEL" Bundle.listD A U H
theorem gZ_moved {A : Nat → Prop} {u U : State} {H : Heap} (h : u.vm.Alike U.vm) (hZ : gZ A u H) : gZ A U H := ⟨vx_Zq.moved h hZ.1, vx_Zq.moved h hZ.2⟩
theorem gZ_kept {A : Nat → Prop} {U : State} {H H1 : Heap} (hZ : gZ A U H) (hq : ∀ a : Nat, a < H.size → ¬ A a → H1[a]? = H[a]?) : gZ A U H1 := ⟨hZ.1.kept hq, hZ.2.kept hq⟩
theorem gZ_narrow {A B : Nat → Prop} {U : State} {H : Heap} (hZ : gZ A U H) (hAB : ∀ q, B q → A q) : gZ B U H := ⟨hZ.1.narrow hAB, hZ.2.narrow hAB⟩
/-- a throw's words: the good ones are in the method's own list -/
theorem atS_ok {args : Array Value} {s : State} {L : List Cond} (h : ∀ w ∈ L, w ∈ lw_tbl) (hb : (L.filter (fun w => !goodWord w)).all (fun w => decide (w ∈ gTw)) = true) (ht : ∀ w ∈ tbl, w.before args s = true) (hT : gT s) : ∀ w ∈ L, w.before args s = true :=
  vx_hat (fun w hw => ht w (tbl_in (h w (List.mem_filter.mp hw).1) (List.mem_filter.mp hw).2)) (fun w hw => of_decide_eq_true (List.all_eq_true.mp hb w hw)) (gT_w hT)
theorem at_un_ng : ((vx_atS R_Kin 32 "java/lang/UnsupportedOperationException" nmX).filter (fun w => !goodWord w)).all (fun w => decide (w ∈ gTw)) = true := by decide +kernel
theorem at_is_ng : ((vx_atS R_Kin 39 "java/lang/IllegalStateException" nmX).filter (fun w => !goodWord w)).all (fun w => decide (w ∈ gTw)) = true := by decide +kernel
theorem at_ia_ng : ((vx_atS R_Kin 44 "java/lang/IllegalArgumentException" nmX).filter (fun w => !goodWord w)).all (fun w => decide (w ∈ gTw)) = true := by decide +kernel
theorem at_bis_ng : ((vx_atS R_Brt 373 "java/lang/IllegalStateException" nmX).filter (fun w => !goodWord w)).all (fun w => decide (w ∈ gTw)) = true := by decide +kernel
theorem at_bia_ng : ((vx_atS R_Brt 366 "java/lang/IllegalArgumentException" nmX).filter (fun w => !goodWord w)).all (fun w => decide (w ∈ gTw)) = true := by decide +kernel
theorem ex_fit : ∀ q ∈ gTc, Bundle.fit q = true := by decide +kernel
theorem nm_fit : ∀ q ∈ nmX, Bundle.fit q = true := by decide +kernel
/-- what a method that throws leaves: a class that pE says, the world as it was -/
def XT (g : Gx) (s : St) (pE : String → Prop) : String → State → State → Prop := vx_X (fun _ : Unit => True) (fun E _ t => pE E ∧ va_P (gD g) classes (gw g s) t.heap) (gA g)
def PcT (g : Gx) (av : List Value) (s : St) : Array Value → State → Prop := va_Pc av (fun U => va_P (gD g) classes (gw g s) U.heap ∧ va_K (gD g) classes (gty g) U ∧ gN U ∧ gT U ∧ gZ (gA g) U U.heap)
theorem pcT_blind {g : Gx} {av : List Value} {s : St} : FrameBlind (PcT g av s) := fun a U g0 mk q => by
  obtain ⟨q0, qP, qK, qN, qT, qZ⟩ := q
  exact ⟨q0, qP, va_K.moved (u := U) (U := U.calling g0 mk a) (Vm.Alike.refl U.vm) qK, gN_same (u := U) (U := U.calling g0 mk a) rfl qN, gT_same (u := U) (U := U.calling g0 mk a) rfl qT, gZ_moved (u := U) (U := U.calling g0 mk a) (Vm.Alike.refl U.vm) qZ⟩
def xT (X : Xx) (post : Option Value → St → Prop) (XC : String → State → State → Prop) (mc ms : Nat) : State → Prop := vx_MQ (xbe X) (Qx (xg X) post) XC (xar X) (xs X) mc ms (gA (xg X))
def xM (X : Xx) (post : Option Value → St → Prop) (mc ms : Nat) : State → Prop := MQ (xbe X) (Qx (xg X) post) (xar X) (xs X) mc ms (gA (xg X))
/-- the machine, with q thrown over this frame -/
def VX (X : Xx) (Q : State → Prop) (k n : Nat) (s : St) (pc : Nat) (L : List (Option Value)) (rest : List Value) (E : String) (q : Addr) : Prop :=
  ∀ (H : Heap) (locs : List Loc) (ls : Array Slot) (ce : Cell), va_P (gD (xg X)) classes (gw (xg X) s) H → va_S (gA (xg X)) (xs X).heap H locs → lh ls (xn X) L → H[q]? = some ce → ce.vm = .none → (xs X).vm.findClass E = some ce.cls →
    vx_W (xp X) (gl (xg X)) (xe X) (xR X) (xs X) (xm X) (xar X) (xbe X) (xme X) (xc X) H locs k n Q (F0 (xm X) pc ls rest) q
section XTR
variable {X : Xx} {cc : ByteArray} {own : String} {nL : Nat} {rm : Room} {s : St} {pc : Nat} {L : List (Option Value)} {post : Option Value → St → Prop} {XC : String → State → State → Prop} {kc ks mc ms : Nat}
theorem xt_return (C : Cok X cc own nL none rm) (d : decode cc pc = .ok (.return_, 1)) (h1 : kc ≤ mc) (h2 : ks ≤ ms) (h : post none s) : V X (xT X post XC mc ms) kc ks s pc L [] := fun H locs ls hP hS hl =>
  vx_ret (W.widen h1 h2 (W.vret C.1 C.2.1 C.2.2.2.2.2.2.2.2.2.1 (fun t ht hW => ⟨⟨_, s, rfl, h, by rw [ht]; exact hP⟩, hS.F ht⟩) hS.2.2 d C.2.2.2.2.2.2.2.2.1))
theorem xt_lreturn (C : Cok X cc own nL (some .long) rm) {v : Int64} (d : decode cc pc = .ok (.lreturn, 1)) (h1 : kc ≤ mc) (h2 : ks ≤ ms) (h : post (some (.long v)) s) : V X (xT X post XC mc ms) kc ks s pc L [.long v] := fun H locs ls hP hS hl =>
  vx_ret (W.widen h1 h2 (W.lret C.1 C.2.1 C.2.2.2.2.2.2.2.2.2.1 (fun t ht hW => ⟨⟨_, s, rfl, h, by rw [ht]; exact hP⟩, hS.F ht⟩) hS.2.2 d C.2.2.2.2.2.2.2.2.1))
theorem xm_ireturn (C : Cok X cc own nL (some .int) rm) {v : Int32} (d : decode cc pc = .ok (.ireturn, 1)) (h1 : kc ≤ mc) (h2 : ks ≤ ms) (h : post (some (.int v)) s) : V X (xM X post mc ms) kc ks s pc L [.int v] := fun H locs ls hP hS hl =>
  W.widen h1 h2 (W.iret C.1 C.2.1 C.2.2.2.2.2.2.2.2.2.1 (fun t ht hW => ⟨⟨_, s, rfl, h, by rw [ht]; exact hP⟩, hS.F ht⟩) hS.2.2 d C.2.2.2.2.2.2.2.2.1)
theorem XT_of {g : Gx} {pE : String → Prop} {E : String} {u t : State} {H : Heap} {locs : List Loc} (hE : pE E) (hP : va_P (gD g) classes (gw g s) H) (hS : va_S (gA g) u.heap H locs) (hz : H.size ≤ t.heap.size) (hk : ∀ q : Nat, q < H.size → t.heap[q]? = H[q]?) : XT g s pE E u t :=
  ⟨(), trivial, ⟨hE, hP.kept (fun k q hq => hk q.1 (vx_lt hP hq))⟩, ⟨Nat.le_trans hS.1 hz, fun q h1 h2 => by rw [hk q (Nat.lt_of_lt_of_le h1 hS.1)]; exact hS.2.1 q h1 h2⟩⟩
theorem x_throwS {ret : Option FieldType} (C : Cok X cc own nL ret rm) (hfl : (gl (xg X)).stackTraces = false) (hT : gT (xs X)) (hZ : gZ (gA (xg X)) (xs X) (xs X).heap) (htab : ∀ x ∈ (xc X).exceptionTable.toList, False) {cls text : String} {ik is ic : Nat} {pE : String → Prop}
    (hcls : cls ∈ gTc) (hk : Cond.classLink own ik cls ∈ tbl) (hini : Cond.initialized cls ∈ tbl) (hstr : (own, is, text) ∈ gTs) (hat : ∀ w ∈ vx_atS own ic cls nmX, w ∈ lw_tbl) (hok : (vx_atS own ic cls nmX).all vx_ot = true) (hng : ((vx_atS own ic cls nmX).filter (fun w => !goodWord w)).all (fun w => decide (w ∈ gTw)) = true)
    (d0 : decode cc pc = .ok (.new ik, 3)) (d3 : decode cc (pc + 3) = .ok (.dup, 1)) (d4 : decode cc (pc + 4) = .ok (.ldc is, 2)) (d6 : decode cc (pc + 6) = .ok (.invokespecial ic, 3)) (d9 : decode cc (pc + 9) = .ok (.athrow, 1))
    (hfr : 5 < rm.frames) (hlo : 82 ≤ rm.locals) (hcl : 1 ≤ rm.cells) (hsl : 6 ≤ rm.slots) (hE : pE cls) : V X (xT X post (XT (xg X) s pE) 1 6) 0 0 s pc L [] := fun H locs ls hP hS hl => by
  obtain ⟨sa, hsa⟩ := hT.2.2.2 _ hstr
  have hts := C.2.2.2.2.1
  have hRm := C.2.2.2.2.2.2.2.1
  refine vx_throwS C.1 C.2.1 hfl (own := own) (cls := cls) (text := text) (names := nmX) (sa := sa) (A := gA (xg X)) C.2.2.2.1 (ex_fit _ hcls) nm_fit (hts _ hk) (hts _ hini) hsa (atS_ok hat hng hts hT) ?_ hZ.1 hZ.2 hS ?_ d0 d3 d4 d6 d9 (fun x hx => (htab x hx).elim) (by rw [hRm]; exact hfr) (by rw [hRm]; exact hlo) (by rw [hRm]; omega) (by rw [hRm]; omega) C.2.2.2.2.2.2.2.2.1 (fun t ha hz hk9 => XT_of hE hP hS hz hk9) hS.2.2 (by omega) (by omega)
  · intro w hw
    rcases List.mem_cons.mp hw with rfl | hw
    · rfl
    · rcases List.mem_cons.mp hw with rfl | hw
      · rfl
      · exact List.all_eq_true.mp hok w hw
  · rw [hl.1, C.2.2.1]
    exact C.2.2.2.2.2.2.2.2.2.2.1
theorem x_throwSW {ret : Option FieldType} (C : Cok X cc own nL ret rm) (hfl : (gl (xg X)).stackTraces = false) (hT : gT (xs X)) (hZ : gZ (gA (xg X)) (xs X) (xs X).heap) (htab : ∀ x ∈ (xc X).exceptionTable.toList, False) {cls text : String} {ik is ic : Nat} {pE : String → Prop}
    (hcls : cls ∈ gTc) (hk : Cond.classLink own ik cls ∈ tbl) (hini : Cond.initialized cls ∈ tbl) (hstr : (own, is, text) ∈ gTs) (hat : ∀ w ∈ vx_atS own ic cls nmX, w ∈ lw_tbl) (hok : (vx_atS own ic cls nmX).all vx_ot = true) (hng : ((vx_atS own ic cls nmX).filter (fun w => !goodWord w)).all (fun w => decide (w ∈ gTw)) = true)
    (d0 : decode cc pc = .ok (.new ik, 3)) (d3 : decode cc (pc + 3) = .ok (.dup, 1)) (d4 : decode cc (pc + 4) = .ok (.ldc_w is, 3)) (d7 : decode cc (pc + 7) = .ok (.invokespecial ic, 3)) (d10 : decode cc (pc + 10) = .ok (.athrow, 1))
    (hfr : 5 < rm.frames) (hlo : 82 ≤ rm.locals) (hcl : 1 ≤ rm.cells) (hsl : 6 ≤ rm.slots) (hE : pE cls) : V X (xT X post (XT (xg X) s pE) 1 6) 0 0 s pc L [] := fun H locs ls hP hS hl => by
  obtain ⟨sa, hsa⟩ := hT.2.2.2 _ hstr
  have hts := C.2.2.2.2.1
  have hRm := C.2.2.2.2.2.2.2.1
  refine vx_throwSW C.1 C.2.1 hfl (own := own) (cls := cls) (text := text) (names := nmX) (sa := sa) (A := gA (xg X)) C.2.2.2.1 (ex_fit _ hcls) nm_fit (hts _ hk) (hts _ hini) hsa (atS_ok hat hng hts hT) ?_ hZ.1 hZ.2 hS ?_ d0 d3 d4 d7 d10 (fun x hx => (htab x hx).elim) (by rw [hRm]; exact hfr) (by rw [hRm]; exact hlo) (by rw [hRm]; omega) (by rw [hRm]; omega) C.2.2.2.2.2.2.2.2.1 (fun t ha hz hk9 => XT_of hE hP hS hz hk9) hS.2.2 (by omega) (by omega)
  · intro w hw
    rcases List.mem_cons.mp hw with rfl | hw
    · rfl
    · rcases List.mem_cons.mp hw with rfl | hw
      · rfl
      · exact List.all_eq_true.mp hok w hw
  · rw [hl.1, C.2.2.1]
    exact C.2.2.2.2.2.2.2.2.2.2.1
end XTR
/-- a method that returns or throws: its contract out of its walk -/
theorem mt_ofV {g : Gx} {y : MethodName} {cc : ByteArray} {nL j mc ms : Nat} {ret : Option FieldType} {rm : Room} {av : List Value} {s : St} {post : Option Value → St → Prop} {XC : String → State → State → Prop} {L : List (Option Value)} (hg : gOk g) (hy : plainName y.cls = true) (hav : (lg_sl av).length ≤ nL) (hL : la av ++ List.replicate j none = L)
    (body : ∀ X : Xx, xg X = g → Cok X cc y.cls nL ret rm → gT (xs X) → gZ (gA (xg X)) (xs X) (xs X).heap → (∀ x ∈ (xc X).exceptionTable.toList, False) → V X (xT X post XC mc ms) 0 0 s 0 L []) : vx_Met (gl g) y (Cond.code y cc nL ret :: tbl) rm (PcT g av s) (Qx g post) XC mc ms (gA g) := by
  refine vx_ofW (cc := cc) (maxL := nL) (ret := ret) hy rfl ?_
  intro p e s0 m args below meth c s₁ B hml htab hv
  obtain ⟨rfl, hP, hK, hN, hT, hZ⟩ := hv
  have hl := lv_entry av (n := nL) hav
  rw [lg_entry_eq]
  generalize (lg_sl av ++ List.replicate (nL - (lg_sl av).length) Slot.unset).toArray = ls at hl ⊢
  have hts := atoms_spec (ws := Cond.code y cc nL ret :: tbl) B.pre
  exact body (g, p, e, (headSpec (Cond.code y cc nL ret :: tbl) rm).room, s0, m, av.toArray, below, meth, c, nL) rfl ⟨B.exec, B.bytes, hml, findClass_of_methodNamed B.named, fun w hw => hts w (List.mem_cons_of_mem _ hw), hK, hg, rfl, B.notSynchronized, B.returns, rfl, hN⟩ hT hZ htab s0.heap [] ls hP va_S.rf (by rw [← hL]; exact lh_entry hl)
