/-! THE CLAIM OUT OF ONE WALK OF THE LAW'S BODY. Your part is whole_start (and what it stands on); all else here is the same for every law, but numbers. -/
def R_law : String := "BreatheOutLaw"
def lw_P (b : Addr) (xs : List Int32) (args : Array Value) (s : State) : Prop := args = #[.ref b] ∧ s.IntsAt b xs ∧ xs.length ≤ 3072 ∧ (Jvm.Cond.and given_1 narrow_1).before args s = true
def lw_Q (_ : Array Value) (s : State) (o : Outcome) (t : State) : Prop := o = .returned (some (.int 1)) ∧ Framed s o t [] 601024 7293034
def lw_Z (below : List Frame) (a : Array Value) (s : State) : State → Prop := fun t => ∃ o, t.status = .running ∧ Ended t below o ∧ lw_Q a s o t
/-- the law's own end, with 1 on the stack, nothing written that was there before, its room as the claim has it -/
theorem lw_ret {p : Program} {l : Launch} {e : Env} {s : State} {m : MethodId} {below : List Frame} {meth : Method} {c : Code} {b : Nat} (hx : p.tables.exec = Jvm.exec) (hb : c.code = code) (hr : meth.sig.returnType = ret) (hlocks : meth.locks = false) {pc : Nat} {H : Heap} {ls : Array Slot} (hdg : decode code pc = .ok (.ireturn, 1)) : W p l e room_1 s m #[Value.ref b] below meth c H [] 601024 7293034 (lw_Z below #[Value.ref b] s) (F0 m pc ls [.int 1]) := by
  intro T hT X
  obtain ⟨fs, hret, hrun, hended, hW, hframe⟩ := X.leave (v := some (.int 1)) (hlocks := hlocks) (fun h => by rw [hr] at h; cases h)
  have hmeth' : T.vm.method? m = some meth := X.method'
  refine ⟨T.setFrames fs, ?_, .returned (some (.int 1)), hrun, hended, rfl, ⟨_, rfl⟩, hW, hframe⟩
  jvm_step X.here [X.here.top, hx, hb, hdg, hmeth', hr, ret, narrow_b1]
  (try refine ⟨rfl, ?_⟩); (try refine ⟨rfl, ?_⟩)
  first | (intro acts; rw [hret _ acts rfl rfl rfl]) | rw [hret _ _ rfl rfl rfl]
  exact Steps.refl _
/-- what holds at the law's entry: the machine, the code, the tables' words (any of lw_tbl by 'hts w (by decide +kernel)'), the script of L ints xs at the cell b, what the Statement gives of the start (any of its parts by flat_of_before) -/
def lw_At (p : Program) (s : State) (m : MethodId) (meth : Method) (c : Code) (b L : Nat) (xs : Nat → Int32) : Prop :=
  p.tables.exec = Jvm.exec ∧ c.code = code ∧ meth.sig.returnType = ret ∧ c.maxLocals = 8 ∧ s.vm.findClass R_law = some m.cls ∧ (∀ w ∈ lw_tbl, w.before #[Value.ref b] s = true) ∧ va_X b L xs s s.heap ∧ b < s.heap.size ∧ meth.locks = false ∧ (Jvm.Cond.and given_1 narrow_1).before #[Value.ref b] s = true
/-! THE LAW: its rows: the world of places, a cell of the law's own (out) beside it, the script -/
def outW (cL : ClassId) (o : Nat) (f : Nat → Int64) : va_W := [(o, .inl (cL, 1, .inr (.inl f)))]
def lA (X : Xx) : Nat → Prop := fun q => (xs X).heap.size ≤ q
def Lok (X : Xx) (o : Nat) (cL : ClassId) (b L : Nat) (xs1 : Nat → Int32) : Prop :=
  Cok X code R_Law 8 ret room_1 ∧ gT (xs X) ∧ gZ (lA X) (xs X) (xs X).heap ∧ (gl (xg X)).stackTraces = false ∧ (∀ q, gA (xg X) q → lA X q ∧ q ≠ o) ∧ lA X o ∧ va_X b L xs1 (xs X) (xs X).heap ∧ b < (xs X).heap.size ∧ L ≤ 3072 ∧ va_K (gD (xg X)) classes (gty (xg X) ++ [(cL, .long)]) (xs X) ∧ xar X = #[Value.ref b]
/-- the law, at this place, with these locals, this stack, this world and this out, comes to Q -/
def LV (X : Xx) (o : Nat) (cL : ClassId) (Q : State → Prop) (k n : Nat) (s : St) (f : Nat → Int64) (pc : Nat) (Lo : List (Option Value)) (st : List Value) : Prop :=
  ∀ (H : Heap) (locs : List Loc) (ls : Array Slot), va_P (gD (xg X)) classes (gw (xg X) s) H → va_P (gD (xg X)) classes (outW cL o f) H → va_S (lA X) (xs X).heap H locs → lh ls (xn X) Lo →
    W (xp X) (gl (xg X)) (xe X) (xR X) (xs X) (xm X) (xar X) (xbe X) (xme X) (xc X) H locs k n Q (F0 (xm X) pc ls st)
section LR
variable {X : Xx} {o : Nat} {cL : ClassId} {b L : Nat} {xs1 : Nat → Int32} {Q : State → Prop} {kc ks : Nat} {s : St} {f : Nat → Int64} {pc : Nat} {Lo : List (Option Value)} {st : List Value}
theorem l_iconst (K : Lok X o cL b L xs1) {n : Int} {v : Int32} (d : decode code pc = .ok (.iconst n, 1)) (hv : Int32.ofInt n = v) (k : LV X o cL Q kc ks s f (pc + 1) Lo (.int v :: st)) : LV X o cL Q kc ks s f pc Lo st := fun H locs ls hP hO hS hl => lv_iconst K.1.1 K.1.2.1 d hv (k H locs ls hP hO hS hl)
theorem l_bipush (K : Lok X o cL b L xs1) {n : Int} {v : Int32} (d : decode code pc = .ok (.bipush n, 2)) (hv : (Int8.ofInt n).toInt32 = v) (k : LV X o cL Q kc ks s f (pc + 2) Lo (.int v :: st)) : LV X o cL Q kc ks s f pc Lo st := fun H locs ls hP hO hS hl => lv_bipush K.1.1 K.1.2.1 d hv (k H locs ls hP hO hS hl)
theorem l_aload_n (K : Lok X o cL b L xs1) {i : Fin 4} {x : Nat} (d : decode code pc = .ok (.aload_n i, 1)) (h : Lo[(i : Nat)]? = some (some (.ref x))) (k : LV X o cL Q kc ks s f (pc + 1) Lo (.ref x :: st)) : LV X o cL Q kc ks s f pc Lo st := fun H locs ls hP hO hS hl => lv_aload_n K.1.1 K.1.2.1 d rfl (hl.2.2 _ _ h) (k H locs ls hP hO hS hl)
theorem l_iload (K : Lok X o cL b L xs1) {i : Nat} {x : Int32} (d : decode code pc = .ok (.iload i, 2)) (h : Lo[i]? = some (some (.int x))) (k : LV X o cL Q kc ks s f (pc + 2) Lo (.int x :: st)) : LV X o cL Q kc ks s f pc Lo st := fun H locs ls hP hO hS hl => lv_iload K.1.1 K.1.2.1 d (hl.2.2 _ _ h) (k H locs ls hP hO hS hl)
theorem l_lload (K : Lok X o cL b L xs1) {i : Nat} {x : Int64} (d : decode code pc = .ok (.lload i, 2)) (h : Lo[i]? = some (some (.long x))) (k : LV X o cL Q kc ks s f (pc + 2) Lo (.long x :: st)) : LV X o cL Q kc ks s f pc Lo st := fun H locs ls hP hO hS hl => lv_lload K.1.1 K.1.2.1 d (hl.2.2 _ _ h) (k H locs ls hP hO hS hl)
theorem l_istore (K : Lok X o cL b L xs1) {i : Nat} {x : Int32} {L' : List (Option Value)} (d : decode code pc = .ok (.istore i, 2)) (hi : i < 8) (hL : lset Lo i (.int x) = L') (k : LV X o cL Q kc ks s f (pc + 2) L' st) : LV X o cL Q kc ks s f pc Lo (.int x :: st) := fun H locs ls hP hO hS hl =>
  lv_istore K.1.1 K.1.2.1 d (lh_has hl) (by rw [K.1.2.2.2.2.2.2.2.2.2.2.1]; exact hi) rfl (fun ls h => k H locs ls hP hO hS (by rw [← hL]; exact lh_set h))
theorem l_lstore (K : Lok X o cL b L xs1) {i : Nat} {x : Int64} {L' : List (Option Value)} (d : decode code pc = .ok (.lstore i, 2)) (hi : i + 1 < 8) (hL : lset2 Lo i (.long x) = L') (k : LV X o cL Q kc ks s f (pc + 2) L' st) : LV X o cL Q kc ks s f pc Lo (.long x :: st) := fun H locs ls hP hO hS hl =>
  lv_lstore K.1.1 K.1.2.1 d (lh_has hl) (by rw [K.1.2.2.2.2.2.2.2.2.2.2.1]; exact hi) rfl (fun ls h => k H locs ls hP hO hS (by rw [← hL]; exact lh_set2 h))
theorem l_iinc (K : Lok X o cL b L xs1) {i : Nat} {n : Int} {x v : Int32} {L' : List (Option Value)} (d : decode code pc = .ok (.iinc i n, 3)) (hi : i < 8) (h : Lo[i]? = some (some (.int x))) (hv : x + Int32.ofInt n = v) (hL : lset Lo i (.int v) = L') (k : LV X o cL Q kc ks s f (pc + 3) L' st) : LV X o cL Q kc ks s f pc Lo st := fun H locs ls hP hO hS hl => by
  obtain ⟨j, hj⟩ := List.getElem?_of_mem (lh_mem h)
  exact lv_iinc K.1.1 K.1.2.1 d (lh_has hl) (k := j) hj hv (by rw [K.1.2.2.2.2.2.2.2.2.2.2.1]; exact hi) rfl (fun ls h => k H locs ls hP hO hS (by rw [← hL]; exact lh_set h))
theorem l_iadd (K : Lok X o cL b L xs1) {x y : Int32} (d : decode code pc = .ok (.iadd, 1)) (k : LV X o cL Q kc ks s f (pc + 1) Lo (.int (x + y) :: st)) : LV X o cL Q kc ks s f pc Lo (.int y :: .int x :: st) := fun H locs ls hP hO hS hl => lv_iadd K.1.1 K.1.2.1 d (k H locs ls hP hO hS hl)
theorem l_isub (K : Lok X o cL b L xs1) {x y : Int32} (d : decode code pc = .ok (.isub, 1)) (k : LV X o cL Q kc ks s f (pc + 1) Lo (.int (x - y) :: st)) : LV X o cL Q kc ks s f pc Lo (.int y :: .int x :: st) := fun H locs ls hP hO hS hl => lv_isub K.1.1 K.1.2.1 d (k H locs ls hP hO hS hl)
theorem l_iand (K : Lok X o cL b L xs1) {x y : Int32} (d : decode code pc = .ok (.iand, 1)) (k : LV X o cL Q kc ks s f (pc + 1) Lo (.int (x &&& y) :: st)) : LV X o cL Q kc ks s f pc Lo (.int y :: .int x :: st) := fun H locs ls hP hO hS hl => lv_iand K.1.1 K.1.2.1 d (k H locs ls hP hO hS hl)
theorem l_lcmp (K : Lok X o cL b L xs1) {x y : Int64} (d : decode code pc = .ok (.lcmp, 1)) (k : LV X o cL Q kc ks s f (pc + 1) Lo (.int (lg_cmp x y) :: st)) : LV X o cL Q kc ks s f pc Lo (.long y :: .long x :: st) := fun H locs ls hP hO hS hl => W.lcmp K.1.1 K.1.2.1 d (k H locs ls hP hO hS hl)
theorem l_goto (K : Lok X o cL b L xs1) {off : Int} {tgt : Nat} (d : decode code pc = .ok (.goto off, 3)) (ht : (pc : Int) + off = (tgt : Int)) (k : LV X o cL Q kc ks s f tgt Lo st) : LV X o cL Q kc ks s f pc Lo st := fun H locs ls hP hO hS hl => lv_goto K.1.1 K.1.2.1 d ht (k H locs ls hP hO hS hl)
theorem l_if_eq (K : Lok X o cL b L xs1) {x : Int32} {off : Int} {tgt : Nat} (d : decode code pc = .ok (.ifCond .eq off, 3)) (ht : (pc : Int) + off = (tgt : Int)) (kt : x = 0 → LV X o cL Q kc ks s f tgt Lo st) (kf : ¬ x = 0 → LV X o cL Q kc ks s f (pc + 3) Lo st) : LV X o cL Q kc ks s f pc Lo (.int x :: st) := fun H locs ls hP hO hS hl => lv_if_eq K.1.1 K.1.2.1 d ht (fun h => kt h H locs ls hP hO hS hl) (fun h => kf h H locs ls hP hO hS hl)
theorem l_if_ne (K : Lok X o cL b L xs1) {x : Int32} {off : Int} {tgt : Nat} (d : decode code pc = .ok (.ifCond .ne off, 3)) (ht : (pc : Int) + off = (tgt : Int)) (kt : ¬ x = 0 → LV X o cL Q kc ks s f tgt Lo st) (kf : x = 0 → LV X o cL Q kc ks s f (pc + 3) Lo st) : LV X o cL Q kc ks s f pc Lo (.int x :: st) := fun H locs ls hP hO hS hl => lv_if_ne K.1.1 K.1.2.1 d ht (fun h => kt h H locs ls hP hO hS hl) (fun h => kf h H locs ls hP hO hS hl)
theorem l_icmp_eq (K : Lok X o cL b L xs1) {x y : Int32} {off : Int} {tgt : Nat} (d : decode code pc = .ok (.if_icmp .eq off, 3)) (ht : (pc : Int) + off = (tgt : Int)) (kt : x = y → LV X o cL Q kc ks s f tgt Lo st) (kf : ¬ x = y → LV X o cL Q kc ks s f (pc + 3) Lo st) : LV X o cL Q kc ks s f pc Lo (.int y :: .int x :: st) := fun H locs ls hP hO hS hl => lv_icmp_eq K.1.1 K.1.2.1 d ht (fun h => kt h H locs ls hP hO hS hl) (fun h => kf h H locs ls hP hO hS hl)
theorem l_icmp_gt (K : Lok X o cL b L xs1) {x y : Int32} {off : Int} {tgt : Nat} (d : decode code pc = .ok (.if_icmp .gt off, 3)) (ht : (pc : Int) + off = (tgt : Int)) (kt : y < x → LV X o cL Q kc ks s f tgt Lo st) (kf : ¬ y < x → LV X o cL Q kc ks s f (pc + 3) Lo st) : LV X o cL Q kc ks s f pc Lo (.int y :: .int x :: st) := fun H locs ls hP hO hS hl => lv_icmp_gt K.1.1 K.1.2.1 d ht (fun h => kt h H locs ls hP hO hS hl) (fun h => kf h H locs ls hP hO hS hl)
theorem l_tswIn (K : Lok X o cL b L xs1) {x v : Int32} {dflt lo hi off : Int} {offs : Array Int} {len tgt : Nat} (d : decode code pc = .ok (.tableswitch dflt lo hi offs, len)) (hx : x = v) (h1 : ¬ v.toInt < lo) (h2 : ¬ hi < v.toInt) (ho : offs[(v.toInt - lo).toNat]? = some off) (ht : (pc : Int) + off = (tgt : Int)) (k : LV X o cL Q kc ks s f tgt Lo st) : LV X o cL Q kc ks s f pc Lo (.int x :: st) := fun H locs ls hP hO hS hl => by
  subst hx
  exact lv_tableIn K.1.1 K.1.2.1 d h1 h2 ho ht (k H locs ls hP hO hS hl)
theorem l_tswD (K : Lok X o cL b L xs1) {x : Int32} {dflt lo hi : Int} {offs : Array Int} {len tgt : Nat} (d : decode code pc = .ok (.tableswitch dflt lo hi offs, len)) (hall : ∀ j : Nat, (j : Int) < hi - lo + 1 → offs[j]? = some dflt ∨ ¬ x = Int32.ofInt (lo + j)) (ht : (pc : Int) + dflt = (tgt : Int)) (k : LV X o cL Q kc ks s f tgt Lo st) : LV X o cL Q kc ks s f pc Lo (.int x :: st) := fun H locs ls hP hO hS hl => by
  by_cases h1 : x.toInt < lo
  · exact lv_tableOut K.1.1 K.1.2.1 d (Or.inl h1) ht (k H locs ls hP hO hS hl)
  by_cases h2 : hi < x.toInt
  · exact lv_tableOut K.1.1 K.1.2.1 d (Or.inr h2) ht (k H locs ls hP hO hS hl)
  have e : lo + ((x.toInt - lo).toNat : Int) = x.toInt := by omega
  rcases hall (x.toInt - lo).toNat (by omega) with h | h
  · exact lv_tableIn K.1.1 K.1.2.1 d h1 h2 h ht (k H locs ls hP hO hS hl)
  · exact absurd (by rw [e, Int32.ofInt_toInt]) h
theorem l_sub {L' : List (Option Value)} (h : lsub Lo L') (k : LV X o cL Q kc ks s f pc L' st) : LV X o cL Q kc ks s f pc Lo st := fun H locs ls hP hO hS hl => k H locs ls hP hO hS (lh_sub hl (lsub_at Lo L' h))
theorem l_widen {kc' ks' : Nat} (h1 : kc ≤ kc') (h2 : ks ≤ ks') (k : LV X o cL Q kc' ks' s f pc Lo st) : LV X o cL Q kc ks s f pc Lo st := fun H locs ls hP hO hS hl => W.widen h1 h2 (k H locs ls hP hO hS hl)
theorem l_sld (K : Lok X o cL b L xs1) {i : Int32} (hi : vp_in i L) (d : decode code pc = .ok (.iaload, 1)) (k : LV X o cL Q kc ks s f (pc + 1) Lo (.int (xs1 i.toNatClampNeg) :: st)) : LV X o cL Q kc ks s f pc Lo (.int i :: .ref b :: st) := fun H locs ls hP hO hS hl =>
  va_sld K.1.1 K.1.2.1 K.2.2.2.2.2.2.1 K.2.2.2.2.2.2.2.1 (Nat.not_le.mpr K.2.2.2.2.2.2.2.1) hS hi d (k H locs ls hP hO hS hl)
theorem l_slen (K : Lok X o cL b L xs1) (d : decode code pc = .ok (.arraylength, 1)) (k : LV X o cL Q kc ks s f (pc + 1) Lo (.int (nI L) :: st)) : LV X o cL Q kc ks s f pc Lo (.ref b :: st) := fun H locs ls hP hO hS hl =>
  va_slen K.1.1 K.1.2.1 K.2.2.2.2.2.2.1 K.2.2.2.2.2.2.2.1 (Nat.not_le.mpr K.2.2.2.2.2.2.2.1) hS d (k H locs ls hP hO hS hl)
theorem l_laload (K : Lok X o cL b L xs1) (d : decode code pc = .ok (.laload, 1)) (k : LV X o cL Q kc ks s f (pc + 1) Lo (.long (f 0) :: st)) : LV X o cL Q kc ks s f pc Lo (.int 0 :: .ref o :: st) := fun H locs ls hP hO hS hl =>
  va_lald (D := gD (xg X)) K.1.1 K.1.2.1 K.2.2.2.2.2.2.2.2.2.1 hO 0 2 rfl rfl (by unfold vp_in; decide) d (k H locs ls hP hO hS hl)
/-- script[i + k] -/
theorem l_arg (K : Lok X o cL b L xs1) {j k : Nat} (hj : 6 * j + k < L) (hb : Lo[0]? = some (some (.ref b))) (hi : Lo[4]? = some (some (.int (nI (6 * j))))) (d0 : decode code pc = .ok (.aload_n 0, 1)) (d1 : decode code (pc + 1) = .ok (.iload 4, 2)) (d3 : decode code (pc + 3) = .ok (.iconst (k : Int), 1)) (d4 : decode code (pc + 4) = .ok (.iadd, 1)) (d5 : decode code (pc + 5) = .ok (.iaload, 1))
    (kk : LV X o cL Q kc ks s f (pc + 6) Lo (.int (xs1 (6 * j + k)) :: st)) : LV X o cL Q kc ks s f pc Lo st := by
  have hL := K.2.2.2.2.2.2.2.2.1
  refine l_aload_n K d0 hb ?_
  refine l_iload K d1 hi ?_
  refine l_iconst (v := nI k) K d3 (I_nI k).symm ?_
  refine l_iadd K d4 ?_
  rw [nI_add]
  refine l_sld K (vp_in_nI hj (by omega)) d5 ?_
  rw [nI_clamp (by omega)]
  exact kk
theorem l_call {cy : ByteArray} {ny n i p : Nat} {ry : Option FieldType} {r : Room} {y : MethodName} {As rest : List Value} {post : Option Value → St → Prop} (K : Lok X o cL b L xs1) (hM : Mc (xg X) y cy ny ry r (.ref (xa X p) :: As) s post) (w : CwV y cy ny ry n) (hl : Cond.methodLink R_Law i y ∈ tbl) {q : vw_C} {kk : Nat} (hk : kd p = kk) (h0 : 0 < kk) (h1 : kk < 11) (hc : classes[(cellO (ga (xg X)) s p kk).1]? = some q) (hq : q.1 = y.cls) (hn : As.length = n) (hR : Rin r room_1 ny) (hcs : kc ≤ 601024 ∧ ks ≤ 7293034) (hst : st = As.reverse ++ .ref (xa X p) :: rest) (hct : (rest.map fun v => v.category).sum ≤ 8) (d : decode code pc = .ok (.invokevirtual i, 3))
    (k : ∀ v s', post v s' → LV X o cL Q kc ks s' f (pc + 3) Lo (v.toList ++ rest)) : LV X o cL Q kc ks s f pc Lo st := fun H locs ls hP hO hS hl' => by
  have C := K.1
  have hts := C.2.2.2.2.1
  have hKK := C.2.2.2.2.2.1
  have hRm := C.2.2.2.2.2.2.2.1
  have hrun := va_runV (p := xp X) (l := gl (xg X)) (e := xe X) (R := xR X) (s := xs X) (m := xm X) (args := xar X) (below := xbe X) (meth := xme X) (c := xc X) (H := H) (locs := locs) (cells := kc) (slots := ks) (g := F0 (xm X) pc ls st) (As := As) (rest := rest) (Ts := tbl) (b := xa X p) (C := y.cls) (nL := 8) (own := R_Law) ⟨C.1, C.2.1, C.2.2.1, C.2.2.2.1, hts⟩ hM (n := n) ⟨callB_of n hts (good_code w.2.2.2.1) rfl hR.1 hR.2.1 (hts _ w.2.2.1) (hts _ hl) w.2.2.2.2 (by rw [hRm]; exact hR.2.2), hts _ w.1, hts _ w.2.1⟩ ⟨mc_blind, by
    have := va_recv hKK hP (ci := (cellO (ga (xg X)) s p kk).1) (q0 := p) hc (gw_obj hk h0 h1)
    rw [hq] at this
    exact this, fun U hU hW => ⟨rfl, by rw [hU]; exact hP, va_K.moved hW.alike hKK, gN_warm hW C.2.2.2.2.2.2.2.2.2.2.2⟩⟩ rfl hn (hl'.1.trans C.2.2.2.2.2.2.2.2.2.2.1) hst (lv_room hct) d (by rw [hRm]; exact hcs)
  intro T hT XX
  obtain ⟨v, st₀, t, T', L1, h0, X', hL, e1, e2, ⟨⟨v1, u, hv, hp, hb⟩, hz, hk⟩, go⟩ := hrun T hT XX
  cases hv
  rw [h0] at hz hk
  have hA := K.2.2.2.2.1
  obtain ⟨t2, a1, b1⟩ := k v u hp T'.heap (locs ++ L1) ls (by rw [e1]; exact hb) (hO.kept (fun k q hq => by
      have hlt : q.1 < H.size := vx_lt hO hq
      have hqo : q.1 = o := by
        match k, hq with
        | 0, hq => cases hq; rfl
        | k + 1, hq => simp [outW] at hq
      rw [e1]
      exact hk q.1 hlt (fun z => (hA _ z).2 hqo))) ⟨Nat.le_trans hS.1 (by rw [e1]; exact hz), fun q h1 h2 => by rw [e1, hk q (Nat.lt_of_lt_of_le h1 hS.1) (fun z => h2 (hA _ z).1)]; exact hS.2.1 q h1 h2, fun q hq => by
      rcases List.mem_append.mp hq with h | h
      · exact hS.2.2 q h
      · exact (hA _ (hL q h)).1⟩ hl' T' rfl X'
  exact ⟨t2, go t2 a1, b1⟩
theorem l_callW {cy : ByteArray} {ny n i p mc ms : Nat} {ry : Option FieldType} {r : Room} {y : MethodName} {hh : List (Nat × Nat × Nat × Nat)} {As rest : List Value} {post : Option Value → St → Prop} (K : Lok X o cL b L xs1) (hM : Met (gl (xg X)) y (Cond.codeWith y cy ny ry hh :: tbl) r (PcT (xg X) (.ref (xa X p) :: As) s) (Qx (xg X) post) mc ms (gA (xg X))) (w : Cond.instanceMethod y ∈ tbl ∧ Cond.selects y.cls y y ∈ tbl ∧ Cond.initialized y.cls ∈ tbl ∧ Cond.codeWith y cy ny ry hh ∈ tbl ∧ y.cls ≠ "java/lang/invoke/MethodHandle" ∧ y.cls ≠ "java/lang/invoke/VarHandle" ∧ (parseMethodDescriptor y.desc).map (fun d => d.parameters.length) = some n) (hl : Cond.methodLink R_Law i y ∈ tbl) {q : vw_C} {kk : Nat} (hk : kd p = kk) (h0 : 0 < kk) (h1 : kk < 11) (hc : classes[(cellO (ga (xg X)) s p kk).1]? = some q) (hq : q.1 = y.cls) (hn : As.length = n) (hR : r.cells = mc ∧ r.slots = ms ∧ r.frames + 1 ≤ room_1.frames ∧ 8 + (ny + 11) + r.locals ≤ room_1.locals) (hcs : kc + mc ≤ 601024 ∧ ks + ms ≤ 7293034) (hst : st = As.reverse ++ .ref (xa X p) :: rest) (hct : (rest.map fun v => v.category).sum ≤ 8) (d : decode code pc = .ok (.invokevirtual i, 3))
    (k : ∀ v s', post v s' → LV X o cL Q (kc + mc) (ks + ms) s' f (pc + 3) Lo (v.toList ++ rest)) : LV X o cL Q kc ks s f pc Lo st := fun H locs ls hP hO hS hl' => by
  have C := K.1
  have hts := C.2.2.2.2.1
  have hKK := C.2.2.2.2.2.1
  have hRm := C.2.2.2.2.2.2.2.1
  have hA := K.2.2.2.2.1
  have hZ : gZ (gA (xg X)) (xs X) H := gZ_narrow (gZ_kept K.2.2.1 hS.2.1) (fun q z => (hA q z).1)
  have hrun := vx_runVW (p := xp X) (l := gl (xg X)) (e := xe X) (R := xR X) (s := xs X) (m := xm X) (args := xar X) (below := xbe X) (meth := xme X) (c := xc X) (H := H) (locs := locs) (cells := kc) (slots := ks) (g := F0 (xm X) pc ls st) (As := As) (rest := rest) (Ts := tbl) (b := xa X p) (C := y.cls) (nL := 8) (own := R_Law) ⟨C.1, C.2.1, C.2.2.1, C.2.2.2.1, hts⟩ hM (n := n) ⟨⟨hR.1, hR.2.1, by rw [hRm]; exact hR.2.2.1, by rw [hRm]; exact hR.2.2.2, pay_in hts (good_code w.2.2.2.1), List.mem_cons_self⟩, hts _ w.2.2.2.1, hts _ w.2.2.1, ⟨w.2.2.2.2.1, w.2.2.2.2.2.1⟩, fun sig h => by
    have h2 := w.2.2.2.2.2.2
    rw [h] at h2
    exact (Option.some.inj h2).symm, hts _ hl, hts _ w.1, hts _ w.2.1⟩ ⟨pcT_blind, by
    have := va_recv hKK hP (ci := (cellO (ga (xg X)) s p kk).1) (q0 := p) hc (gw_obj hk h0 h1)
    rw [hq] at this
    exact this, fun U hU hW => ⟨rfl, by rw [hU]; exact hP, va_K.moved hW.alike hKK, gN_warm hW C.2.2.2.2.2.2.2.2.2.2.2, gT_warm hW K.2.1, by rw [hU]; exact gZ_moved hW.alike hZ⟩⟩ rfl hn (hl'.1.trans C.2.2.2.2.2.2.2.2.2.2.1) hst (lv_room hct) d (by rw [hRm]; exact hcs)
  intro T hT XX
  obtain ⟨v, st₀, t, T', L1, h0, X', hL, e1, e2, ⟨⟨v1, u, hv, hp, hb⟩, hz, hk⟩, go⟩ := hrun T hT XX
  cases hv
  rw [h0] at hz hk
  obtain ⟨t2, a1, b1⟩ := k v u hp T'.heap (locs ++ L1) ls (by rw [e1]; exact hb) (hO.kept (fun k q hq => by
      have hlt : q.1 < H.size := vx_lt hO hq
      have hqo : q.1 = o := by
        match k, hq with
        | 0, hq => cases hq; rfl
        | k + 1, hq => simp [outW] at hq
      rw [e1]
      exact hk q.1 hlt (fun z => (hA _ z).2 hqo))) ⟨Nat.le_trans hS.1 (by rw [e1]; exact hz), fun q h1 h2 => by rw [e1, hk q (Nat.lt_of_lt_of_le h1 hS.1) (fun z => h2 (hA _ z).1)]; exact hS.2.1 q h1 h2, fun q hq => by
      rcases List.mem_append.mp hq with h | h
      · exact hS.2.2 q h
      · exact (hA _ (hL q h)).1⟩ hl' T' rfl X'
  exact ⟨t2, go t2 a1, b1⟩
/-- the law's end -/
theorem l_end (K : Lok X o cL b L xs1) (hk : kc ≤ 601024) (hn : ks ≤ 7293034) (d : decode code 1606 = .ok (.iconst 1, 1)) (d2 : decode code 1607 = .ok (.ireturn, 1)) : LV X o cL (lw_Z (xbe X) #[Value.ref b] (xs X)) kc ks s f 1606 Lo [] := by
  obtain ⟨g, p, e, R, s0, m, ar, be, me, c, nn⟩ := X
  obtain ⟨C, -, -, -, -, -, -, -, -, -, hc⟩ := K
  have hx := C.1
  have hb := C.2.1
  have hR : R = room_1 := C.2.2.2.2.2.2.2.1
  have hlk := C.2.2.2.2.2.2.2.2.1
  have hr := C.2.2.2.2.2.2.2.2.2.1
  have hc : ar = #[Value.ref b] := hc
  subst hR hc
  intro H locs ls hP hO hS hl
  refine va_forget (fun q hq => hS.2.2 q hq) ?_
  refine W.widen hk hn ?_
  refine lv_iconst (v := 1) hx hb d (by decide) ?_
  exact lw_ret hx hb hr hlk d2
end LR
