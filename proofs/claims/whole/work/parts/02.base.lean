/-! THE WORLD: 98 places, each a cell at the address that 'a' gives it; s p k is the int in field (or element) k of the cell at place p; references between cells are fixed by the places. -/
abbrev St : Type := Nat → Nat → Int32
def wr (s : St) (p k : Nat) (v : Int32) : St := fun q j => if q = p then (if j = k then v else s q j) else s q j
def wcp (s : St) (d e sp dp n : Nat) : St := fun q j => if q = e then va_cpy (s d) (s e) sp dp n j else s q j
def kdl : List Nat := [1,
  2, 3, 112, 112, 112, 112, 112, 112, 112, 112, 4, 106, 106, 106, 106, 106, 106,
  2, 3, 112, 112, 112, 112, 112, 112, 112, 112, 4, 106, 106, 106, 106, 106, 106,
  2, 3, 112, 112, 112, 112, 112, 112, 112, 112, 4, 106, 106, 106, 106, 106, 106,
  5, 6, 106, 6, 106, 101, 7, 106, 106, 8, 106, 106, 106, 11,
  9, 200, 9, 200, 9, 200, 9, 200, 9, 200, 9, 200, 9, 200, 9, 200,
  10, 178, 178, 178, 106, 106, 104, 106, 106, 106, 108, 108, 108, 108, 108, 900]
def kd (p : Nat) : Nat := kdl.getD p 0
def cellO (a : Nat → Nat) (s : St) (p : Nat) : Nat → Nat × List Value := fun k => match k with
  | 1 => (8, [.ref (a (p + 1)), .ref (a (p + 18)), .ref (a (p + 35)), .ref (a (p + 52)), .ref (a (p + 58)), .ref (a (p + 61)), .ref (a (p + 64)), .ref (a (p + 65)), .int (s p 8)])
  | 2 => (2, [.ref (a (p + 1)), .ref (a (p + 10)), .int (s p 2), .int (s p 3), .int (s p 4), .int (s p 5)])
  | 3 => (7, [.int (s p 0), .ref (a (p + 1)), .ref (a (p + 2)), .ref (a (p + 3)), .ref (a (p + 4)), .ref (a (p + 5)), .ref (a (p + 6)), .ref (a (p + 7)), .ref (a (p + 8))])
  | 4 => (1, [.int (s p 0), .ref (a (p + 1)), .ref (a (p + 2)), .ref (a (p + 3)), .ref (a (p + 4)), .ref (a (p + 5)), .ref (a (p + 6))])
  | 5 => (6, [.ref (a (p + 1)), .ref (a (p + 3)), .ref (a (p + 5))])
  | 6 => (3, [.int (s p 0), .int (s p 1), .int (s p 2), .int (s p 3), .int (s p 4), .int (s p 5), .ref (a (p + 1))])
  | 7 => (0, [.ref (a (p + 1)), .int (s p 1), .ref (a (p + 2)), .int (s p 3), .int (s p 4)])
  | 8 => (4, [.ref (a (p + 1)), .int (s p 1), .int (s p 2), .int (s p 3), .ref (a (p + 2)), .int (s p 5), .int (s p 6), .int (s p 7), .int (s p 8), .int (s p 9)])
  | 9 => (5, [.int (s p 0), .int (s p 1), .int (s p 2), .int (s p 3), .int (s p 4), .ref (a (p + 1))])
  | _ => (9, [.ref (a (p + 1)), .ref (a (p + 2)), .ref (a (p + 3)), .int (s p 3), .int (s p 4), .int (s p 5), .int (s p 6), .int (s p 7), .int (s p 8), .int (s p 9), .int (s p 10), .int (s p 11), .int (s p 12), .int (s p 13), .int (s p 14), .int (s p 15), .ref (a (p + 4)), .ref (a (p + 5)), .int (s p 18), .int (s p 19), .int (s p 20), .int (s p 21), .ref (a (p + 6)), .int (s p 23), .int (s p 24), .ref (a (p + 7)), .ref (a (p + 8)), .ref (a (p + 9)), .int (s p 28), .int (s p 29), .int (s p 30), .int (s p 31), .int (s p 32), .ref (a (p + 10)), .ref (a (p + 11)), .ref (a (p + 12)), .ref (a (p + 13)), .ref (a (p + 14)), .ref (a (p + 15)), .int (s p 39)])
def cellE (a : Nat → Nat) (cI cS : ClassId) (s : St) (p : Nat) : va_E :=
  if 100 ≤ kd p then .inl (cI, kd p - 100, .inl (s p)) else if kd p = 11 then .inl (cS, 8, .inr (.inr (.inr (.inr (fun i => some (a (p + 1 + 2 * i))))))) else .inr (cellO a s p (kd p))
def wl (a : Nat → Nat) (cI cS : ClassId) (s : St) : va_W := (List.range 98).map (fun p => (a p, cellE a cI cS s p))
abbrev Gx : Type := Launch × va_G × ClassId × ClassId × (Nat → Nat) × (Nat → Prop)
def gl (g : Gx) : Launch := g.1
def gD (g : Gx) : va_G := g.2.1
def gI (g : Gx) : ClassId := g.2.2.1
def gS (g : Gx) : ClassId := g.2.2.2.1
def ga (g : Gx) : Nat → Nat := g.2.2.2.2.1
def gA (g : Gx) : Nat → Prop := g.2.2.2.2.2
def gw (g : Gx) (s : St) : va_W := wl (ga g) (gI g) (gS g) s
def gty (g : Gx) : List (ClassId × FieldType) := [(gI g, .int), (gS g, .object "BreatheOut$Shelf")]
def gOk (g : Gx) : Prop := ∀ s, va_D (gA g) (gw g s)
abbrev Xx : Type := Gx × Program × Env × Room × State × MethodId × Array Value × List Frame × Method × Code × Nat
def xg (X : Xx) : Gx := X.1
def xp (X : Xx) : Program := X.2.1
def xe (X : Xx) : Env := X.2.2.1
def xR (X : Xx) : Room := X.2.2.2.1
def xs (X : Xx) : State := X.2.2.2.2.1
def xm (X : Xx) : MethodId := X.2.2.2.2.2.1
def xar (X : Xx) : Array Value := X.2.2.2.2.2.2.1
def xbe (X : Xx) : List Frame := X.2.2.2.2.2.2.2.1
def xme (X : Xx) : Method := X.2.2.2.2.2.2.2.2.1
def xc (X : Xx) : Code := X.2.2.2.2.2.2.2.2.2.1
def xn (X : Xx) : Nat := X.2.2.2.2.2.2.2.2.2.2
abbrev xa (X : Xx) (p : Nat) : Nat := ga (xg X) p
/-- the nest mates' calls of BreatheOut.within -/
def nst : List (String × Nat) := [("BreatheOut$Text", 25), ("BreatheOut$Yards", 40), ("BreatheOut$Bodies", 34), ("BreatheOut$Cave", 43), ("BreatheOut$Shelf", 37)]
def gN (U : State) : Prop := ∀ q ∈ nst, va_Nw (.methodLinkNest q.1 q.2 y_Brt_within "BreatheOut") U
theorem gN_same {u U : State} (h : u.vm = U.vm) (hN : gN u) : gN U := fun q hq => va_Nw.same rfl h (hN q hq)
theorem gN_warm {u U : State} (h : u.WarmedH U.vm) (hN : gN u) : gN U := fun q hq => va_Nw.warmM h (hN q hq)
def lh (ls : Array Slot) (nL : Nat) (L : List (Option Value)) : Prop := ls.size = nL ∧ lv_wf ls ∧ ∀ (i : Nat) (v : Value), L[i]? = some (some v) → ls[i]? = some (.val v)
def Cok (X : Xx) (cc : ByteArray) (own : String) (nL : Nat) (ret : Option FieldType) (rm : Room) : Prop :=
  (xp X).tables.exec = Jvm.exec ∧ (xc X).code = cc ∧ (xc X).maxLocals = nL ∧ (xs X).vm.findClass own = some (xm X).cls ∧ (∀ w ∈ tbl, w.before (xar X) (xs X) = true) ∧ va_K (gD (xg X)) classes (gty (xg X)) (xs X) ∧ gOk (xg X) ∧ xR X = rm ∧ (xme X).locks = false ∧ (xme X).sig.returnType = ret ∧ xn X = nL ∧ gN (xs X)
/-- the machine, at this place of this method, with these locals, this stack, this world, comes to Q -/
def V (X : Xx) (Q : State → Prop) (k n : Nat) (s : St) (pc : Nat) (L : List (Option Value)) (st : List Value) : Prop :=
  ∀ (H : Heap) (locs : List Loc) (ls : Array Slot), va_P (gD (xg X)) classes (gw (xg X) s) H → va_S (gA (xg X)) (xs X).heap H locs → lh ls (xn X) L →
    W (xp X) (gl (xg X)) (xe X) (xR X) (xs X) (xm X) (xar X) (xbe X) (xme X) (xc X) H locs k n Q (F0 (xm X) pc ls st)
def Qx (g : Gx) (post : Option Value → St → Prop) : Array Value → State → Outcome → State → Prop := fun _ st oc t =>
  (∃ (v : Option Value) (s : St), oc = .returned v ∧ post v s ∧ va_P (gD g) classes (gw g s) t.heap) ∧ va_F (gA g) st t
def xQ (X : Xx) (post : Option Value → St → Prop) : State → Prop := MQ (xbe X) (Qx (xg X) post) (xar X) (xs X) 0 0 (gA (xg X))
def Mc (g : Gx) (y : MethodName) (cc : ByteArray) (nL : Nat) (ret : Option FieldType) (rm : Room) (av : List Value) (s : St) (post : Option Value → St → Prop) : Prop :=
  Met (gl g) y (Cond.code y cc nL ret :: tbl) rm (va_Pc av (fun U => va_P (gD g) classes (gw g s) U.heap ∧ va_K (gD g) classes (gty g) U ∧ gN U)) (Qx g post) 0 0 (gA g)
-- the world's cells
theorem wl_get (a : Nat → Nat) (cI cS : ClassId) (s : St) {p : Nat} (h : p < 98) : (wl a cI cS s)[p]? = some (a p, cellE a cI cS s p) := by
  simp [wl, h]
theorem kd_lt {p : Nat} (h : kd p ≠ 0) : p < 98 := by
  rcases Nat.lt_or_ge p 98 with q | q
  · exact q
  · exact absurd (by unfold kd; rw [List.getD_eq_getElem?_getD, List.getElem?_eq_none (by simpa [kdl] using q)]; rfl) h
theorem wl_ext {a : Nat → Nat} {cI cS : ClassId} {s : St} {p : Nat} {w : va_W} (hw : w.length = 98) (h : p < 98) (h1 : ∀ q, q < 98 → q ≠ p → w[q]? = some (a q, cellE a cI cS s q)) (h2 : w[p]? = some (a p, cellE a cI cS s p)) : w = wl a cI cS s := by
  apply List.ext_getElem?
  intro q
  rcases Nat.lt_or_ge q 98 with hq | hq
  · rw [wl_get a cI cS s hq]
    by_cases e : q = p
    · subst e; exact h2
    · exact h1 q hq e
  · rw [List.getElem?_eq_none (by omega), List.getElem?_eq_none (by simpa [wl] using hq)]
theorem cellO_off {a : Nat → Nat} {s s' : St} {p : Nat} (h : ∀ j, s' p j = s p j) (k : Nat) : cellO a s' p k = cellO a s p k := by
  unfold cellO
  split <;> simp only [h]
theorem cellE_off {a : Nat → Nat} {cI cS : ClassId} {s s' : St} {q : Nat} (h : ∀ j, s' q j = s q j) : cellE a cI cS s' q = cellE a cI cS s q := by
  unfold cellE
  rw [cellO_off h, show s' q = s q from funext h]
theorem wl_set {a : Nat → Nat} {cI cS : ClassId} {s s' : St} {p : Nat} (hp : p < 98) (h : ∀ q j, q ≠ p → s' q j = s q j) {e : va_E} (he : cellE a cI cS s' p = e) : (wl a cI cS s).set p (a p, e) = wl a cI cS s' := by
  refine wl_ext (p := p) (by simp [wl]) hp (fun q hq hn => ?_) ?_
  · rw [List.getElem?_set_ne (fun z => hn z.symm), wl_get a cI cS s hq, cellE_off (fun j => h q j hn)]
  · rw [List.getElem?_set_self (by simpa [wl] using hp), he]
theorem wr_ne {s : St} {p k : Nat} {v : Int32} {q j : Nat} (h : q ≠ p) : wr s p k v q j = s q j := by simp [wr, h]
theorem wr_at {s : St} {p k : Nat} {v : Int32} : wr s p k v p k = v := by simp [wr]
theorem wr_row {s : St} {p k : Nat} {v : Int32} : wr s p k v p = upd (s p) k v := by
  funext j
  simp [wr, upd]
theorem cellE_arr {a : Nat → Nat} {cI cS : ClassId} {s : St} {p n : Nat} (h : kd p = 100 + n) : cellE a cI cS s p = .inl (cI, n, .inl (s p)) := by
  unfold cellE
  rw [if_pos (by omega), h, show 100 + n - 100 = n by omega]
theorem cellE_obj {a : Nat → Nat} {cI cS : ClassId} {s : St} {p k : Nat} (h : kd p = k) (hk : k < 11) : cellE a cI cS s p = .inr (cellO a s p k) := by
  unfold cellE
  rw [if_neg (by omega), if_neg (by omega), h]
theorem cellE_she {a : Nat → Nat} {cI cS : ClassId} {s : St} {p : Nat} (h : kd p = 11) : cellE a cI cS s p = .inl (cS, 8, .inr (.inr (.inr (.inr (fun i => some (a (p + 1 + 2 * i))))))) := by
  unfold cellE
  rw [if_neg (by omega), if_pos h]
-- locals
def lset (L : List (Option Value)) (i : Nat) (v : Value) : List (Option Value) := match i with
  | 0 => L.set 0 (some v)
  | j + 1 => match L[j]? with
    | some (some (.long _)) => (L.set j none).set (j + 1) (some v)
    | some (some (.double _)) => (L.set j none).set (j + 1) (some v)
    | _ => L.set (j + 1) (some v)
def lset2 (L : List (Option Value)) (i : Nat) (v : Value) : List (Option Value) := (lset L i v).set (i + 1) none
def la : List Value → List (Option Value)
  | [] => []
  | v :: r => if v.category = 2 then some v :: none :: la r else some v :: la r
theorem lh_has {ls : Array Slot} {nL : Nat} {L : List (Option Value)} (h : lh ls nL L) : lv_has ls nL (L.zipIdx.filterMap (fun q => q.1.map (fun v => (q.2, v)))) := by
  refine ⟨h.1, h.2.1, fun q hq => ?_⟩
  obtain ⟨⟨o, i⟩, h1, h2⟩ := List.mem_filterMap.mp hq
  cases o with
  | none => cases h2
  | some v =>
    cases h2
    exact h.2.2 i v (List.mem_zipIdx_iff_getElem?.mp h1)
theorem lh_mem {L : List (Option Value)} {i : Nat} {v : Value} (h : L[i]? = some (some v)) : (i, v) ∈ L.zipIdx.filterMap (fun q => q.1.map (fun v => (q.2, v))) :=
  List.mem_filterMap.mpr ⟨(some v, i), List.mem_zipIdx_iff_getElem?.mpr h, rfl⟩
theorem lset_spec {L : List (Option Value)} {i : Nat} {v : Value} {j : Nat} {w : Value} (h : (lset L i v)[j]? = some (some w)) : (j = i ∧ w = v) ∨ (j ≠ i ∧ L[j]? = some (some w) ∧ ¬ (j + 1 = i ∧ w.category = 2)) := by
  by_cases e : j = i
  · left
    subst e
    refine ⟨rfl, ?_⟩
    unfold lset at h
    split at h
    · rw [List.getElem?_set] at h; simp at h; exact (h.2).symm
    · split at h <;> (rw [List.getElem?_set] at h; simp at h; exact (h.2).symm)
  · right
    refine ⟨e, ?_⟩
    unfold lset at h
    split at h
    · rw [List.getElem?_set_ne (fun z => e z.symm)] at h
      exact ⟨h, fun z => by omega⟩
    · rename_i i'
      split at h
      · rw [List.getElem?_set_ne (fun z => e z.symm), List.getElem?_set] at h
        by_cases e2 : i' = j
        · rw [if_pos e2] at h; split at h <;> cases h
        · rw [if_neg e2] at h; exact ⟨h, fun z => e2 (by omega)⟩
      · rw [List.getElem?_set_ne (fun z => e z.symm), List.getElem?_set] at h
        by_cases e2 : i' = j
        · rw [if_pos e2] at h; split at h <;> cases h
        · rw [if_neg e2] at h; exact ⟨h, fun z => e2 (by omega)⟩
      · rename_i n1 n2
        rw [List.getElem?_set_ne (fun z => e z.symm)] at h
        refine ⟨h, fun z => ?_⟩
        have e2 : j = i' := by omega
        subst e2
        cases w with
        | long x => exact n1 x h
        | double x => exact n2 x h
        | _ => exact absurd z.2 (by simp [Value.category])
theorem lh_set {ls : Array Slot} {nL : Nat} {L : List (Option Value)} {i : Nat} {v : Value} (h : lv_has ls nL ((i, v) :: (L.zipIdx.filterMap (fun q => q.1.map (fun v => (q.2, v)))).filter (fun q => !(q.1 == i) && !(q.1 + 1 == i && q.2.category == 2)))) : lh ls nL (lset L i v) := by
  refine ⟨h.1, h.2.1, fun j w hj => ?_⟩
  rcases lset_spec hj with ⟨rfl, rfl⟩ | ⟨h1, h2, h3⟩
  · exact h.2.2 _ List.mem_cons_self
  · refine h.2.2 (j, w) (List.mem_cons_of_mem _ (List.mem_filter.mpr ⟨lh_mem h2, ?_⟩))
    simp only [Bool.and_eq_true, Bool.not_eq_true', beq_eq_false_iff_ne, ne_eq, Bool.and_eq_false_iff]
    refine ⟨h1, ?_⟩
    by_cases z : j + 1 = i
    · exact Or.inr (fun c => h3 ⟨z, c⟩)
    · exact Or.inl z
theorem lh_set2 {ls : Array Slot} {nL : Nat} {L : List (Option Value)} {i : Nat} {v : Value} (h : lv_has ls nL ((i, v) :: (L.zipIdx.filterMap (fun q => q.1.map (fun v => (q.2, v)))).filter (fun q => !(q.1 == i) && (!(q.1 == i + 1) && !(q.1 + 1 == i && q.2.category == 2))))) : lh ls nL (lset2 L i v) := by
  refine ⟨h.1, h.2.1, fun j w hj => ?_⟩
  unfold lset2 at hj
  by_cases e : j = i + 1
  · subst e
    rw [List.getElem?_set] at hj
    simp at hj
  rw [List.getElem?_set_ne (fun z => e z.symm)] at hj
  rcases lset_spec hj with ⟨rfl, rfl⟩ | ⟨h1, h2, h3⟩
  · exact h.2.2 _ List.mem_cons_self
  · refine h.2.2 (j, w) (List.mem_cons_of_mem _ (List.mem_filter.mpr ⟨lh_mem h2, ?_⟩))
    simp only [Bool.and_eq_true, Bool.not_eq_true', beq_eq_false_iff_ne, ne_eq, Bool.and_eq_false_iff]
    refine ⟨h1, e, ?_⟩
    by_cases z : j + 1 = i
    · exact Or.inr (fun c => h3 ⟨z, c⟩)
    · exact Or.inl z
theorem la_args : ∀ (vs : List Value) (k i : Nat) (v : Value), (la vs)[i]? = some (some v) → (k + i, v) ∈ lv_args k vs
  | [], k, i, v, h => by simp [la] at h
  | w :: r, k, i, v, h => by
    unfold la at h
    unfold lv_args
    split at h
    · rename_i hc
      rw [if_pos hc]
      match i, h with
      | 0, h => simp at h; subst h; exact List.mem_cons_self
      | 1, h => simp at h
      | i + 2, h =>
        have := la_args r (k + 2) i v (by simpa using h)
        exact List.mem_cons_of_mem _ (by rw [show k + (i + 2) = k + 2 + i by omega]; exact this)
    · rename_i hc
      rw [if_neg hc]
      match i, h with
      | 0, h => simp at h; subst h; exact List.mem_cons_self
      | i + 1, h =>
        have := la_args r (k + 1) i v (by simpa using h)
        exact List.mem_cons_of_mem _ (by rw [show k + (i + 1) = k + 1 + i by omega]; exact this)
theorem lh_entry {vs : List Value} {n j : Nat} {ls : Array Slot} (h : lv_has ls n (lv_args 0 vs)) : lh ls n (la vs ++ List.replicate j none) := by
  refine ⟨h.1, h.2.1, fun i v hi => ?_⟩
  rw [List.getElem?_append] at hi
  split at hi
  · have := la_args vs 0 i v hi
    rw [Nat.zero_add] at this
    exact h.2.2 _ this
  · rw [List.getElem?_replicate] at hi
    split at hi <;> cases hi
theorem lh_sub {ls : Array Slot} {n : Nat} {L L' : List (Option Value)} (h : lh ls n L) (hs : ∀ (i : Nat) (v : Value), L'[i]? = some (some v) → L[i]? = some (some v)) : lh ls n L' := ⟨h.1, h.2.1, fun i v hi => h.2.2 i v (hs i v hi)⟩
/-- fewer locals known: checked by a walk of both lists -/
def lsub : List (Option Value) → List (Option Value) → Prop
  | _, [] => True
  | [], none :: r => lsub [] r
  | [], some _ :: _ => False
  | _ :: l, none :: r => lsub l r
  | x :: l, some v :: r => x = some v ∧ lsub l r
theorem lsub_at : ∀ (L L' : List (Option Value)), lsub L L' → ∀ (i : Nat) (v : Value), L'[i]? = some (some v) → L[i]? = some (some v)
  | _, [], _, i, v, h => by simp at h
  | [], none :: r, hs, 0, v, h => by simp at h
  | [], none :: r, hs, i + 1, v, h => by
    have := lsub_at [] r hs i v (by simpa using h)
    simp at this
  | [], some _ :: _, hs, _, _, _ => hs.elim
  | _ :: l, none :: r, hs, 0, v, h => by simp at h
  | _ :: l, none :: r, hs, i + 1, v, h => by
    have := lsub_at l r hs i v (by simpa using h)
    simpa using this
  | x :: l, some w :: r, hs, 0, v, h => by
    obtain ⟨rfl, -⟩ := hs
    simpa using h
  | x :: l, some w :: r, hs, i + 1, v, h => by
    have := lsub_at l r hs.2 i v (by simpa using h)
    simpa using this
