/-! THE ABSTRACT STATE: the cave, THE IMAGE, SHELVES -/
abbrev Ab : Type := Kv × Kv × Bool × (Nat → Nat → Int) × (Nat → Nat → Int32)
def COi (k : Kv) : Prop := ∀ i j : Nat, (i : Int) < k 9 1 → (j : Int) < k 9 1 → k 8 i = k 8 j → i = j
def COs (k : Kv) : Prop := ∀ b : Nat, (b : Int) < k 9 1 → ∃ j : Nat, (j : Int) < k 9 1 ∧ k 8 j = b
/-- a cave that may be had -/
def CC (k : Kv) : Prop := CV k ∧ k 9 2 ≤ 9999 ∧ CO k ∧ COi k ∧ COs k
def ShV (sh : Nat → Nat → Int) (sc : Nat → Nat → Int32) (d : Nat) : Prop := (sh d 0 = 0 ∨ sh d 0 = 1 ∨ sh d 0 = 2) ∧ (sh d 0 = 1 → 0 ≤ sh d 1 ∧ sh d 1 ≤ 7 ∧ 0 ≤ sh d 2 ∧ sh d 2 ≤ 9) ∧ (sh d 0 = 2 → (0 ≤ sh d 3 ∧ sh d 3 ≤ 2 ∧ 0 ≤ sh d 4 ∧ sh d 4 ≤ 100) ∧ (sh d 3 = 0 → ∀ j, -128 ≤ (sc d j).toInt ∧ (sc d j).toInt ≤ 127))
def AV (A : Ab) : Prop := CC A.1 ∧ (A.2.2.1 = true → CC A.2.1) ∧ ∀ d, d < 8 → ShV A.2.2.2.1 A.2.2.2.2 d
/-- how many are back by an ORDER, and the clock then -/
def tabN (k : Kv) (l : Nat → Nat) (n : Nat) : Int := (homeZ k l n (thereZ k l n (k 9 2) zt) zt).2.1
def tabC (k : Kv) (l : Nat → Nat) (n : Nat) : Int := (homeZ k l n (thereZ k l n (k 9 2) zt) zt).2.2.2.2.1
/-- the better of two: more back, or as many and sooner -/
def bestP (k : Kv) (n : Nat) (b : Int × Int × List Nat) (l : List Nat) : Int × Int × List Nat :=
  if b.1 < tabN k (fun j => l.getD j 0) n ∨ (b.1 = tabN k (fun j => l.getD j 0) n ∧ tabC k (fun j => l.getD j 0) n < b.2.1) then (tabN k (fun j => l.getD j 0) n, tabC k (fun j => l.getD j 0) n, l) else b
/-- all orders of the numbers in ns, by their numbers -/
def permsF : Nat → List Nat → List (List Nat)
  | 0, _ => [[]]
  | f + 1, ns => ns.flatMap (fun b => (permsF f (ns.erase b)).map (b :: ·))
def perms (n : Nat) : List (List Nat) := permsF n (List.range n)
def bestK (k : Kv) : Int × Int × List Nat := (perms (k 9 1).toNat).foldl (bestP k (k 9 1).toNat) (-1, 0, [])
def ShC (s : St) (sh : Nat → Nat → Int) (sc : Nat → Nat → Int32) (d : Nat) : Prop := s (66 + 2 * d) 0 = I (sh d 0) ∧ (sh d 0 = 1 → s (66 + 2 * d) 1 = I (sh d 1) ∧ s (66 + 2 * d) 2 = I (sh d 2)) ∧ (sh d 0 = 2 → s (66 + 2 * d) 3 = I (sh d 3) ∧ s (66 + 2 * d) 4 = I (sh d 4) ∧ ∀ j, j < 100 → s (67 + 2 * d) j = sc d j)
def ShM (s : St) (sh : Nat → Nat → Int) (sc : Nat → Nat → Int32) (d : Nat) : Prop := s 92 d = I (sh d 0) ∧ (sh d 0 = 1 → s 93 d = I (sh d 1) ∧ s 94 d = I (sh d 2)) ∧ (sh d 0 = 2 → s 95 d = I (sh d 3) ∧ s 96 d = I (sh d 4) ∧ ∀ j, j < 100 → s 97 (100 * d + j) = sc d j)
/-- BEST ORDER as the class keeps it -/
def BestC (s : St) (k : Kv) : Prop := s 58 4 = 0 ∨ (s 58 4 = 1 ∧ s 58 1 = I (bestK k).1 ∧ ∀ i : Nat, (i : Int) < k 9 1 → s 59 i = I ((bestK k).2.2.getD i 0 : Nat))
def AC (s : St) (A : Ab) : Prop := RC s 1 A.1 ∧ s 0 8 = bi A.2.2.1 ∧ (A.2.2.1 = true → RC s 18 A.2.1) ∧ (∀ d, d < 8 → ShC s A.2.2.2.1 A.2.2.2.2 d) ∧ BestC s A.1
def AM (s : St) (A : Ab) : Prop := RM s 83 A.1 ∧ s 82 3 = bi A.2.2.1 ∧ (A.2.2.1 = true → RM s 84 A.2.1) ∧ ∀ d, d < 8 → ShM s A.2.2.2.1 A.2.2.2.2 d
def RR (s : St) (A : Ab) : Prop := AC s A ∧ AM s A ∧ AV A
/-- what the class keeps over a call that changes nothing told -/
def KC (s s' : St) : Prop := ∀ p j, (p < 35 ∨ p = 58 ∨ p = 59 ∨ 65 ≤ p) → s' p j = s p j
def KM (s s' : St) : Prop := (∀ p j, (p < 82 ∨ p = 83 ∨ p = 84 ∨ 92 ≤ p) → s' p j = s p j) ∧ s' 82 3 = s 82 3
theorem ShC_ext {s s' : St} {sh : Nat → Nat → Int} {sc : Nat → Nat → Int32} {d : Nat} (hd : d < 8) (h : ∀ p j, 65 ≤ p → p < 82 → s' p j = s p j) (hs : ShC s sh sc d) : ShC s' sh sc d := by
  refine ⟨(h _ _ (by omega) (by omega)).trans hs.1, fun z => ⟨(h _ _ (by omega) (by omega)).trans (hs.2.1 z).1, (h _ _ (by omega) (by omega)).trans (hs.2.1 z).2⟩, fun z => ⟨(h _ _ (by omega) (by omega)).trans (hs.2.2 z).1, (h _ _ (by omega) (by omega)).trans (hs.2.2 z).2.1, fun j hj => (h _ _ (by omega) (by omega)).trans ((hs.2.2 z).2.2 j hj)⟩⟩
theorem ShM_ext {s s' : St} {sh : Nat → Nat → Int} {sc : Nat → Nat → Int32} {d : Nat} (h : ∀ p j, 92 ≤ p → s' p j = s p j) (hs : ShM s sh sc d) : ShM s' sh sc d := by
  refine ⟨(h _ _ (by omega)).trans hs.1, fun z => ⟨(h _ _ (by omega)).trans (hs.2.1 z).1, (h _ _ (by omega)).trans (hs.2.1 z).2⟩, fun z => ⟨(h _ _ (by omega)).trans (hs.2.2 z).1, (h _ _ (by omega)).trans (hs.2.2 z).2.1, fun j hj => (h _ _ (by omega)).trans ((hs.2.2 z).2.2 j hj)⟩⟩
theorem AC_ext {s s' : St} {A : Ab} (h : ∀ p j, (p < 35 ∨ p = 58 ∨ p = 59 ∨ (65 ≤ p ∧ p < 82)) → s' p j = s p j) (ha : AC s A) : AC s' A := by
  obtain ⟨h1, h2, h3, h4, h5⟩ := ha
  refine ⟨RC_ext (fun q j hq => h _ _ (by omega)) h1, (h _ _ (by omega)).trans h2, fun z => RC_ext (fun q j hq => h _ _ (by omega)) (h3 z), fun d hd => ShC_ext hd (fun p j a b => h p j (by omega)) (h4 d hd), ?_⟩
  rcases h5 with z | ⟨z1, z2, z3⟩
  · exact Or.inl ((h _ _ (by omega)).trans z)
  · exact Or.inr ⟨(h _ _ (by omega)).trans z1, (h _ _ (by omega)).trans z2, fun i hi => (h _ _ (by omega)).trans (z3 i hi)⟩
theorem AM_ext {s s' : St} {A : Ab} (h : ∀ p j, (p = 83 ∨ p = 84 ∨ 92 ≤ p) → s' p j = s p j) (h3 : s' 82 3 = s 82 3) (ha : AM s A) : AM s' A := by
  obtain ⟨g1, g2, g3, g4⟩ := ha
  exact ⟨RM_ext (fun j => h _ _ (by omega)) g1, h3.trans g2, fun z => RM_ext (fun j => h _ _ (by omega)) (g3 z), fun d hd => ShM_ext (fun p j a => h p j (by omega)) (g4 d hd)⟩
theorem RR_KC {s s' : St} {A : Ab} (h : KC s s') (hr : RR s A) : RR s' A := ⟨AC_ext (fun p j q => h p j (by omega)) hr.1, AM_ext (fun p j q => h p j (by omega)) (h 82 3 (by omega)) hr.2.1, hr.2.2⟩
theorem RR_KM {s s' : St} {A : Ab} (h : KM s s') (hr : RR s A) : RR s' A := ⟨AC_ext (fun p j q => h.1 p j (by omega)) hr.1, AM_ext (fun p j q => h.1 p j (by omega)) h.2 hr.2.1, hr.2.2⟩
theorem KC.rf {s : St} : KC s s := fun _ _ _ => rfl
theorem KC.tr {s t u : St} (h : KC s t) (g : KC t u) : KC s u := fun p j q => (g p j q).trans (h p j q)
theorem KM.rf {s : St} : KM s s := ⟨fun _ _ _ => rfl, rfl⟩
theorem KM.tr {s t u : St} (h : KM s t) (g : KM t u) : KM s u := ⟨fun p j q => (g.1 p j q).trans (h.1 p j q), g.2.trans h.2⟩
theorem KC.lg {s : St} {p : Nat} {v ts : Nat → Int32} (h : p = 53 ∨ p = 55) : KC s (LG s p v ts) := fun q j hq => LG_ne (by omega)
theorem KC.wr {s : St} {p j : Nat} {x : Int32} (h : (35 ≤ p ∧ p < 58) ∨ (60 ≤ p ∧ p < 65)) : KC s (wr s p j x) := fun q i hq => wr_ne (by omega)
theorem KC.tb {s : St} {a b : Gr} : KC s (TB s a b) := (KC.lg (Or.inl rfl)).tr (KC.lg (Or.inr rfl))
theorem KC.al {s : St} {b p : Nat} {r : Gr} (h : p = 53 ∨ p = 55) : KC s (AL s b p r) := (KC.wr (by omega)).tr (KC.lg h)
theorem KM.ms {s : St} {v ta ln : Nat → Int32} (h : v 3 = s 82 3) : KM s (MS s v ta ln) := ⟨fun p j q => MS_ne (by omega), h⟩
/-- the answers of both are alike, and what is told stays -/
def EqI (A : Ab) (c m : (Int32 → St → Prop) → Prop) : Prop := c (fun r s1 => m (fun r' s2 => r = r' ∧ RR s2 A))
-- ranges of what comes from the script
theorem has_ok {s : St} {p : Nat} {x n : Int} (hn : 0 ≤ n ∧ n ≤ 100) (e : s p 0 = I n) (hx : inr x) {Q : Bool → Prop} (h : Q (decide (0 ≤ x ∧ x < n))) : vc_Bod_has p (I x) s Q := by
  unfold vc_Bod_has
  rw [e, show (I n - 1 : Int32) = I (n - 1) from by simp (disch := (first | omega | (unfold inr; omega))) only [I_lit, I_nI, I_neg, I_add, I_sub, I_mul, I_div, I_le, I_lt, I_eq, I_clamp, I_clampN, I_vin], ← I0]
  refine sp_within hx ⟨by decide, by decide⟩ ⟨by omega, by omega⟩ (q_eq h ?_)
  simp only [decide_eq_decide]
  omega
theorem hasY_ok {s : St} {p : Nat} {x n : Int} (hn : 0 ≤ n ∧ n ≤ 100) (e : s p 0 = I n) (hx : inr x) {Q : Bool → Prop} (h : Q (decide (0 ≤ x ∧ x < n))) : vc_Yar_has p (I x) s Q := has_ok hn e hx h
theorem both_ok {s : St} {c : Nat} {k : Kv} (hk : CV k) (hr : RC s c k) {b y : Int} (hb : inr b) (hy : inr y) {Q : Bool → Prop} (h : Q (decide ((0 ≤ b ∧ b < k 9 1) ∧ (0 ≤ y ∧ y < k 9 0)))) : vc_Cav_hasBoth c (I b) (I y) s Q := by
  have a := hk.1
  unfold vc_Cav_hasBoth
  refine has_ok (n := k 9 1) ⟨by omega, by omega⟩ hr.1.2.1 hb ?_
  rw [bi_f]
  constructor
  · intro z
    refine q_eq h ?_
    simp at z ⊢
    omega
  · intro z
    refine hasY_ok (n := k 9 0) ⟨by omega, by omega⟩ hr.1.1 hy ?_
    rw [bi_f]
    simp only [decide_eq_false_iff_not, Decidable.not_not] at z
    constructor
    · intro z2
      refine q_eq h ?_
      simp at z2 ⊢
      omega
    · intro z2
      refine q_eq h ?_
      simp at z2 ⊢
      omega
theorem isBody_ok {s : St} {k : Kv} (hk : CV k) (hr : RM s 83 k) {b : Int} (hb : inr b) {Q : Bool → Prop} (h : Q (decide (0 ≤ b ∧ b < k 9 1))) : vc_Mod_isBody (I b) s Q := by
  have a := hk.1
  unfold vc_Mod_isBody
  refine ⟨v_in (a := 1) ⟨by decide, by decide⟩ (by decide) rfl, ?_⟩
  rw [show s 83 (Int32.toNatClampNeg 1) = I (k 9 1) from hr.1 1 (by decide), show (I (k 9 1) - 1 : Int32) = I (k 9 1 - 1) from by simp (disch := (first | omega | (unfold inr; omega))) only [I_lit, I_nI, I_neg, I_add, I_sub, I_mul, I_div, I_le, I_lt, I_eq, I_clamp, I_clampN, I_vin], ← I0]
  refine sp_isIn hb ⟨by decide, by decide⟩ ⟨by omega, by omega⟩ (q_eq h ?_)
  simp only [decide_eq_decide]
  omega
theorem isYard_ok {s : St} {k : Kv} (hk : CV k) (hr : RM s 83 k) {y : Int} (hy : inr y) {Q : Bool → Prop} (h : Q (decide (0 ≤ y ∧ y < k 9 0))) : vc_Mod_isYard (I y) s Q := by
  have a := hk.1
  unfold vc_Mod_isYard
  refine ⟨v_in (a := 0) ⟨by decide, by decide⟩ (by decide) rfl, ?_⟩
  rw [show s 83 (Int32.toNatClampNeg 0) = I (k 9 0) from hr.1 0 (by decide), show (I (k 9 0) - 1 : Int32) = I (k 9 0 - 1) from by simp (disch := (first | omega | (unfold inr; omega))) only [I_lit, I_nI, I_neg, I_add, I_sub, I_mul, I_div, I_le, I_lt, I_eq, I_clamp, I_clampN, I_vin], ← I0]
  refine sp_isIn hy ⟨by decide, by decide⟩ ⟨by omega, by omega⟩ (q_eq h ?_)
  simp only [decide_eq_decide]
  omega
