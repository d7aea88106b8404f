/-! THE MODEL: one alone -/
def RM (s : St) (q : Nat) (k : Kv) : Prop :=
  (∀ i, i < 6 → s q i = I (k 9 i)) ∧ (∀ y : Nat, (y : Int) < k 9 0 → ∀ w, w < 3 → s q (6 + 3 * y + w) = I (k w y)) ∧
  ∀ b : Nat, (b : Int) < k 9 1 → (∀ w, w < 5 → s q (42 + 5 * b + w) = I (k (3 + w) b)) ∧ s q (72 + b) = I (k 8 b)
def MS (s : St) (v ta ln : Nat → Int32) : St := fun q j => if q = 82 then v j else if q = 86 then ta j else if q = 87 then ln j else s q j
theorem MS_82 {s : St} {v ta ln : Nat → Int32} {j : Nat} : MS s v ta ln 82 j = v j := rfl
theorem MS_86 {s : St} {v ta ln : Nat → Int32} {j : Nat} : MS s v ta ln 86 j = ta j := rfl
theorem MS_87 {s : St} {v ta ln : Nat → Int32} {j : Nat} : MS s v ta ln 87 j = ln j := rfl
theorem MS_83 {s : St} {v ta ln : Nat → Int32} {j : Nat} : MS s v ta ln 83 j = s 83 j := rfl
theorem MS_ne {s : St} {v ta ln : Nat → Int32} {q j : Nat} (h : q ≠ 82 ∧ q ≠ 86 ∧ q ≠ 87) : MS s v ta ln q j = s q j := by
  unfold MS
  rw [if_neg h.1, if_neg h.2.1, if_neg h.2.2]
theorem MS_self (s : St) : MS s (s 82) (s 86) (s 87) = s := by
  funext q j
  unfold MS
  repeat' split
  all_goals first | rfl | (rename_i h; rw [h])
theorem MS_w82 {s : St} {v ta ln : Nat → Int32} {j : Nat} {x : Int32} : wr (MS s v ta ln) 82 j x = MS s (upd v j x) ta ln := by
  funext q i
  unfold wr MS upd
  by_cases h : q = 82
  · subst h; simp
  · simp [h]
theorem MS_w86 {s : St} {v ta ln : Nat → Int32} {j : Nat} {x : Int32} : wr (MS s v ta ln) 86 j x = MS s v (upd ta j x) ln := by
  funext q i
  unfold wr MS upd
  by_cases h : q = 86
  · subst h; simp
  · simp [h]
theorem MS_w87 {s : St} {v ta ln : Nat → Int32} {j : Nat} {x : Int32} : wr (MS s v ta ln) 87 j x = MS s v ta (upd ln j x) := by
  funext q i
  unfold wr MS upd
  by_cases h : q = 87
  · subst h; simp
  · simp [h]
theorem RM_ext {s s' : St} {q : Nat} {k : Kv} (h : ∀ j, s' q j = s q j) (hr : RM s q k) : RM s' q k :=
  ⟨fun i hi => (h i).trans (hr.1 i hi), fun y hy w hw => (h _).trans (hr.2.1 y hy w hw), fun b hb => ⟨fun w hw => (h _).trans ((hr.2.2 b hb).1 w hw), (h _).trans (hr.2.2 b hb).2⟩⟩
theorem RM_MS {s : St} {q : Nat} {k : Kv} {v ta ln : Nat → Int32} (h : q ≠ 82 ∧ q ≠ 86 ∧ q ≠ 87) (hr : RM s q k) : RM (MS s v ta ln) q k := RM_ext (fun _ => MS_ne h) hr
def lackH (k : Kv) (b y : Nat) (h : Int) : Int := sizeZ k b y (k 7 b) true - roomZ k y (h * k 9 3)
def fitH (k : Kv) (b y : Nat) (h : Int) : Int := if 0 < lackH k b y h then 2 else if 0 < lackH k b y h + k 4 b then 1 else 0
theorem lackH_eq (k : Kv) (b y : Nat) (c : Int) : lackH k b y (c / 60) = lackZ k b y c := rfl
theorem fitH_eq (k : Kv) (b y : Nat) (c : Int) : fitH k b y (c / 60) = fitZ k b y c := rfl
theorem sp_isIn {x a b : Int} {Q : Bool → Prop} (hx : inr x) (ha : inr a) (hb : inr b) (h : Q (decide (a ≤ x ∧ x ≤ b))) : vc_Mod_isIn (I x) (I a) (I b) Q := sp_within hx ha hb h
theorem sp_mmost {a b : Int} {Q : Int32 → Prop} (ha : inr a) (hb : inr b) (h : Q (I (max a b))) : vc_Mod_most (I a) (I b) Q := by
  unfold vc_Mod_most
  rw [I_le ha hb]
  refine ⟨fun c => q_eq h (by rw [Int.max_eq_right c]), fun c => q_eq h (by rw [Int.max_eq_left (by omega)])⟩
theorem sp_mleast {a b : Int} {Q : Int32 → Prop} (ha : inr a) (hb : inr b) (h : Q (I (min a b))) : vc_Mod_least (I a) (I b) Q := by
  unfold vc_Mod_least
  simp only [I_le ha hb, I_le hb ha, I_lt ha hb, I_lt hb ha]
  refine ⟨fun c => q_eq h (by first | rw [Int.min_eq_right (by omega)] | rw [Int.min_eq_left (by omega)]), fun c => q_eq h (by first | rw [Int.min_eq_right (by omega)] | rw [Int.min_eq_left (by omega)])⟩
theorem sp_of {s : St} {k : Kv} (hr : RM s 83 k) {b : Nat} (hb : (b : Int) < k 9 1) (hb6 : b < 6) {w : Nat} (hw : w < 5) {x : Int32} (hx : x = I (w : Int)) {Q : Int32 → Prop} (h : Q (I (k (3 + w) b))) : vc_Mod_of (I b) x s Q := by
  subst hx
  unfold vc_Mod_of vc_Mod_atBody
  have e : (42 : Int32) + 5 * I b + I w = I ((42 + 5 * b + w : Nat) : Int) := by
    simp (disch := (first | omega | (unfold inr; omega))) only [I_lit, I_nI, I_neg, I_add, I_sub, I_mul, I_div, I_le, I_lt, I_eq, I_clamp, I_clampN, I_vin]
    congr 1
  rw [e]
  refine ⟨I_vinN (by omega) (by decide), ?_⟩
  rw [I_clampN (by omega), (hr.2.2 b hb).1 w hw]
  exact h
theorem sp_mroom {s : St} {k : Kv} (hr : RM s 83 k) {y : Nat} (hy : (y : Int) < k 9 0) (hy12 : y < 12) (hc : CY k y) (hri : 0 ≤ k 9 3 ∧ k 9 3 ≤ 9) {t : Int} (ht : 0 ≤ t ∧ t ≤ 20000) {Q : Int32 → Prop} (h : Q (I (roomZ k y (t * k 9 3)))) : vc_Mod_roomOf (I y) (I t) s Q := by
  have hc2 := hc
  obtain ⟨h1, h2, h3, h4, h5, h6⟩ := hc2
  have e : ∀ w : Nat, (6 : Int32) + 3 * I y + I (w : Int) = I ((6 + 3 * y + w : Nat) : Int) := by
    intro w
    simp (disch := (first | omega | (unfold inr; omega))) only [I_lit, I_nI, I_neg, I_add, I_sub, I_mul, I_div, I_le, I_lt, I_eq, I_clamp, I_clampN, I_vin]
    congr 1
  have hm1 := Int.mul_nonneg ht.1 hri.1
  have hm2 := Int.mul_le_mul ht.2 hri.2 hri.1 (by omega : (0 : Int) ≤ 20000)
  have e1 := e 1
  have e2 := e 2
  have e0 := e 0
  rw [show I ((1 : Nat) : Int) = 1 from rfl] at e1
  rw [show I ((2 : Nat) : Int) = 2 from rfl] at e2
  rw [show I ((0 : Nat) : Int) = 0 from rfl] at e0
  have f3 : (0 : Int) ≤ k 1 y / 3 ∧ k 1 y / 3 ≤ 3 := by omega
  unfold vc_Mod_roomOf vc_Mod_atYard
  rw [e1, e2, e0]
  refine ⟨I_vinN (by omega) (by decide), ?_⟩
  intro x13 hx13
  rw [I_clampN (by omega), hr.2.1 y hy 1 (by decide)] at hx13
  refine ⟨I_vinN (by omega) (by decide), ?_⟩
  intro x17 hx17
  rw [I_clampN (by omega), hr.2.1 y hy 2 (by decide)] at hx17
  subst hx13 hx17
  refine ⟨I_vinN (by omega) (by decide), ?_⟩
  rw [I_clampN (by omega), hr.2.1 y hy 0 (by decide)]
  have e3 : s 83 (Int32.toNatClampNeg 3) = I (k 9 3) := hr.1 3 (by decide)
  rw [e3]
  have hv3 : vp_in 3 78 := (I_vin (a := 3) ⟨by decide, by decide⟩).mpr ⟨by decide, by decide⟩
  unfold roomZ dryZ at h
  rcases (show k 0 y = 0 ∨ k 0 y = 1 ∨ k 0 y = 2 ∨ k 0 y = 3 ∨ k 0 y = 4 ∨ k 0 y = 5 ∨ k 0 y = 6 ∨ k 0 y = 7 by omega) with e | e | e | e | e | e | e | e
  all_goals rw [e]
  all_goals simp only [I0, I1, I2, I3, I4, I5, I6, I7]
  all_goals simp [e] at h
  all_goals simp [jp, jt]
  · exact h
  · refine q_eq h ?_
    simp (disch := (first | omega | (unfold inr; omega))) only [I_lit, I_nI, I_neg, I_add, I_sub, I_mul, I_div, I_le, I_lt, I_eq, I_clamp, I_clampN, I_vin]
  · have : I (k 2 y) - I (k 1 y) / 3 = I (k 2 y - k 1 y / 3) := by simp (disch := (first | omega | (unfold inr; omega))) only [I_lit, I_nI, I_neg, I_add, I_sub, I_mul, I_div, I_le, I_lt, I_eq, I_clamp, I_clampN, I_vin]
    rw [this, ← I0]
    exact sp_mmost ⟨by decide, by decide⟩ ⟨by omega, by omega⟩ h
  · have : I (k 2 y) - I (k 1 y) / 3 = I (k 2 y - k 1 y / 3) := by simp (disch := (first | omega | (unfold inr; omega))) only [I_lit, I_nI, I_neg, I_add, I_sub, I_mul, I_div, I_le, I_lt, I_eq, I_clamp, I_clampN, I_vin]
    rw [this, ← I0]
    exact sp_mmost ⟨by decide, by decide⟩ ⟨by omega, by omega⟩ h
  · exact h
  · refine ⟨hv3, ?_⟩
    rw [I_mul, I_sub, ← I0]
    exact sp_mmost ⟨by decide, by decide⟩ ⟨by omega, by omega⟩ h
  · have : I (k 2 y) - I (k 1 y) / 3 - 1 = I (k 2 y - k 1 y / 3 - 1) := by simp (disch := (first | omega | (unfold inr; omega))) only [I_lit, I_nI, I_neg, I_add, I_sub, I_mul, I_div, I_le, I_lt, I_eq, I_clamp, I_clampN, I_vin]
    rw [this, ← I0]
    exact sp_mmost ⟨by decide, by decide⟩ ⟨by omega, by omega⟩ h
  · refine q_eq h ?_
    simp (disch := (first | omega | (unfold inr; omega))) only [I_lit, I_nI, I_neg, I_add, I_sub, I_mul, I_div, I_le, I_lt, I_eq, I_clamp, I_clampN, I_vin]
theorem sp_mmin {s : St} {k : Kv} (hr : RM s 83 k) {y : Nat} (hy : (y : Int) < k 9 0) (hy12 : y < 12) (hc : CY k y) (back : Bool) {bk : Int32} (hbk : bk = bi back) {Q : Int32 → Prop} (h : Q (I (minZ (k 0 y) (k 1 y) back))) : vc_Mod_minutesOf (I y) bk s Q := by
  obtain ⟨h1, h2, h3, h4, h5, h6⟩ := hc
  subst hbk
  have e : ∀ w : Nat, (6 : Int32) + 3 * I y + I (w : Int) = I ((6 + 3 * y + w : Nat) : Int) := by
    intro w
    simp (disch := (first | omega | (unfold inr; omega))) only [I_lit, I_nI, I_neg, I_add, I_sub, I_mul, I_div, I_le, I_lt, I_eq, I_clamp, I_clampN, I_vin]
    congr 1
  have e1 := e 1
  have e0 := e 0
  rw [show I ((1 : Nat) : Int) = 1 from rfl] at e1
  rw [show I ((0 : Nat) : Int) = 0 from rfl] at e0
  unfold vc_Mod_minutesOf vc_Mod_atYard
  rw [e1, e0]
  refine ⟨I_vinN (by omega) (by decide), ?_⟩
  intro x13 hx13
  rw [I_clampN (by omega), hr.2.1 y hy 1 (by decide)] at hx13
  subst hx13
  refine ⟨I_vinN (by omega) (by decide), ?_⟩
  rw [I_clampN (by omega), hr.2.1 y hy 0 (by decide)]
  unfold minZ at h
  rcases (show k 0 y = 0 ∨ k 0 y = 1 ∨ k 0 y = 2 ∨ k 0 y = 3 ∨ k 0 y = 4 ∨ k 0 y = 5 ∨ k 0 y = 6 ∨ k 0 y = 7 by omega) with e | e | e | e | e | e | e | e
  all_goals rw [e]
  all_goals simp only [I0, I1, I2, I3, I4, I5, I6, I7]
  all_goals simp [e] at h
  all_goals simp [jp, jt]
  · exact h
  · exact h
  · refine q_eq h ?_
    simp (disch := (first | omega | (unfold inr; omega))) only [I_lit, I_nI, I_neg, I_add, I_sub, I_mul, I_div, I_le, I_lt, I_eq, I_clamp, I_clampN, I_vin]
  · refine q_eq h ?_
    simp (disch := (first | omega | (unfold inr; omega))) only [I_lit, I_nI, I_neg, I_add, I_sub, I_mul, I_div, I_le, I_lt, I_eq, I_clamp, I_clampN, I_vin]
  · cases back
    · exact ⟨fun _ => h, fun z => absurd rfl z⟩
    · exact ⟨fun z => absurd z (by decide), fun _ => h⟩
  · exact h
  · refine q_eq h ?_
    simp (disch := (first | omega | (unfold inr; omega))) only [I_lit, I_nI, I_neg, I_add, I_sub, I_mul, I_div, I_le, I_lt, I_eq, I_clamp, I_clampN, I_vin]
  · exact h
theorem sp_feet {p : Int} (hp : 0 ≤ p ∧ p ≤ 3) {Q : Bool → Prop} (h : Q (decide (2 ≤ p))) : vc_Mod_isFeetFirst (I p) Q := by
  unfold vc_Mod_isFeetFirst
  simp (disch := (first | omega | (unfold inr; omega))) only [I_lit, I_nI, I_neg, I_add, I_sub, I_mul, I_div, I_le, I_lt, I_eq, I_clamp, I_clampN, I_vin]
  refine ⟨fun c => q_eq h (by simp; omega), fun c => q_eq h (by simp; omega)⟩
theorem sp_msize {s : St} {k : Kv} (hr : RM s 83 k) {b y : Nat} (hb : (b : Int) < k 9 1) (hb6 : b < 6) (hy : (y : Int) < k 9 0) (hy12 : y < 12) (hcy : CY k y) (hcb : CB k b) {po : Int} (hp : 0 ≤ po ∧ po ≤ 3) (out : Bool) {o : Int32} (ho : o = bi out) {Q : Int32 → Prop} (h : Q (I (sizeZ k b y po out))) : vc_Mod_sizeOf (I b) (I y) (I po) o s Q := by
  subst ho
  obtain ⟨h1, h2, -⟩ := hcy
  obtain ⟨c1, c2, c3, c4, c5, c6, -⟩ := hcb
  have e0 : (6 : Int32) + 3 * I y + 0 = I ((6 + 3 * y + 0 : Nat) : Int) := by
    simp (disch := (first | omega | (unfold inr; omega))) only [I_lit, I_nI, I_neg, I_add, I_sub, I_mul, I_div, I_le, I_lt, I_eq, I_clamp, I_clampN, I_vin]
    congr 1
  have ha := arm_in po
  have hm := more_in (k 0 y) (decide (2 ≤ po))
  unfold vc_Mod_sizeOf vc_Mod_atYard
  rw [e0]
  refine ⟨I_vinN (by omega) (by decide), ?_⟩
  intro x13 hx13
  rw [I_clampN (by omega), hr.2.1 y hy 0 (by decide)] at hx13
  subst hx13
  refine ⟨fun x => x = I (moreZ (k 0 y) (decide (2 ≤ po))), ?_, ?_⟩
  · rintro x14 rfl
    refine sp_of hr hb hb6 (w := 0) (by decide) rfl ?_
    refine ⟨fun x => x = I (if out then k 4 b else 0), ?_, ?_, ?_⟩
    · rintro x18 rfl
      refine sp_of hr hb hb6 (w := 2) (by decide) rfl ?_
      refine ⟨fun x => x = I (armZ po), ?_, ?_, ?_⟩
      · rintro x22 rfl
        refine q_eq h ?_
        unfold sizeZ bulkZ
        have ho4 : 0 ≤ (if out then k 4 b else 0) ∧ (if out then k 4 b else 0) ≤ 9 := by split <;> omega
        simp only [Nat.reduceAdd, Nat.add_zero]
        simp (disch := (first | omega | (unfold inr; omega))) only [I_lit, I_nI, I_neg, I_add, I_sub, I_mul, I_div, I_le, I_lt, I_eq, I_clamp, I_clampN, I_vin]
      · intro c
        unfold armZ
        rw [if_neg]
        · rfl
        · intro z
          apply c
          simp (disch := (first | omega | (unfold inr; omega))) only [I_lit, I_nI, I_neg, I_add, I_sub, I_mul, I_div, I_le, I_lt, I_eq, I_clamp, I_clampN, I_vin]
          omega
      · intro c
        unfold armZ
        rw [if_pos]
        · rfl
        · revert c
          simp (disch := (first | omega | (unfold inr; omega))) only [I_lit, I_nI, I_neg, I_add, I_sub, I_mul, I_div, I_le, I_lt, I_eq, I_clamp, I_clampN, I_vin]
          omega
    · intro c
      rw [bi_f] at c
      subst c
      rfl
    · intro c
      rw [bi_f] at c
      have c : out = true := by simpa using c
      subst c
      exact sp_of hr hb hb6 (w := 1) (by decide) rfl rfl
  · unfold moreZ
    refine ⟨¬ k 0 y = 3 ∨ 2 ≤ po, ?_, ?_, ?_⟩
    · intro hj
      refine ⟨¬ (k 0 y = 4 ∧ 2 ≤ po), ?_, ?_, ?_⟩
      · intro hj2
        show (0 : Int32) = _
        rw [← I0]
        congr 1
        rcases hj with z | z
        · rw [if_neg z]
          by_cases z4 : k 0 y = 4
          · rw [if_pos z4, if_neg (by simp; omega)]
          · rw [if_neg z4]
        · by_cases z3 : k 0 y = 3
          · rw [if_pos z3, if_pos (by simpa using z)]
          · rw [if_neg z3]
            by_cases z4 : k 0 y = 4
            · exact absurd ⟨z4, z⟩ hj2
            · rw [if_neg z4]
      · simp (disch := (first | omega | (unfold inr; omega))) only [I_lit, I_nI, I_neg, I_add, I_sub, I_mul, I_div, I_le, I_lt, I_eq, I_clamp, I_clampN, I_vin]
        omega
      · intro c
        have c : k 0 y = 4 := by
          revert c
          simp (disch := (first | omega | (unfold inr; omega))) only [I_lit, I_nI, I_neg, I_add, I_sub, I_mul, I_div, I_le, I_lt, I_eq, I_clamp, I_clampN, I_vin]
          exact id
        refine sp_feet hp ?_
        rw [bi_f]
        refine ⟨fun z => by simp at z; omega, fun z => ?_⟩
        have z : 2 ≤ po := by simpa using z
        show (1 : Int32) = _
        rw [if_neg (by omega), if_pos c, if_pos (by simpa using z)]
        rfl
    · simp (disch := (first | omega | (unfold inr; omega))) only [I_lit, I_nI, I_neg, I_add, I_sub, I_mul, I_div, I_le, I_lt, I_eq, I_clamp, I_clampN, I_vin]
      exact Or.inl
    · intro c
      have c : k 0 y = 3 := by
        revert c
        simp (disch := (first | omega | (unfold inr; omega))) only [I_lit, I_nI, I_neg, I_add, I_sub, I_mul, I_div, I_le, I_lt, I_eq, I_clamp, I_clampN, I_vin]
        exact id
      refine sp_feet hp ?_
      rw [bi_f]
      refine ⟨fun z => Or.inr (by simpa using z), fun z => ?_⟩
      have z : ¬ 2 ≤ po := by simpa using z
      show (2 : Int32) = _
      rw [if_pos c, if_neg (by simpa using z)]
      rfl
theorem sp_msizeNow {s : St} {k : Kv} (hr : RM s 83 k) {b y : Nat} (hb : (b : Int) < k 9 1) (hb6 : b < 6) (hy : (y : Int) < k 9 0) (hy12 : y < 12) (hcy : CY k y) (hcb : CB k b) (out : Bool) {o : Int32} (ho : o = bi out) {Q : Int32 → Prop} (h : Q (I (sizeZ k b y (k 7 b) out))) : vc_Mod_sizeNow (I b) (I y) o s Q := by
  unfold vc_Mod_sizeNow
  refine sp_of hr hb hb6 (w := 4) (by decide) rfl ?_
  have hp : 0 ≤ k 7 b ∧ k 7 b ≤ 3 := by obtain ⟨-, -, -, -, -, -, -, -, h1, h2⟩ := hcb; exact ⟨h1, h2⟩
  exact sp_msize hr hb hb6 hy hy12 hcy hcb hp out ho h
theorem size_io (k : Kv) (b y : Nat) (p : Int) : sizeZ k b y p false = sizeZ k b y p true + k 4 b := by
  unfold sizeZ bulkZ
  simp
  omega
theorem sp_mfits {s : St} {k : Kv} (hr : RM s 83 k) {b y : Nat} (hb : (b : Int) < k 9 1) (hb6 : b < 6) (hy : (y : Int) < k 9 0) (hy12 : y < 12) (hcy : CY k y) (hcb : CB k b) (hri : 0 ≤ k 9 3 ∧ k 9 3 ≤ 9) {t : Int} (ht : 0 ≤ t ∧ t ≤ 20000) {Q : Int32 → Prop} (h : Q (I (fitH k b y t))) : vc_Mod_fitsIn (I b) (I y) (I t) s Q := by
  have hm1 := Int.mul_nonneg ht.1 hri.1
  have hri2 := room_in hcy hm1
  have hs1 := size_in hcb y (k 7 b) true
  have hs2 := size_in hcb y (k 7 b) false
  have hio := size_io k b y (k 7 b)
  obtain ⟨c1, c2, c3, c4, -⟩ := id hcb
  unfold vc_Mod_fitsIn
  refine sp_msizeNow hr hb hb6 hy hy12 hcy hcb false rfl ?_
  refine sp_mroom hr hy hy12 hcy hri ht ?_
  unfold fitH lackH at h
  constructor
  · intro c
    have c : roomZ k y (t * k 9 3) < sizeZ k b y (k 7 b) false := by
      revert c
      simp (disch := (first | omega | (unfold inr; omega))) only [I_lit, I_nI, I_neg, I_add, I_sub, I_mul, I_div, I_le, I_lt, I_eq, I_clamp, I_clampN, I_vin]
      exact id
    refine sp_msizeNow hr hb hb6 hy hy12 hcy hcb true rfl ?_
    refine sp_mroom hr hy hy12 hcy hri ht ?_
    constructor
    · intro d
      have d : roomZ k y (t * k 9 3) < sizeZ k b y (k 7 b) true := by
        revert d
        simp (disch := (first | omega | (unfold inr; omega))) only [I_lit, I_nI, I_neg, I_add, I_sub, I_mul, I_div, I_le, I_lt, I_eq, I_clamp, I_clampN, I_vin]
        exact id
      rw [if_pos (by omega)] at h
      exact h
    · intro d
      have d : ¬ roomZ k y (t * k 9 3) < sizeZ k b y (k 7 b) true := by
        revert d
        simp (disch := (first | omega | (unfold inr; omega))) only [I_lit, I_nI, I_neg, I_add, I_sub, I_mul, I_div, I_le, I_lt, I_eq, I_clamp, I_clampN, I_vin]
        exact id
      rw [if_neg (by omega), if_pos (by omega)] at h
      exact h
  · intro c
    have c : ¬ roomZ k y (t * k 9 3) < sizeZ k b y (k 7 b) false := by
      revert c
      simp (disch := (first | omega | (unfold inr; omega))) only [I_lit, I_nI, I_neg, I_add, I_sub, I_mul, I_div, I_le, I_lt, I_eq, I_clamp, I_clampN, I_vin]
      exact id
    rw [if_neg (by omega), if_neg (by omega)] at h
    exact h
