/-! THE TEXT OF A CAVE -/
theorem and255 : ∀ n : Nat, n < 256 → I ((n : Int) - 128) &&& 255 = I (if n < 128 then (n : Int) + 128 else (n : Int) - 128) := by decide +kernel
/-- how many digits stand behind a letter -/
def digs (c : Int) : Nat := if c = 98 then 5 else if c = 99 then 2 else if c = 108 then 3 else if c = 112 then 2 else if c = 114 then 1 else if c = 116 then 2 else if c = 120 then 2 else if c = 121 then 4 else 0
/-- a text: its bytes, its length -/
def TX (s : St) (d : Nat) (z : Nat → Int) (l : Nat) : Prop := l ≤ 100 ∧ (∀ j, j < 100 → -128 ≤ z j ∧ z j ≤ 127) ∧ (s (66 + 2 * d) 4 = I (l : Nat) ∧ ∀ j, j < 100 → s (67 + 2 * d) j = I (z j)) ∧ (s 96 d = I (l : Nat) ∧ ∀ j, j < 100 → s 97 (100 * d + j) = I (z j))
def badD (z : Nat → Int) (l a i : Nat) : Prop := ¬ (a + 1 + i < l ∧ 48 ≤ z (a + 1 + i) ∧ z (a + 1 + i) ≤ 57)
/-- the STATEMENT at place a: where it ends; where it is broken -/
noncomputable def brk (z : Nat → Int) (l a : Nat) : Nat × Bool := by
  classical exact if ¬ a < l ∨ digs (z a) = 0 then (a, false) else if fst1 (badD z l a) (digs (z a)) < digs (z a) then (a + 1 + fst1 (badD z l a) (digs (z a)), false) else if a + 1 + digs (z a) < l ∧ z (a + 1 + digs (z a)) = 59 then (a + 2 + digs (z a), true) else (a + 1 + digs (z a), false)
theorem brk_0 {z : Nat → Int} {l a : Nat} (h : ¬ a < l ∨ digs (z a) = 0) : brk z l a = (a, false) := by
  unfold brk
  rw [if_pos h]
theorem brk_1 {z : Nat → Int} {l a r : Nat} (h1 : a < l) (h2 : r < digs (z a)) (h3 : ∀ i, i < r → ¬ badD z l a i) (h4 : badD z l a r) : brk z l a = (a + 1 + r, false) := by
  have e : r = fst1 (badD z l a) (digs (z a)) := FU_uni ⟨by omega, h3, fun _ => h4⟩
  unfold brk
  rw [if_neg (by omega), ← e, if_pos h2]
theorem brk_2 {z : Nat → Int} {l a : Nat} (h1 : a < l) (h2 : digs (z a) ≠ 0) (h3 : ∀ i, i < digs (z a) → ¬ badD z l a i) : brk z l a = if a + 1 + digs (z a) < l ∧ z (a + 1 + digs (z a)) = 59 then (a + 2 + digs (z a), true) else (a + 1 + digs (z a), false) := by
  have e : digs (z a) = fst1 (badD z l a) (digs (z a)) := FU_uni ⟨Nat.le_refl _, h3, fun h => absurd h (Nat.lt_irrefl _)⟩
  unfold brk
  rw [if_neg (by omega), ← e, if_neg (Nat.lt_irrefl _)]
theorem brk_t {z : Nat → Int} {l a : Nat} (h : (brk z l a).2 = true) : a < l ∧ digs (z a) ≠ 0 ∧ (∀ i, i < digs (z a) → ¬ badD z l a i) ∧ a + 1 + digs (z a) < l ∧ z (a + 1 + digs (z a)) = 59 ∧ (brk z l a).1 = a + 2 + digs (z a) := by
  by_cases c : ¬ a < l ∨ digs (z a) = 0
  · rw [brk_0 c] at h
    cases h
  · obtain ⟨f1, f2, f3⟩ : FU (badD z l a) (digs (z a)) (fst1 (badD z l a) (digs (z a))) := Classical.choose_spec (FU_ex (badD z l a) (digs (z a)))
    by_cases c2 : fst1 (badD z l a) (digs (z a)) < digs (z a)
    · rw [brk_1 (by omega) c2 f2 (f3 c2)] at h
      cases h
    · have e : fst1 (badD z l a) (digs (z a)) = digs (z a) := by omega
      rw [e] at f2
      rw [brk_2 (by omega) (by omega) f2] at h ⊢
      by_cases c3 : a + 1 + digs (z a) < l ∧ z (a + 1 + digs (z a)) = 59
      · rw [if_pos c3]
        exact ⟨by omega, by omega, f2, c3.1, c3.2, rfl⟩
      · rw [if_neg c3] at h
        cases h
def numF (z : Nat → Int) (a : Nat) : Nat → Int
  | 0 => 0
  | i + 1 => 10 * numF z a i + z (a + i) - 48
theorem numF_s (z : Nat → Int) (a i : Nat) : numF z a (i + 1) = 10 * numF z a i + z (a + i) - 48 := rfl
theorem digs_of (c : Int) : digs c = 0 ∨ c = 98 ∨ c = 99 ∨ c = 108 ∨ c = 112 ∨ c = 114 ∨ c = 116 ∨ c = 120 ∨ c = 121 := by
  unfold digs
  repeat' split
  all_goals omega
theorem digs_le (c : Int) : digs c ≤ 5 := by
  unfold digs
  repeat' split
  all_goals omega
-- the class
theorem sp_digs {c : Int} (hc : -128 ≤ c ∧ c ≤ 127) {Q : Int32 → Prop} (h : Q (I (digs c : Nat))) : vc_Tex_digitsBehind (I c) Q := by
  have e : ∀ n : Nat, n < 128 → ((I c = I (n : Nat)) ↔ c = (n : Nat)) := fun n hn => I_eq ⟨by omega, by omega⟩ ⟨by omega, by omega⟩
  unfold vc_Tex_digitsBehind
  rw [show (I c = 98) ↔ c = 98 from e 98 (by decide), show (I c = 99) ↔ c = 99 from e 99 (by decide), show (I c = 108) ↔ c = 108 from e 108 (by decide), show (I c = 112) ↔ c = 112 from e 112 (by decide), show (I c = 114) ↔ c = 114 from e 114 (by decide), show (I c = 116) ↔ c = 116 from e 116 (by decide), show (I c = 120) ↔ c = 120 from e 120 (by decide), show (I c = 121) ↔ c = 121 from e 121 (by decide)]
  unfold digs at h
  refine ⟨fun q => ?_, fun q1 => ⟨fun q => ?_, fun q2 => ⟨fun q => ?_, fun q3 => ⟨fun q => ?_, fun q4 => ⟨fun q => ?_, fun q5 => ⟨fun q => ?_, fun q6 => ⟨fun q => ?_, fun q7 => ⟨fun q => ?_, fun q8 => ?_⟩⟩⟩⟩⟩⟩⟩⟩
  · rw [if_pos q] at h; exact h
  · rw [if_neg q1, if_pos q] at h; exact h
  · rw [if_neg q1, if_neg q2, if_pos q] at h; exact h
  · rw [if_neg q1, if_neg q2, if_neg q3, if_pos q] at h; exact h
  · rw [if_neg q1, if_neg q2, if_neg q3, if_neg q4, if_pos q] at h; exact h
  · rw [if_neg q1, if_neg q2, if_neg q3, if_neg q4, if_neg q5, if_pos q] at h; exact h
  · rw [if_neg q1, if_neg q2, if_neg q3, if_neg q4, if_neg q5, if_neg q6, if_pos q] at h; exact h
  · rw [if_neg q1, if_neg q2, if_neg q3, if_neg q4, if_neg q5, if_neg q6, if_neg q7, if_pos q] at h; exact h
  · rw [if_neg q1, if_neg q2, if_neg q3, if_neg q4, if_neg q5, if_neg q6, if_neg q7, if_neg q8] at h; exact h
theorem sp_number {s : St} {d : Nat} {z : Nat → Int} {l : Nat} (ht : TX s d z l) {a n : Nat} (h : a + n ≤ l) {x y : Int32} (hx : x = I (a : Nat)) (hy : y = I (n : Nat)) {Q : Int32 → Prop} (hQ : Q (I (numF z a n))) : vc_Tex_number (66 + 2 * d) x y s Q := by
  subst hx hy
  obtain ⟨h1, h2, ⟨h3, h4⟩, -⟩ := ht
  unfold vc_Tex_number
  refine ⟨fun N u t => ∃ i : Nat, t = I ((a + i : Nat) : Int) ∧ i ≤ n ∧ N = n - i ∧ u = I (numF z a i), ⟨_, 0, rfl, by omega, rfl, rfl⟩, ?_⟩
  rintro N u t ⟨i, rfl, hi, hN, rfl⟩
  have e1 : I (a : Int) + I (n : Int) = I ((a + n : Nat) : Int) := by
    simp (disch := (first | omega | (unfold inr; omega))) only [I_lit, I_nI, I_neg, I_add, I_sub, I_mul, I_div, I_le, I_lt, I_eq, I_clamp, I_clampN, I_vin]
    congr 1
  rw [e1, h3]
  constructor
  · intro q
    have q : i = n := by
      revert q
      simp (disch := (first | omega | (unfold inr; omega))) only [I_lit, I_nI, I_neg, I_add, I_sub, I_mul, I_div, I_le, I_lt, I_eq, I_clamp, I_clampN, I_vin]
      omega
    subst q
    exact hQ
  · intro q
    have q : i < n := by
      revert q
      simp (disch := (first | omega | (unfold inr; omega))) only [I_lit, I_nI, I_neg, I_add, I_sub, I_mul, I_div, I_le, I_lt, I_eq, I_clamp, I_clampN, I_vin]
      omega
    refine ⟨fun q2 => ?_, fun q2 => ⟨I_vinN (by omega) (by decide), ?_⟩⟩
    · exfalso
      revert q2
      simp (disch := (first | omega | (unfold inr; omega))) only [I_lit, I_nI, I_neg, I_add, I_sub, I_mul, I_div, I_le, I_lt, I_eq, I_clamp, I_clampN, I_vin]
      omega
    · intro x17 h17 x18 h18
      rw [I_clampN (by omega), show 66 + 2 * d + 1 = 67 + 2 * d by omega, h4 _ (by omega)] at h17
      refine ⟨n - (i + 1), by omega, i + 1, ?_, by omega, rfl, ?_⟩
      · rw [h18]
        simp (disch := (first | omega | (unfold inr; omega))) only [I_lit, I_nI, I_neg, I_add, I_sub, I_mul, I_div, I_le, I_lt, I_eq, I_clamp, I_clampN, I_vin]
        congr 1
      · rw [h17, show (10 : Int32) = I 10 from rfl, show (48 : Int32) = I 48 from rfl, I_mul, I_add, I_sub, numF_s, Int.mul_comm]
/-- the places at which STATEMENTS begin -/
def posF (z : Nat → Int) : Nat → Nat
  | 0 => 0
  | i + 1 => posF z i + 2 + digs (z (posF z i))
theorem posF_s (z : Nat → Int) (i : Nat) : posF z (i + 1) = posF z i + 2 + digs (z (posF z i)) := rfl
theorem posF_le (z : Nat → Int) : ∀ i, 2 * i ≤ posF z i := by
  intro i
  induction i with
  | zero => exact Nat.le_refl 0
  | succ i ih => rw [posF_s]; omega
/-- the scan ends with STATEMENT i -/
def stopS (z : Nat → Int) (l i : Nat) : Prop := (brk z l (posF z i)).2 = false ∨ l ≤ posF z (i + 1)
noncomputable def lastS (z : Nat → Int) (l : Nat) : Nat := fst1 (stopS z l) 101
theorem lastS_of {z : Nat → Int} {l : Nat} (hl : l ≤ 100) : (∀ j, j < lastS z l → ¬ stopS z l j) ∧ stopS z l (lastS z l) ∧ lastS z l < 101 := by
  obtain ⟨f1, f2, f3⟩ : FU (stopS z l) 101 (fst1 (stopS z l) 101) := Classical.choose_spec (FU_ex (stopS z l) 101)
  have h50 : stopS z l 50 := by
    refine Or.inl ?_
    have := posF_le z 50
    rw [brk_0 (Or.inl (by omega))]
  have hlt : fst1 (stopS z l) 101 ≤ 50 := Nat.le_of_not_lt (fun h => f2 50 h h50)
  exact ⟨f2, f3 (by omega), by show fst1 (stopS z l) 101 < 101; omega⟩
theorem go_on {z : Nat → Int} {l i : Nat} (h : ¬ stopS z l i) : (brk z l (posF z i)).2 = true ∧ posF z (i + 1) < l := by
  unfold stopS at h
  constructor
  · cases e : (brk z l (posF z i)).2 with
    | true => rfl
    | false => exact absurd (Or.inl e) h
  · omega
theorem c_broken {s : St} {d : Nat} {z : Nat → Int} {l : Nat} (ht : TX s d z l) {Q : Int32 → Prop} (h1 : (brk z l (posF z (lastS z l))).2 = true → Q (-1)) (h2 : (brk z l (posF z (lastS z l))).2 = false → Q (I ((brk z l (posF z (lastS z l))).1 : Nat))) : vc_Tex_brokenAt (66 + 2 * d) s Q := by
  have ht2 := ht
  obtain ⟨l1, l2, ⟨l3, l4⟩, -⟩ := ht2
  obtain ⟨s1, s2, s3⟩ := lastS_of (z := z) l1
  unfold vc_Tex_brokenAt
  rw [l3, show (I (l : Int) = 0) ↔ l = 0 from by
    simp (disch := (first | omega | (unfold inr; omega))) only [I_lit, I_nI, I_neg, I_add, I_sub, I_mul, I_div, I_le, I_lt, I_eq, I_clamp, I_clampN, I_vin]
    omega]
  constructor
  · intro hl0
    refine ⟨fun N t => ∃ i : Nat, t = I (posF z i : Nat) ∧ N = 101 - i ∧ i ≤ lastS z l + 1 ∧ posF z i ≤ l ∧ ((i ≤ lastS z l ∧ posF z i < l) ∨ (i = lastS z l + 1 ∧ (brk z l (posF z (lastS z l))).2 = true ∧ l ≤ posF z i)), ⟨_, 0, rfl, rfl, Nat.zero_le _, Nat.zero_le _, Or.inl ⟨Nat.zero_le _, by show 0 < l; omega⟩⟩, ?_⟩
    rintro N t ⟨i, rfl, hN, hi, hpl, hc⟩
    constructor
    · intro q
      have q : l ≤ posF z i := by
        revert q
        simp (disch := (first | omega | (unfold inr; omega))) only [I_lit, I_nI, I_neg, I_add, I_sub, I_mul, I_div, I_le, I_lt, I_eq, I_clamp, I_clampN, I_vin]
        omega
      rcases hc with ⟨_, c2⟩ | ⟨_, c2, _⟩
      · omega
      · exact h1 c2
    · intro q
      have q : posF z i < l := by
        revert q
        simp (disch := (first | omega | (unfold inr; omega))) only [I_lit, I_nI, I_neg, I_add, I_sub, I_mul, I_div, I_le, I_lt, I_eq, I_clamp, I_clampN, I_vin]
        omega
      have hil : i ≤ lastS z l := by
        rcases hc with ⟨c1, _⟩ | ⟨_, _, c2⟩ <;> omega
      have ez : ∀ j, j < 100 → s (66 + 2 * d + 1) j = I (z j) := fun j hj => by rw [show 66 + 2 * d + 1 = 67 + 2 * d by omega]; exact l4 j hj
      generalize ea : posF z i = a at q hpl
      have hza := l2 a (by omega)
      have hD := digs_le (z a)
      have bad : ∀ r, (brk z l a) = (r, false) → Q (I (r : Nat)) := by
        intro r hr
        have e : i = lastS z l := by
          rcases Nat.lt_or_ge i (lastS z l) with w | w
          · have := (go_on (s1 i w)).1
            rw [ea, hr] at this
            cases this
          · omega
        have := h2 (by rw [← e, ea, hr])
        rw [← e, ea, hr] at this
        exact this
      rw [I_clampN (by omega), ez a (by omega)]
      refine ⟨I_vinN (by omega) (by decide), sp_digs hza ?_⟩
      rw [show (I ((digs (z a) : Nat) : Int) = 0) ↔ digs (z a) = 0 from by
        simp (disch := (first | omega | (unfold inr; omega))) only [I_lit, I_nI, I_neg, I_add, I_sub, I_mul, I_div, I_le, I_lt, I_eq, I_clamp, I_clampN, I_vin]
        omega]
      refine ⟨fun c => ?_, fun c => bad a (brk_0 (Or.inr c))⟩
      intro x19 h19 x20 h20
      have e19 : x19 = I ((a + 1 + digs (z a) : Nat) : Int) := by
        rw [h19]
        simp (disch := (first | omega | (unfold inr; omega))) only [I_lit, I_nI, I_neg, I_add, I_sub, I_mul, I_div, I_le, I_lt, I_eq, I_clamp, I_clampN, I_vin]
        congr 1
      have e20 : x20 = I ((a + 1 + 0 : Nat) : Int) := by
        rw [h20]
        simp (disch := (first | omega | (unfold inr; omega))) only [I_lit, I_nI, I_neg, I_add, I_sub, I_mul, I_div, I_le, I_lt, I_eq, I_clamp, I_clampN, I_vin]
        congr 1
      subst e19 e20
      refine ⟨fun N t => ∃ m : Nat, t = I ((a + 1 + m : Nat) : Int) ∧ m ≤ digs (z a) ∧ N = digs (z a) - m ∧ ∀ j, j < m → ¬ badD z l a j, ⟨_, 0, rfl, Nat.zero_le _, rfl, fun j hj => absurd hj (Nat.not_lt_zero j)⟩, ?_⟩
      rintro N2 t ⟨m, rfl, hm, hN2, hg⟩
      rw [show (I (l : Int) ≤ I ((a + 1 + m : Nat) : Int)) ↔ l ≤ a + 1 + m from by
        simp (disch := (first | omega | (unfold inr; omega))) only [I_lit, I_nI, I_neg, I_add, I_sub, I_mul, I_div, I_le, I_lt, I_eq, I_clamp, I_clampN, I_vin]
        omega]
      constructor
      · intro c2
        have c2 : m = digs (z a) := by
          revert c2
          simp (disch := (first | omega | (unfold inr; omega))) only [I_lit, I_nI, I_neg, I_add, I_sub, I_mul, I_div, I_le, I_lt, I_eq, I_clamp, I_clampN, I_vin]
          omega
        subst c2
        have hb := brk_2 q c hg
        refine ⟨fun c3 => bad _ (by rw [hb, if_neg (by omega)]), fun c3 => ⟨I_vinN (by omega) (by decide), ?_⟩⟩
        have hz2 := l2 (a + 1 + digs (z a)) (by omega)
        rw [I_clampN (by omega), ez _ (by omega), show (I (z (a + 1 + digs (z a))) = 59) ↔ z (a + 1 + digs (z a)) = 59 from by simp (disch := (first | omega | (unfold inr; omega))) only [I_lit, I_nI, I_neg, I_add, I_sub, I_mul, I_div, I_le, I_lt, I_eq, I_clamp, I_clampN, I_vin]]
        refine ⟨fun c4 => ?_, fun c4 => bad _ (by rw [hb, if_neg (by omega)])⟩
        rw [if_pos ⟨by omega, c4⟩] at hb
        intro x28 h28
        have ep : posF z (i + 1) = a + 2 + digs (z a) := by rw [posF_s, ea]
        refine ⟨101 - (i + 1), by omega, i + 1, ?_, rfl, by omega, by omega, ?_⟩
        · rw [h28, ep]
          simp (disch := (first | omega | (unfold inr; omega))) only [I_lit, I_nI, I_neg, I_add, I_sub, I_mul, I_div, I_le, I_lt, I_eq, I_clamp, I_clampN, I_vin]
          congr 1
          omega
        · rcases Nat.lt_or_ge i (lastS z l) with w | w
          · exact Or.inl ⟨w, (go_on (s1 i w)).2⟩
          · have e : i = lastS z l := by omega
            refine Or.inr ⟨by omega, by rw [← e, ea, hb], ?_⟩
            rcases s2 with u | u
            · rw [← e, ea, hb] at u
              cases u
            · rw [e]
              exact u
      · intro c2
        have c2 : m < digs (z a) := by
          revert c2
          simp (disch := (first | omega | (unfold inr; omega))) only [I_lit, I_nI, I_neg, I_add, I_sub, I_mul, I_div, I_le, I_lt, I_eq, I_clamp, I_clampN, I_vin]
          omega
        refine ⟨fun c3 => bad _ (brk_1 q c2 hg (fun w => by omega)), fun c3 => ⟨I_vinN (by omega) (by decide), ?_⟩⟩
        have hz2 := l2 (a + 1 + m) (by omega)
        rw [I_clampN (by omega), ez _ (by omega), show vc_Brt_within (I (z (a + 1 + m))) 48 57 = vc_Brt_within (I (z (a + 1 + m))) (I 48) (I 57) from rfl]
        refine sp_within ⟨by omega, by omega⟩ ⟨by decide, by decide⟩ ⟨by decide, by decide⟩ ?_
        rw [bi_f]
        refine ⟨fun c4 => ?_, fun c4 => bad _ (brk_1 q c2 hg (fun w => (of_decide_eq_false c4) w.2))⟩
        have c4 : 48 ≤ z (a + 1 + m) ∧ z (a + 1 + m) ≤ 57 := by simpa using c4
        intro x35 h35
        refine ⟨digs (z a) - (m + 1), by omega, m + 1, ?_, by omega, rfl, fun j hj => ?_⟩
        · rw [h35]
          simp (disch := (first | omega | (unfold inr; omega))) only [I_lit, I_nI, I_neg, I_add, I_sub, I_mul, I_div, I_le, I_lt, I_eq, I_clamp, I_clampN, I_vin]
          congr 1
        · by_cases e : j = m
          · rw [e]
            exact fun w => w ⟨by omega, c4⟩
          · exact hg j (by omega)
  · intro c
    have hb : brk z l (posF z 0) = (0, false) := brk_0 (Or.inl (by omega))
    have e : lastS z l = 0 := by
      rcases Nat.eq_zero_or_pos (lastS z l) with w | w
      · exact w
      · exact absurd (Or.inl (by rw [hb])) (s1 0 w)
    have := h2 (by rw [e, hb])
    rw [e, hb] at this
    exact this
