/-! WHAT CHANGES A CAVE: the class -/
theorem RC_sc {s : St} {c : Nat} {k : Kv} (h : RC s c k) {i j : Nat} (hij : (i = 2 ∧ j = 5) ∨ (i = 3 ∧ j = 2) ∨ (i = 4 ∧ j = 3) ∨ (i = 5 ∧ j = 4)) {v : Int} : RC (wr s c j (I v)) c (ku k 9 i v) := by
  obtain ⟨⟨r1, r2, r3, r4, r5, r6⟩, hy, hb⟩ := h
  have at9 : ∀ i' j', ((i' = 2 ∧ j' = 5) ∨ (i' = 3 ∧ j' = 2) ∨ (i' = 4 ∧ j' = 3) ∨ (i' = 5 ∧ j' = 4)) → s c j' = I (k 9 i') → wr s c j (I v) c j' = I (ku k 9 i v 9 i') := by
    intro i' j' h1 h2
    by_cases e : i' = i
    · subst e
      have : j' = j := by omega
      subst this
      rw [wr_at, ku_at]
    · rw [ku_ne (Or.inr e), ← h2]
      have : j' ≠ j := by omega
      simp [wr, this]
  have lo : ∀ a b, a ≤ 8 → ku k 9 i v a b = k a b := fun a b ha => ku_ne (by omega)
  have n0 : ku k 9 i v 9 0 = k 9 0 := ku_ne (by omega)
  have n1 : ku k 9 i v 9 1 = k 9 1 := ku_ne (by omega)
  refine ⟨⟨?_, ?_, at9 2 5 (by omega) r3, at9 3 2 (by omega) r4, at9 4 3 (by omega) r5, at9 5 4 (by omega) r6⟩, fun y hyy => ?_, fun b hbb => ?_⟩
  · rw [n0, wr_ne (by omega)]; exact r1
  · rw [n1, wr_ne (by omega)]; exact r2
  · rw [n0] at hyy
    rw [lo 0 y (by decide), lo 1 y (by decide), lo 2 y (by decide)]
    simp (disch := omega) only [wr_ne]
    exact hy y hyy
  · rw [n1] at hbb
    rw [lo 3 b (by decide), lo 4 b (by decide), lo 5 b (by decide), lo 6 b (by decide), lo 7 b (by decide), lo 8 b (by decide)]
    simp (disch := omega) only [wr_ne]
    exact hb b hbb
theorem CC_sc {k : Kv} (h : CC k) {i : Nat} {v : Int} (hv : (i = 2 ∧ 0 ≤ v ∧ v ≤ 9999) ∨ (i = 3 ∧ 0 ≤ v ∧ v ≤ 9) ∨ (i = 4 ∧ 1 ≤ v ∧ v ≤ 60) ∨ (i = 5 ∧ 0 ≤ v ∧ v ≤ 999)) : CC (ku k 9 i v) := by
  obtain ⟨⟨h1, h2, h3, h4⟩, h5, h6, h7, h8⟩ := h
  have lo : ∀ a b, a ≤ 8 → ku k 9 i v a b = k a b := fun a b ha => ku_ne (by omega)
  have n0 : ku k 9 i v 9 0 = k 9 0 := ku_ne (by omega)
  have n1 : ku k 9 i v 9 1 = k 9 1 := ku_ne (by omega)
  refine ⟨⟨?_, ?_, fun y hy => ?_, fun b hb => ?_⟩, ?_, fun j hj => ?_, fun i' j' hi hj e => ?_, fun b hb => ?_⟩
  · rw [n0, n1]; exact h1
  · unfold ku
    refine ⟨?_, ?_, ?_, ?_, ?_, ?_, ?_, ?_⟩ <;> split <;> omega
  · rw [n0] at hy
    unfold CY
    rw [lo 0 y (by decide), lo 1 y (by decide), lo 2 y (by decide)]
    exact h3 y hy
  · rw [n1] at hb
    unfold CB
    rw [lo 3 b (by decide), lo 4 b (by decide), lo 5 b (by decide), lo 6 b (by decide), lo 7 b (by decide)]
    exact h4 b hb
  · unfold ku
    split <;> omega
  · rw [n1] at hj ⊢
    rw [lo 8 j (by decide)]
    exact h6 j hj
  · rw [n1] at hi hj
    rw [lo 8 _ (by decide), lo 8 _ (by decide)] at e
    exact h7 i' j' hi hj e
  · rw [n1] at hb ⊢
    obtain ⟨j, q1, q2⟩ := h8 b hb
    exact ⟨j, q1, by rw [lo 8 _ (by decide)]; exact q2⟩
theorem CC_put {k : Kv} (h : CC k) {a b : Nat} {v : Int} (hv : (a = 3 ∧ 10 ≤ v ∧ v ≤ 50) ∨ (a = 5 ∧ 0 ≤ v ∧ v ≤ 9) ∨ (a = 7 ∧ 0 ≤ v ∧ v ≤ 3)) : CC (ku k a b v) := by
  obtain ⟨h1, h5, h6, h7, h8⟩ := h
  have n9 : ∀ i, ku k a b v 9 i = k 9 i := fun i => ku_ne (by omega)
  have o8 : ∀ i, ku k a b v 8 i = k 8 i := fun i => ku_ne (by omega)
  refine ⟨CV_put h1 hv, by rw [n9]; exact h5, fun j hj => ?_, fun i' j' hi hj e => ?_, fun b hb => ?_⟩
  · rw [n9] at hj ⊢
    rw [o8]
    exact h6 j hj
  · rw [n9] at hi hj
    rw [o8, o8] at e
    exact h7 i' j' hi hj e
  · rw [n9] at hb ⊢
    obtain ⟨j, q1, q2⟩ := h8 b hb
    exact ⟨j, q1, by rw [o8]; exact q2⟩
/-- setting w (RISE, CALM, LIGHT) may become v -/
def adjOk (w v : Int) : Prop := (w = 0 ∧ 0 ≤ v ∧ v ≤ 9) ∨ (w = 1 ∧ 1 ≤ v ∧ v ≤ 60) ∨ (w = 2 ∧ 0 ≤ v ∧ v ≤ 999)
theorem op_adjust {s : St} {c : Nat} {w v : Int} (hw : inr w) (hv : inr v) {Q : Bool → St → Prop} (hno : ¬ adjOk w v → Q false s) (hyes : adjOk w v → ∀ j : Nat, (j : Int) = 2 + w → Q true (wr s c j (I v))) : vc_Cav_adjust c (I w) (I v) s Q := by
  have e0 : (I w = 0) ↔ w = 0 := by simp (disch := (first | omega | (unfold inr; omega))) only [I_lit, I_nI, I_neg, I_add, I_sub, I_mul, I_div, I_le, I_lt, I_eq, I_clamp, I_clampN, I_vin]
  have e1 : (I w = 1) ↔ w = 1 := by simp (disch := (first | omega | (unfold inr; omega))) only [I_lit, I_nI, I_neg, I_add, I_sub, I_mul, I_div, I_le, I_lt, I_eq, I_clamp, I_clampN, I_vin]
  have e2 : (I w = 2) ↔ w = 2 := by simp (disch := (first | omega | (unfold inr; omega))) only [I_lit, I_nI, I_neg, I_add, I_sub, I_mul, I_div, I_le, I_lt, I_eq, I_clamp, I_clampN, I_vin]
  have w0 : vc_Brt_within (I v) 0 9 = vc_Brt_within (I v) (I 0) (I 9) := rfl
  have w1 : vc_Brt_within (I v) 1 60 = vc_Brt_within (I v) (I 1) (I 60) := rfl
  have w2 : vc_Brt_within (I v) 0 999 = vc_Brt_within (I v) (I 0) (I 999) := rfl
  unfold vc_Cav_adjust
  rw [e0, e1, e2, w0, w1, w2]
  have hno2 : (w = 2 → ¬ (0 ≤ v ∧ v ≤ 999)) → (w = 1 → ¬ (1 ≤ v ∧ v ≤ 60)) → (w = 0 → ¬ (0 ≤ v ∧ v ≤ 9)) → Q false s := by
    intro h1 h2 h3
    apply hno
    unfold adjOk
    rintro (q | q | q)
    · exact h3 q.1 q.2
    · exact h2 q.1 q.2
    · exact h1 q.1 q.2
  refine ⟨¬ (w = 0 ∧ 0 ≤ v ∧ v ≤ 9), fun j1 => ⟨¬ (w = 1 ∧ 1 ≤ v ∧ v ≤ 60), fun j2 => ⟨fun q => hno2 (fun z => absurd z q) (fun z z2 => j2 ⟨z, z2⟩) (fun z z2 => j1 ⟨z, z2⟩), fun q => ?_⟩, fun q => by omega, fun q => ?_⟩, fun q => by omega, fun q => ?_⟩
  · refine sp_within hv ⟨by decide, by decide⟩ ⟨by decide, by decide⟩ ?_
    rw [bi_f]
    refine ⟨fun z => ?_, fun z s16 hs => ?_⟩
    · have z := decide_eq_false_iff_not.mp z
      exact hno2 (fun _ => z) (fun q2 => by omega) (fun q2 => by omega)
    · have z : 0 ≤ v ∧ v ≤ 999 := by simpa using z
      rw [hs]
      exact hyes (Or.inr (Or.inr ⟨q, z⟩)) 4 (by omega)
  · refine sp_within hv ⟨by decide, by decide⟩ ⟨by decide, by decide⟩ ?_
    rw [bi_f]
    refine ⟨fun z => ?_, fun z s16 hs => ?_⟩
    · have z := decide_eq_false_iff_not.mp z
      exact fun q2 => z q2.2
    · have z : 1 ≤ v ∧ v ≤ 60 := by simpa using z
      rw [hs]
      exact hyes (Or.inr (Or.inl ⟨q, z⟩)) 3 (by omega)
  · refine sp_within hv ⟨by decide, by decide⟩ ⟨by decide, by decide⟩ ?_
    rw [bi_f]
    refine ⟨fun z => ?_, fun z s16 hs => ?_⟩
    · have z := decide_eq_false_iff_not.mp z
      exact fun q2 => z q2.2
    · have z : 0 ≤ v ∧ v ≤ 9 := by simpa using z
      rw [hs]
      exact hyes (Or.inl ⟨q, z⟩) 2 (by omega)
/-- FEAR, POSTURE, CHEST may become v; which of the numbers that is -/
def altOk (w v : Int) : Prop := (w = 0 ∧ 0 ≤ v ∧ v ≤ 9) ∨ (w = 1 ∧ 0 ≤ v ∧ v ≤ 3) ∨ (w = 2 ∧ 10 ≤ v ∧ v ≤ 50)
def altA (w : Int) : Nat := if w = 0 then 5 else if w = 1 then 7 else 3
theorem op_alter {s : St} {p : Nat} {n b w v : Int} (hn : 0 ≤ n ∧ n ≤ 6) (e : s p 0 = I n) (hb : inr b) (hw : inr w) (hv : inr v) {Q : Bool → St → Prop} (hno : ¬ ((0 ≤ b ∧ b < n) ∧ altOk w v) → Q false s) (hyes : ((0 ≤ b ∧ b < n) ∧ altOk w v) → Q true (wr s (p + (altA w - 2)) b.toNat (I v))) : vc_Bod_alter p (I b) (I w) (I v) s Q := by
  have e0 : (I w = 0) ↔ w = 0 := by simp (disch := (first | omega | (unfold inr; omega))) only [I_lit, I_nI, I_neg, I_add, I_sub, I_mul, I_div, I_le, I_lt, I_eq, I_clamp, I_clampN, I_vin]
  have e1 : (I w = 1) ↔ w = 1 := by simp (disch := (first | omega | (unfold inr; omega))) only [I_lit, I_nI, I_neg, I_add, I_sub, I_mul, I_div, I_le, I_lt, I_eq, I_clamp, I_clampN, I_vin]
  have e2 : (I w = 2) ↔ w = 2 := by simp (disch := (first | omega | (unfold inr; omega))) only [I_lit, I_nI, I_neg, I_add, I_sub, I_mul, I_div, I_le, I_lt, I_eq, I_clamp, I_clampN, I_vin]
  have w0 : vc_Brt_within (I v) 0 9 = vc_Brt_within (I v) (I 0) (I 9) := rfl
  have w1 : vc_Brt_within (I v) 0 3 = vc_Brt_within (I v) (I 0) (I 3) := rfl
  have w2 : vc_Brt_within (I v) 10 50 = vc_Brt_within (I v) (I 10) (I 50) := rfl
  unfold vc_Bod_alter
  refine has_ok (n := n) ⟨by omega, by omega⟩ e hb ?_
  rw [bi_f]
  constructor
  · intro z
    have z : 0 ≤ b ∧ b < n := by simpa using z
    have hin : vp_in (I b) 6 := (I_vin hb).mpr ⟨by omega, by omega⟩
    have hcl : (I b).toNatClampNeg = b.toNat := I_clamp (by omega) (by omega)
    rw [e0, e1, e2, w0, w1, w2, hcl]
    refine ⟨¬ (w = 0 ∧ 0 ≤ v ∧ v ≤ 9), fun j1 => ⟨¬ (w = 1 ∧ 0 ≤ v ∧ v ≤ 3), fun j2 => ⟨fun q => hno ?_, fun q => ?_⟩, fun q => by omega, fun q => ?_⟩, fun q => by omega, fun q => ?_⟩
    · rintro ⟨-, q1 | q1 | q1⟩
      · exact j1 q1
      · exact j2 q1
      · exact q q1.1
    · refine sp_within hv ⟨by decide, by decide⟩ ⟨by decide, by decide⟩ ?_
      rw [bi_f]
      refine ⟨fun z2 => hno ?_, fun z2 => ⟨hin, fun s16 hs => ?_⟩⟩
      · have z2 := decide_eq_false_iff_not.mp z2
        rintro ⟨-, q1 | q1 | q1⟩
        · exact j1 q1
        · exact j2 q1
        · exact z2 q1.2
      · have z2 : 10 ≤ v ∧ v ≤ 50 := by simpa using z2
        have h := hyes ⟨z, Or.inr (Or.inr ⟨q, z2⟩)⟩
        unfold altA at h
        rw [if_neg (by omega), if_neg (by omega)] at h
        rw [hs]
        exact h
    · refine sp_within hv ⟨by decide, by decide⟩ ⟨by decide, by decide⟩ ?_
      rw [bi_f]
      refine ⟨fun z2 => ?_, fun z2 => ⟨hin, fun s16 hs => ?_⟩⟩
      · have z2 := decide_eq_false_iff_not.mp z2
        exact fun q2 => z2 q2.2
      · have z2 : 0 ≤ v ∧ v ≤ 3 := by simpa using z2
        have h := hyes ⟨z, Or.inr (Or.inl ⟨q, z2⟩)⟩
        unfold altA at h
        rw [if_neg (by omega), if_pos q] at h
        rw [hs]
        exact h
    · refine sp_within hv ⟨by decide, by decide⟩ ⟨by decide, by decide⟩ ?_
      rw [bi_f]
      refine ⟨fun z2 => ?_, fun z2 => ⟨hin, fun s16 hs => ?_⟩⟩
      · have z2 := decide_eq_false_iff_not.mp z2
        exact fun q2 => z2 q2.2
      · have z2 : 0 ≤ v ∧ v ≤ 9 := by simpa using z2
        have h := hyes ⟨z, Or.inl ⟨q, z2⟩⟩
        unfold altA at h
        rw [if_pos q] at h
        rw [hs]
        exact h
  · intro z
    have z := decide_eq_false_iff_not.mp z
    exact hno (fun q => z q.1)
/-- two BODIES change places in ORDER -/
def swapK (k : Kv) (a b : Nat) : Kv := fun x j => if x = 8 ∧ (j : Int) < k 9 1 then (if k 8 j = a then (b : Int) else if k 8 j = b then (a : Int) else k 8 j) else k x j
theorem swapK_ne {k : Kv} {a b x j : Nat} (h : x ≠ 8) : swapK k a b x j = k x j := by
  unfold swapK
  rw [if_neg (fun q => h q.1)]
theorem swapK_8 {k : Kv} {a b j : Nat} (h : (j : Int) < k 9 1) : swapK k a b 8 j = if k 8 j = a then (b : Int) else if k 8 j = b then (a : Int) else k 8 j := by
  unfold swapK
  rw [if_pos ⟨rfl, h⟩]
theorem CC_swap {k : Kv} (h : CC k) {a b : Nat} (ha : (a : Int) < k 9 1) (hb : (b : Int) < k 9 1) (hab : a ≠ b) : CC (swapK k a b) := by
  obtain ⟨⟨h1, h2, h3, h4⟩, h5, h6, h7, h8⟩ := h
  have ne : ∀ x j, x ≠ 8 → swapK k a b x j = k x j := fun x j hx => swapK_ne hx
  have n9 : ∀ i, swapK k a b 9 i = k 9 i := fun i => ne 9 i (by decide)
  refine ⟨⟨by simp only [n9]; exact h1, by simp only [n9]; exact h2, fun y hy => ?_, fun b' hb' => ?_⟩, by rw [n9]; exact h5, fun j hj => ?_, fun i j hi hj e => ?_, fun d hd => ?_⟩
  · rw [n9] at hy
    unfold CY
    rw [ne 0 _ (by decide), ne 1 _ (by decide), ne 2 _ (by decide)]
    exact h3 y hy
  · rw [n9] at hb'
    unfold CB
    rw [ne 3 _ (by decide), ne 4 _ (by decide), ne 5 _ (by decide), ne 6 _ (by decide), ne 7 _ (by decide)]
    exact h4 b' hb'
  · rw [n9] at hj ⊢
    rw [swapK_8 hj]
    have := h6 j hj
    split
    · omega
    · split <;> omega
  · rw [n9] at hi hj
    rw [swapK_8 hi, swapK_8 hj] at e
    have hi6 := h6 i hi
    apply h7 i j hi hj
    repeat' split at e
    all_goals omega
  · rw [n9] at hd ⊢
    by_cases e1 : d = a
    · obtain ⟨j, q1, q2⟩ := h8 b hb
      refine ⟨j, q1, ?_⟩
      rw [swapK_8 q1, q2, if_neg (by omega), if_pos rfl, e1]
    · by_cases e2 : d = b
      · obtain ⟨j, q1, q2⟩ := h8 a ha
        refine ⟨j, q1, ?_⟩
        rw [swapK_8 q1, q2, if_pos rfl, e2]
      · obtain ⟨j, q1, q2⟩ := h8 d hd
        refine ⟨j, q1, ?_⟩
        rw [swapK_8 q1, q2, if_neg (by omega), if_neg (by omega)]
theorem op_swap {s : St} {c : Nat} {k : Kv} (hk : CC k) (hr : RC s c k) {a b : Int} (ha : inr a) (hb : inr b) {Q : Bool → St → Prop} (hno : ¬ ((0 ≤ a ∧ a < k 9 1) ∧ (0 ≤ b ∧ b < k 9 1) ∧ a ≠ b) → Q false s) (hyes : ((0 ≤ a ∧ a < k 9 1) ∧ (0 ≤ b ∧ b < k 9 1) ∧ a ≠ b) → ∀ s', (∀ p j, p ≠ c + 16 → s' p j = s p j) → RC s' c (swapK k a.toNat b.toNat) → Q true s') : vc_Bod_swap (c + 10) (I a) (I b) s Q := by
  have a1 := hk.1.1
  unfold vc_Bod_swap
  refine has_ok (n := k 9 1) ⟨by omega, by omega⟩ hr.1.2.1 ha ?_
  rw [bi_f]
  refine ⟨fun z => hno (fun q => (decide_eq_false_iff_not.mp z) q.1), fun z => ?_⟩
  have z : 0 ≤ a ∧ a < k 9 1 := by simpa using z
  refine has_ok (n := k 9 1) ⟨by omega, by omega⟩ hr.1.2.1 hb ?_
  rw [bi_f]
  refine ⟨fun z2 => hno (fun q => (decide_eq_false_iff_not.mp z2) q.2.1), fun z2 => ?_⟩
  have z2 : 0 ≤ b ∧ b < k 9 1 := by simpa using z2
  have eab : (I a = I b) ↔ a = b := I_eq ha hb
  rw [eab]
  refine ⟨fun z3 => ?_, fun z3 => hno (fun q => q.2.2 z3)⟩
  have hy := hyes ⟨z, z2, z3⟩
  obtain ⟨a, rfl, ha1⟩ := nat_of z
  obtain ⟨b, rfl, hb1⟩ := nat_of z2
  have hab : a ≠ b := fun q => z3 (by rw [q])
  simp only [Int.toNat_natCast] at hy
  refine ⟨fun N x s' => ∃ i : Nat, x = I i ∧ (i : Int) ≤ k 9 1 ∧ N = (k 9 1).toNat - i ∧ (∀ p j, p ≠ c + 16 → s' p j = s p j) ∧ (∀ j : Nat, j < i → s' (c + 16) j = I (swapK k a b 8 j)) ∧ ∀ j : Nat, i ≤ j → s' (c + 16) j = s (c + 16) j, ⟨_, 0, rfl, by simpa using a1.2.2.1, rfl, fun _ _ _ => rfl, fun j hj => absurd hj (Nat.not_lt_zero j), fun _ _ => rfl⟩, ?_⟩
  rintro N x s' ⟨i, rfl, hi, hN, f1, f2, f3⟩
  rw [f1 (c + 10) 0 (by omega), show s (c + 10) 0 = I (k 9 1) from hr.1.2.1]
  constructor
  · intro q
    have q : (k 9 1).toNat = i := by
      revert q
      simp (disch := (first | omega | (unfold inr; omega))) only [I_lit, I_nI, I_neg, I_add, I_sub, I_mul, I_div, I_le, I_lt, I_eq, I_clamp, I_clampN, I_vin]
      omega
    refine hy s' f1 ?_
    obtain ⟨⟨r1, r2, r3, r4, r5, r6⟩, hyy, hbb⟩ := hr
    have ne : ∀ x j, x ≠ 8 → swapK k a b x j = k x j := fun x j hx => swapK_ne hx
    refine ⟨⟨?_, ?_, ?_, ?_, ?_, ?_⟩, fun y hy9 => ?_, fun b' hb9 => ?_⟩
    · rw [f1 _ _ (by omega), ne 9 _ (by decide)]; exact r1
    · rw [f1 _ _ (by omega), ne 9 _ (by decide)]; exact r2
    · rw [f1 _ _ (by omega), ne 9 _ (by decide)]; exact r3
    · rw [f1 _ _ (by omega), ne 9 _ (by decide)]; exact r4
    · rw [f1 _ _ (by omega), ne 9 _ (by decide)]; exact r5
    · rw [f1 _ _ (by omega), ne 9 _ (by decide)]; exact r6
    · rw [ne 9 _ (by decide)] at hy9
      rw [ne 0 _ (by decide), ne 1 _ (by decide), ne 2 _ (by decide)]
      simp (disch := omega) only [f1]
      exact hyy y hy9
    · rw [ne 9 _ (by decide)] at hb9
      rw [ne 3 _ (by decide), ne 4 _ (by decide), ne 5 _ (by decide), ne 6 _ (by decide), ne 7 _ (by decide)]
      obtain ⟨q1, q2, q3, q4, q5, q6⟩ := hbb b' hb9
      refine ⟨(f1 _ _ (by omega)).trans q1, (f1 _ _ (by omega)).trans q2, (f1 _ _ (by omega)).trans q3, (f1 _ _ (by omega)).trans q4, (f1 _ _ (by omega)).trans q5, f2 b' (by omega)⟩
  · intro q
    have q : (i : Int) < k 9 1 := by
      revert q
      simp (disch := (first | omega | (unfold inr; omega))) only [I_lit, I_nI, I_neg, I_add, I_sub, I_mul, I_div, I_le, I_lt, I_eq, I_clamp, I_clampN, I_vin]
      omega
    have ho := hk.2.2.1 i q
    have hcl : (I (i : Int)).toNatClampNeg = i := I_clampN (by omega)
    have hin : vp_in (I (i : Int)) 6 := I_vinN (by omega) (by decide)
    have ei : s' (c + 10 + 6) i = I (k 8 i) := (f3 i (Nat.le_refl i)).trans (hr.2.2 i q).2.2.2.2.2
    rw [hcl, ei]
    have ea : (I (k 8 i) = I (a : Int)) ↔ k 8 i = a := I_eq ⟨by omega, by omega⟩ ⟨by omega, by omega⟩
    have eb : (I (k 8 i) = I (b : Int)) ↔ k 8 i = b := I_eq ⟨by omega, by omega⟩ ⟨by omega, by omega⟩
    rw [ea, eb]
    refine ⟨hin, fun s2 => (∀ p j, p ≠ c + 16 → s2 p j = s p j) ∧ (∀ j : Nat, j < i + 1 → s2 (c + 16) j = I (swapK k a b 8 j)) ∧ ∀ j : Nat, i + 1 ≤ j → s2 (c + 16) j = s (c + 16) j, ?_, ?_, ?_⟩
    · rintro s23 ⟨g1, g2, g3⟩ x25 hx25
      refine ⟨(k 9 1).toNat - (i + 1), by omega, i + 1, ?_, by omega, rfl, g1, g2, g3⟩
      rw [hx25]
      simp (disch := (first | omega | (unfold inr; omega))) only [I_lit, I_nI, I_neg, I_add, I_sub, I_mul, I_div, I_le, I_lt, I_eq, I_clamp, I_clampN, I_vin]
      congr 1
    · intro c1
      refine ⟨hin, fun c2 => ⟨f1, fun j hj => ?_, fun j hj => f3 j (by omega)⟩, fun c2 => ⟨hin, ?_⟩⟩
      · by_cases e : j = i
        · subst e
          rw [f3 j (Nat.le_refl j), swapK_8 q, if_neg c1, if_neg c2]
          exact (hr.2.2 j q).2.2.2.2.2
        · exact f2 j (by omega)
      · intro s31 hs31
        rw [hs31]
        refine ⟨fun p j hp => (wr_ne hp).trans (f1 p j hp), fun j hj => ?_, fun j hj => ?_⟩
        · by_cases e : j = i
          · subst e
            rw [show c + 10 + 6 = c + 16 from rfl, wr_at, swapK_8 q, if_neg c1, if_pos c2]
          · have : wr s' (c + 16) i (I (a : Int)) (c + 16) j = s' (c + 16) j := by simp [wr, e]
            exact this.trans (f2 j (by omega))
        · have e : j ≠ i := by omega
          have : wr s' (c + 16) i (I (a : Int)) (c + 16) j = s' (c + 16) j := by simp [wr, e]
          exact this.trans (f3 j (by omega))
    · intro c1
      refine ⟨hin, ?_⟩
      intro s33 hs33
      rw [hs33]
      refine ⟨fun p j hp => (wr_ne hp).trans (f1 p j hp), fun j hj => ?_, fun j hj => ?_⟩
      · by_cases e : j = i
        · subst e
          rw [show c + 10 + 6 = c + 16 from rfl, wr_at, swapK_8 q, if_pos c1]
        · have : wr s' (c + 16) i (I (b : Int)) (c + 16) j = s' (c + 16) j := by simp [wr, e]
          exact this.trans (f2 j (by omega))
      · have e : j ≠ i := by omega
        have : wr s' (c + 16) i (I (b : Int)) (c + 16) j = s' (c + 16) j := by simp [wr, e]
        exact this.trans (f3 j (by omega))
