/-- a YARD more -/
def addY (k : Kv) (a f w : Int) : Kv := fun x j => if x = 9 ∧ j = 0 then k 9 0 + 1 else if (j : Int) = k 9 0 ∧ x = 0 then a else if (j : Int) = k 9 0 ∧ x = 1 then f else if (j : Int) = k 9 0 ∧ x = 2 then w else k x j
def addB (k : Kv) (c o f p : Int) : Kv := fun x j => if x = 9 ∧ j = 1 then k 9 1 + 1 else if (j : Int) = k 9 1 ∧ x = 3 then c else if (j : Int) = k 9 1 ∧ x = 4 then o else if (j : Int) = k 9 1 ∧ x = 5 then f else if (j : Int) = k 9 1 ∧ x = 6 then p else if (j : Int) = k 9 1 ∧ x = 7 then 0 else if (j : Int) = k 9 1 ∧ x = 8 then k 9 1 else k x j
theorem addY_9 {k : Kv} {a f w : Int} : addY k a f w 9 0 = k 9 0 + 1 := by simp [addY]
theorem addY_ne {k : Kv} {a f w : Int} {x j : Nat} (h1 : ¬ (x = 9 ∧ j = 0)) (h2 : ¬ (j : Int) = k 9 0 ∨ 3 ≤ x) : addY k a f w x j = k x j := by
  unfold addY
  rw [if_neg h1, if_neg (by omega), if_neg (by omega), if_neg (by omega)]
theorem addB_9 {k : Kv} {c o f p : Int} : addB k c o f p 9 1 = k 9 1 + 1 := by simp [addB]
theorem addB_ne {k : Kv} {c o f p : Int} {x j : Nat} (h1 : ¬ (x = 9 ∧ j = 1)) (h2 : ¬ (j : Int) = k 9 1 ∨ x < 3 ∨ 8 < x) : addB k c o f p x j = k x j := by
  unfold addB
  rw [if_neg h1, if_neg (by omega), if_neg (by omega), if_neg (by omega), if_neg (by omega), if_neg (by omega), if_neg (by omega)]
theorem CC_addY {k : Kv} (h : CC k) {a f w : Int} (hn : k 9 0 < 12) (ha : 0 ≤ a ∧ a ≤ 7) (hf : 0 ≤ f ∧ f ≤ 9) (hw : 6 ≤ w ∧ w ≤ 40) : CC (addY k a f w) := by
  obtain ⟨⟨h1, h2, h3, h4⟩, h5, h6, h7, h8⟩ := h
  have n9 : ∀ i, i ≠ 0 → addY k a f w 9 i = k 9 i := fun i hi => addY_ne (by omega) (Or.inr (by decide))
  have hi : ∀ x j, 3 ≤ x → x ≤ 8 → addY k a f w x j = k x j := fun x j h1 h2 => addY_ne (by omega) (Or.inr h1)
  refine ⟨⟨?_, ?_, fun y hy => ?_, fun b hb => ?_⟩, ?_, fun j hj => ?_, fun i j hi' hj e => ?_, fun b hb => ?_⟩
  · rw [addY_9, n9 1 (by decide)]; omega
  · rw [n9 2 (by decide), n9 3 (by decide), n9 4 (by decide), n9 5 (by decide)]; exact h2
  · rw [addY_9] at hy
    by_cases e : (y : Int) = k 9 0
    · unfold CY addY
      simp [e]
      omega
    · unfold CY
      rw [addY_ne (by omega) (Or.inl e), addY_ne (by omega) (Or.inl e), addY_ne (by omega) (Or.inl e)]
      exact h3 y (by omega)
  · rw [n9 1 (by decide)] at hb
    unfold CB
    rw [hi 3 _ (by decide) (by decide), hi 4 _ (by decide) (by decide), hi 5 _ (by decide) (by decide), hi 6 _ (by decide) (by decide), hi 7 _ (by decide) (by decide)]
    exact h4 b hb
  · rw [n9 2 (by decide)]; exact h5
  · rw [n9 1 (by decide)] at hj ⊢
    rw [hi 8 _ (by decide) (by decide)]
    exact h6 j hj
  · rw [n9 1 (by decide)] at hi' hj
    rw [hi 8 _ (by decide) (by decide), hi 8 _ (by decide) (by decide)] at e
    exact h7 i j hi' hj e
  · rw [n9 1 (by decide)] at hb ⊢
    obtain ⟨j, q1, q2⟩ := h8 b hb
    exact ⟨j, q1, by rw [hi 8 _ (by decide) (by decide)]; exact q2⟩
theorem CC_addB {k : Kv} (h : CC k) {c o f p : Int} (hn : k 9 1 < 6) (hc : 10 ≤ c ∧ c ≤ 50) (ho : 0 ≤ o ∧ o ≤ 9) (hf : 0 ≤ f ∧ f ≤ 9) (hp : 0 ≤ p ∧ p ≤ 9) : CC (addB k c o f p) := by
  obtain ⟨⟨h1, h2, h3, h4⟩, h5, h6, h7, h8⟩ := h
  have n9 : ∀ i, i ≠ 1 → addB k c o f p 9 i = k 9 i := fun i hi => addB_ne (by omega) (Or.inr (by omega))
  have lo : ∀ x j, x < 3 → addB k c o f p x j = k x j := fun x j h1 => addB_ne (by omega) (Or.inr (by omega))
  have e8 : ∀ j : Nat, (j : Int) = k 9 1 → addB k c o f p 8 j = k 9 1 := by
    intro j hj
    simp [addB, hj]
  have o8 : ∀ j : Nat, ¬ (j : Int) = k 9 1 → addB k c o f p 8 j = k 8 j := fun j hj => addB_ne (by omega) (Or.inl hj)
  refine ⟨⟨?_, ?_, fun y hy => ?_, fun b hb => ?_⟩, ?_, fun j hj => ?_, fun i j hi' hj e => ?_, fun b hb => ?_⟩
  · rw [addB_9, n9 0 (by decide)]; omega
  · rw [n9 2 (by decide), n9 3 (by decide), n9 4 (by decide), n9 5 (by decide)]; exact h2
  · rw [n9 0 (by decide)] at hy
    unfold CY
    rw [lo 0 _ (by decide), lo 1 _ (by decide), lo 2 _ (by decide)]
    exact h3 y hy
  · rw [addB_9] at hb
    by_cases e : (b : Int) = k 9 1
    · unfold CB addB
      simp [e]
      omega
    · unfold CB
      rw [addB_ne (by omega) (Or.inl e), addB_ne (by omega) (Or.inl e), addB_ne (by omega) (Or.inl e), addB_ne (by omega) (Or.inl e), addB_ne (by omega) (Or.inl e)]
      exact h4 b (by omega)
  · rw [n9 2 (by decide)]; exact h5
  · rw [addB_9] at hj ⊢
    by_cases e : (j : Int) = k 9 1
    · rw [e8 j e]; omega
    · rw [o8 j e]
      have := h6 j (by omega)
      omega
  · rw [addB_9] at hi' hj
    by_cases e1 : (i : Int) = k 9 1
    · by_cases e2 : (j : Int) = k 9 1
      · omega
      · rw [e8 i e1, o8 j e2] at e
        have := h6 j (by omega)
        omega
    · by_cases e2 : (j : Int) = k 9 1
      · rw [o8 i e1, e8 j e2] at e
        have := h6 i (by omega)
        omega
      · rw [o8 i e1, o8 j e2] at e
        exact h7 i j (by omega) (by omega) e
  · rw [addB_9] at hb ⊢
    by_cases e : (b : Int) = k 9 1
    · exact ⟨b, by omega, by rw [e8 b e]; omega⟩
    · obtain ⟨j, q1, q2⟩ := h8 b (by omega)
      exact ⟨j, by omega, by rw [o8 j (by omega)]; exact q2⟩
set_option maxHeartbeats 1000000 in
theorem op_yard {s : St} {c : Nat} {k : Kv} (hk : CC k) (hr : RC s c k) {a f w : Int} (ha : inr a) (hf : inr f) (hw : inr w) {Q : Bool → St → Prop} (hno : ¬ ((0 ≤ a ∧ a ≤ 7) ∧ (0 ≤ f ∧ f ≤ 9) ∧ (6 ≤ w ∧ w ≤ 40) ∧ k 9 0 < 12) → Q false s) (hyes : ((0 ≤ a ∧ a ≤ 7) ∧ (0 ≤ f ∧ f ≤ 9) ∧ (6 ≤ w ∧ w ≤ 40) ∧ k 9 0 < 12) → ∀ s', (∀ p j, (p ≤ c ∨ c + 9 < p) → s' p j = s p j) → RC s' c (addY k a f w) → Q true s') : vc_Yar_add (c + 1) (I a) (I f) (I w) s Q := by
  have a1 := hk.1.1
  have w0 : vc_Brt_within (I a) 0 7 = vc_Brt_within (I a) (I 0) (I 7) := rfl
  have w1 : vc_Brt_within (I f) 0 9 = vc_Brt_within (I f) (I 0) (I 9) := rfl
  have w2 : vc_Brt_within (I w) 6 40 = vc_Brt_within (I w) (I 6) (I 40) := rfl
  unfold vc_Yar_add
  rw [w0, w1]
  refine sp_within ha ⟨by decide, by decide⟩ ⟨by decide, by decide⟩ ?_
  rw [bi_f]
  refine ⟨fun z => hno (fun q => (decide_eq_false_iff_not.mp z) q.1), fun z => ?_⟩
  have z : 0 ≤ a ∧ a ≤ 7 := by simpa using z
  refine sp_within hf ⟨by decide, by decide⟩ ⟨by decide, by decide⟩ ?_
  rw [bi_f]
  refine ⟨fun z => hno (fun q => (decide_eq_false_iff_not.mp z) q.2.1), fun z2 => ?_⟩
  have z2 : 0 ≤ f ∧ f ≤ 9 := by simpa using z2
  unfold vc_Yar_widthIsRight
  rw [w2]
  refine sp_within hw ⟨by decide, by decide⟩ ⟨by decide, by decide⟩ ?_
  dsimp only
  rw [bi_f]
  refine ⟨fun z => hno (fun q => (decide_eq_false_iff_not.mp z) q.2.2.1), fun z3 => ?_⟩
  have z3 : 6 ≤ w ∧ w ≤ 40 := by simpa using z3
  have e0 : s (c + 1) 0 = I (k 9 0) := hr.1.1
  rw [e0]
  have e12 : (I (k 9 0) < 12) ↔ k 9 0 < 12 := by simp (disch := (first | omega | (unfold inr; omega))) only [I_lit, I_nI, I_neg, I_add, I_sub, I_mul, I_div, I_le, I_lt, I_eq, I_clamp, I_clampN, I_vin]
  rw [e12]
  refine ⟨fun z4 => ?_, fun z4 => hno (fun q => z4 q.2.2.2)⟩
  have hy := hyes ⟨z, z2, z3, z4⟩
  obtain ⟨n, en⟩ : ∃ n : Nat, (n : Int) = k 9 0 := ⟨(k 9 0).toNat, by omega⟩
  have hin : vp_in (I (k 9 0)) 12 := by rw [← en]; exact I_vinN (by omega) (by decide)
  have hcl : (I (k 9 0)).toNatClampNeg = n := by rw [← en]; exact I_clampN (by omega)
  refine ⟨hin, ?_⟩
  rw [hcl]
  intro s1 h1
  have q1 : s1 (c + 1) 0 = I (k 9 0) := by rw [h1, wr_ne (by omega)]; exact e0
  rw [q1, hcl]
  refine ⟨hin, ?_⟩
  intro s2 h2
  have q2 : s2 (c + 1) 0 = I (k 9 0) := by rw [h2, wr_ne (by omega)]; exact q1
  rw [q2, hcl]
  refine ⟨hin, ?_⟩
  intro s3 h3
  have q3 : s3 (c + 1) 0 = I (k 9 0) := by rw [h3, wr_ne (by omega)]; exact q2
  refine sp_kroom z z2 z3 ?_
  rw [q3, hcl]
  refine ⟨hin, ?_⟩
  intro s4 h4
  have q4 : s4 (c + 1) 0 = I (k 9 0) := by rw [h4, wr_ne (by omega)]; exact q3
  refine sp_kmin z z2 false ?_
  rw [q4, hcl]
  refine ⟨hin, ?_⟩
  intro s5 h5
  have q5 : s5 (c + 1) 0 = I (k 9 0) := by rw [h5, wr_ne (by omega)]; exact q4
  refine sp_kmin z z2 true ?_
  rw [q5, hcl]
  refine ⟨hin, ?_⟩
  intro s6 h6
  have q6 : s6 (c + 1) 0 = I (k 9 0) := by rw [h6, wr_ne (by omega)]; exact q5
  refine sp_kmore z false ?_
  rw [q6, hcl]
  refine ⟨hin, ?_⟩
  intro s7 h7
  have q7 : s7 (c + 1) 0 = I (k 9 0) := by rw [h7, wr_ne (by omega)]; exact q6
  refine sp_kmore z true ?_
  rw [q7, hcl]
  refine ⟨hin, ?_⟩
  intro s8 h8
  have q8 : s8 (c + 1) 0 = I (k 9 0) := by rw [h8, wr_ne (by omega)]; exact q7
  rw [q8]
  intro s9 h9
  have fr : ∀ p j, (p ≤ c ∨ c + 9 < p) → s9 p j = s p j := by
    intro p j hp
    rw [h9, h8, h7, h6, h5, h4, h3, h2, h1]
    simp (disch := omega) only [wr_ne]
  have new : ∀ i x, 1 ≤ i → i ≤ 8 → ∀ t : St, (∀ j, s9 (c + 1 + i) j = wr t (c + 1 + i) n x (c + 1 + i) j) → (∀ j, t (c + 1 + i) j = s (c + 1 + i) j) → s9 (c + 1 + i) n = x ∧ ∀ j, j ≠ n → s9 (c + 1 + i) j = s (c + 1 + i) j := by
    intro i x _ _ t ht hs
    refine ⟨(ht n).trans wr_at, fun j hj => ?_⟩
    rw [ht j, ← hs j]
    simp [wr, hj]
  have m1 := new 1 (I a) (by decide) (by decide) s (fun j => by rw [h9, h8, h7, h6, h5, h4, h3, h2, h1]; simp (disch := omega) only [wr_ne]) (fun _ => rfl)
  have m2 := new 2 (I f) (by decide) (by decide) s1 (fun j => by rw [h9, h8, h7, h6, h5, h4, h3, h2]; simp (disch := omega) only [wr_ne]) (fun j => by rw [h1]; simp (disch := omega) only [wr_ne])
  have m3 := new 3 (I w) (by decide) (by decide) s2 (fun j => by rw [h9, h8, h7, h6, h5, h4, h3]; simp (disch := omega) only [wr_ne]) (fun j => by rw [h2, h1]; simp (disch := omega) only [wr_ne])
  have m4 := new 4 (I (dryZ a f w)) (by decide) (by decide) s3 (fun j => by rw [h9, h8, h7, h6, h5, h4]; simp (disch := omega) only [wr_ne]) (fun j => by rw [h3, h2, h1]; simp (disch := omega) only [wr_ne])
  have m5 := new 5 (I (minZ a f false)) (by decide) (by decide) s4 (fun j => by rw [h9, h8, h7, h6, h5]; simp (disch := omega) only [wr_ne]) (fun j => by rw [h4, h3, h2, h1]; simp (disch := omega) only [wr_ne])
  have m6 := new 6 (I (minZ a f true)) (by decide) (by decide) s5 (fun j => by rw [h9, h8, h7, h6]; simp (disch := omega) only [wr_ne]) (fun j => by rw [h5, h4, h3, h2, h1]; simp (disch := omega) only [wr_ne])
  have m7 := new 7 (I (moreZ a false)) (by decide) (by decide) s6 (fun j => by rw [h9, h8, h7]; simp (disch := omega) only [wr_ne]) (fun j => by rw [h6, h5, h4, h3, h2, h1]; simp (disch := omega) only [wr_ne])
  have m8 := new 8 (I (moreZ a true)) (by decide) (by decide) s7 (fun j => by rw [h9, h8]; simp (disch := omega) only [wr_ne]) (fun j => by rw [h7, h6, h5, h4, h3, h2, h1]; simp (disch := omega) only [wr_ne])
  refine hy s9 fr ?_
  obtain ⟨⟨r1, r2, r3, r4, r5, r6⟩, hyy, hbb⟩ := hr
  have n9 : ∀ i, i ≠ 0 → addY k a f w 9 i = k 9 i := fun i hi => addY_ne (by omega) (Or.inr (by decide))
  have hi8 : ∀ x j, 3 ≤ x → x ≤ 8 → addY k a f w x j = k x j := fun x j h1 h2 => addY_ne (by omega) (Or.inr h1)
  refine ⟨⟨?_, ?_, ?_, ?_, ?_, ?_⟩, fun y hy9 => ?_, fun b' hb9 => ?_⟩
  · rw [h9, wr_at, addY_9]
    simp (disch := (first | omega | (unfold inr; omega))) only [I_lit, I_nI, I_neg, I_add, I_sub, I_mul, I_div, I_le, I_lt, I_eq, I_clamp, I_clampN, I_vin]
  · rw [fr _ _ (by omega), n9 1 (by decide)]; exact r2
  · rw [fr _ _ (by omega), n9 2 (by decide)]; exact r3
  · rw [fr _ _ (by omega), n9 3 (by decide)]; exact r4
  · rw [fr _ _ (by omega), n9 4 (by decide)]; exact r5
  · rw [fr _ _ (by omega), n9 5 (by decide)]; exact r6
  · rw [addY_9] at hy9
    by_cases e : y = n
    · subst e
      have k0 : addY k a f w 0 y = a := by simp [addY, en]
      have k1 : addY k a f w 1 y = f := by simp [addY, en]
      have k2 : addY k a f w 2 y = w := by simp [addY, en]
      rw [k0, k1, k2]
      exact ⟨m1.1, m2.1, m3.1, m4.1, m5.1, m6.1, m7.1, m8.1⟩
    · have e' : ¬ (y : Int) = k 9 0 := by omega
      rw [addY_ne (by omega) (Or.inl e'), addY_ne (by omega) (Or.inl e'), addY_ne (by omega) (Or.inl e')]
      obtain ⟨g1, g2, g3, g4, g5, g6, g7, g8⟩ := hyy y (by omega)
      exact ⟨(m1.2 y e).trans g1, (m2.2 y e).trans g2, (m3.2 y e).trans g3, (m4.2 y e).trans g4, (m5.2 y e).trans g5, (m6.2 y e).trans g6, (m7.2 y e).trans g7, (m8.2 y e).trans g8⟩
  · rw [n9 1 (by decide)] at hb9
    rw [hi8 3 _ (by decide) (by decide), hi8 4 _ (by decide) (by decide), hi8 5 _ (by decide) (by decide), hi8 6 _ (by decide) (by decide), hi8 7 _ (by decide) (by decide), hi8 8 _ (by decide) (by decide)]
    obtain ⟨g1, g2, g3, g4, g5, g6⟩ := hbb b' hb9
    exact ⟨(fr _ _ (by omega)).trans g1, (fr _ _ (by omega)).trans g2, (fr _ _ (by omega)).trans g3, (fr _ _ (by omega)).trans g4, (fr _ _ (by omega)).trans g5, (fr _ _ (by omega)).trans g6⟩
set_option maxHeartbeats 1000000 in
theorem op_body {s : St} {c : Nat} {k : Kv} (hk : CC k) (hr : RC s c k) {ch o f p : Int} (hch : inr ch) (ho : 0 ≤ o ∧ o ≤ 9) (hf : 0 ≤ f ∧ f ≤ 9) (hp : 0 ≤ p ∧ p ≤ 9) {Q : Bool → St → Prop} (hno : ¬ ((10 ≤ ch ∧ ch ≤ 50) ∧ k 9 1 < 6) → Q false s) (hyes : ((10 ≤ ch ∧ ch ≤ 50) ∧ k 9 1 < 6) → ∀ s', (∀ q j, (q < c + 10 ∨ c + 16 < q) → s' q j = s q j) → RC s' c (addB k ch o f p) → Q true s') : vc_Bod_add (c + 10) (I ch) (I o) (I f) (I p) s Q := by
  have a1 := hk.1.1
  have w0 : vc_Brt_within (I ch) 10 50 = vc_Brt_within (I ch) (I 10) (I 50) := rfl
  unfold vc_Bod_add
  rw [w0]
  refine sp_within hch ⟨by decide, by decide⟩ ⟨by decide, by decide⟩ ?_
  rw [bi_f]
  refine ⟨fun z => hno (fun q => (decide_eq_false_iff_not.mp z) q.1), fun z => ?_⟩
  have z : 10 ≤ ch ∧ ch ≤ 50 := by simpa using z
  have e0 : s (c + 10) 0 = I (k 9 1) := hr.1.2.1
  rw [e0]
  have e6 : (I (k 9 1) < 6) ↔ k 9 1 < 6 := by simp (disch := (first | omega | (unfold inr; omega))) only [I_lit, I_nI, I_neg, I_add, I_sub, I_mul, I_div, I_le, I_lt, I_eq, I_clamp, I_clampN, I_vin]
  rw [e6]
  refine ⟨fun z4 => ?_, fun z4 => hno (fun q => z4 q.2)⟩
  have hy := hyes ⟨z, z4⟩
  obtain ⟨n, en⟩ : ∃ n : Nat, (n : Int) = k 9 1 := ⟨(k 9 1).toNat, by omega⟩
  have hin : vp_in (I (k 9 1)) 6 := by rw [← en]; exact I_vinN (by omega) (by decide)
  have hcl : (I (k 9 1)).toNatClampNeg = n := by rw [← en]; exact I_clampN (by omega)
  refine ⟨hin, ?_⟩
  rw [hcl]
  intro s1 h1
  have q1 : s1 (c + 10) 0 = I (k 9 1) := by rw [h1, wr_ne (by omega)]; exact e0
  rw [q1, hcl]
  refine ⟨hin, ?_⟩
  intro s2 h2
  have q2 : s2 (c + 10) 0 = I (k 9 1) := by rw [h2, wr_ne (by omega)]; exact q1
  rw [q2, hcl]
  refine ⟨hin, ?_⟩
  intro s3 h3
  have q3 : s3 (c + 10) 0 = I (k 9 1) := by rw [h3, wr_ne (by omega)]; exact q2
  rw [q3, hcl]
  refine ⟨hin, ?_⟩
  intro s4 h4
  have q4 : s4 (c + 10) 0 = I (k 9 1) := by rw [h4, wr_ne (by omega)]; exact q3
  rw [q4, hcl]
  refine ⟨hin, ?_⟩
  intro s5 h5
  have q5 : s5 (c + 10) 0 = I (k 9 1) := by rw [h5, wr_ne (by omega)]; exact q4
  rw [q5, hcl]
  refine ⟨hin, ?_⟩
  intro s6 h6
  have q6 : s6 (c + 10) 0 = I (k 9 1) := by rw [h6, wr_ne (by omega)]; exact q5
  rw [q6]
  intro s9 h9
  have fr : ∀ q j, (q < c + 10 ∨ c + 16 < q) → s9 q j = s q j := by
    intro q j hq
    rw [h9, h6, h5, h4, h3, h2, h1]
    simp (disch := omega) only [wr_ne]
  have new : ∀ i x, 1 ≤ i → i ≤ 6 → ∀ t : St, (∀ j, s9 (c + 10 + i) j = wr t (c + 10 + i) n x (c + 10 + i) j) → (∀ j, t (c + 10 + i) j = s (c + 10 + i) j) → s9 (c + 10 + i) n = x ∧ ∀ j, j ≠ n → s9 (c + 10 + i) j = s (c + 10 + i) j := by
    intro i x _ _ t ht hs
    refine ⟨(ht n).trans wr_at, fun j hj => ?_⟩
    rw [ht j, ← hs j]
    simp [wr, hj]
  have m1 := new 1 (I ch) (by decide) (by decide) s (fun j => by rw [h9, h6, h5, h4, h3, h2, h1]; simp (disch := omega) only [wr_ne]) (fun _ => rfl)
  have m2 := new 2 (I o) (by decide) (by decide) s1 (fun j => by rw [h9, h6, h5, h4, h3, h2]; simp (disch := omega) only [wr_ne]) (fun j => by rw [h1]; simp (disch := omega) only [wr_ne])
  have m3 := new 3 (I f) (by decide) (by decide) s2 (fun j => by rw [h9, h6, h5, h4, h3]; simp (disch := omega) only [wr_ne]) (fun j => by rw [h2, h1]; simp (disch := omega) only [wr_ne])
  have m4 := new 4 (I p) (by decide) (by decide) s3 (fun j => by rw [h9, h6, h5, h4]; simp (disch := omega) only [wr_ne]) (fun j => by rw [h3, h2, h1]; simp (disch := omega) only [wr_ne])
  have m5 := new 5 0 (by decide) (by decide) s4 (fun j => by rw [h9, h6, h5]; simp (disch := omega) only [wr_ne]) (fun j => by rw [h4, h3, h2, h1]; simp (disch := omega) only [wr_ne])
  have m6 := new 6 (I (k 9 1)) (by decide) (by decide) s5 (fun j => by rw [h9, h6]; simp (disch := omega) only [wr_ne]) (fun j => by rw [h5, h4, h3, h2, h1]; simp (disch := omega) only [wr_ne])
  refine hy s9 fr ?_
  obtain ⟨⟨r1, r2, r3, r4, r5, r6⟩, hyy, hbb⟩ := hr
  have n9 : ∀ i, i ≠ 1 → addB k ch o f p 9 i = k 9 i := fun i hi => addB_ne (by omega) (Or.inr (by omega))
  have lo3 : ∀ x j, x < 3 → addB k ch o f p x j = k x j := fun x j h1 => addB_ne (by omega) (Or.inr (by omega))
  refine ⟨⟨?_, ?_, ?_, ?_, ?_, ?_⟩, fun y hy9 => ?_, fun b' hb9 => ?_⟩
  · rw [fr _ _ (by omega), n9 0 (by decide)]; exact r1
  · rw [h9, wr_at, addB_9]
    simp (disch := (first | omega | (unfold inr; omega))) only [I_lit, I_nI, I_neg, I_add, I_sub, I_mul, I_div, I_le, I_lt, I_eq, I_clamp, I_clampN, I_vin]
  · rw [fr _ _ (by omega), n9 2 (by decide)]; exact r3
  · rw [fr _ _ (by omega), n9 3 (by decide)]; exact r4
  · rw [fr _ _ (by omega), n9 4 (by decide)]; exact r5
  · rw [fr _ _ (by omega), n9 5 (by decide)]; exact r6
  · rw [n9 0 (by decide)] at hy9
    rw [lo3 0 _ (by decide), lo3 1 _ (by decide), lo3 2 _ (by decide)]
    simp (disch := omega) only [fr]
    exact hyy y hy9
  · rw [addB_9] at hb9
    by_cases e : b' = n
    · subst e
      have k3 : addB k ch o f p 3 b' = ch := by simp [addB, en]
      have k4 : addB k ch o f p 4 b' = o := by simp [addB, en]
      have k5 : addB k ch o f p 5 b' = f := by simp [addB, en]
      have k6 : addB k ch o f p 6 b' = p := by simp [addB, en]
      have k7 : addB k ch o f p 7 b' = 0 := by simp [addB, en]
      have k8 : addB k ch o f p 8 b' = k 9 1 := by simp [addB, en]
      rw [k3, k4, k5, k6, k7, k8]
      exact ⟨m1.1, m2.1, m3.1, m4.1, m5.1, m6.1⟩
    · have e' : ¬ (b' : Int) = k 9 1 := by omega
      rw [addB_ne (by omega) (Or.inl e'), addB_ne (by omega) (Or.inl e'), addB_ne (by omega) (Or.inl e'), addB_ne (by omega) (Or.inl e'), addB_ne (by omega) (Or.inl e'), addB_ne (by omega) (Or.inl e')]
      obtain ⟨g1, g2, g3, g4, g5, g6⟩ := hbb b' (by omega)
      exact ⟨(m1.2 b' e).trans g1, (m2.2 b' e).trans g2, (m3.2 b' e).trans g3, (m4.2 b' e).trans g4, (m5.2 b' e).trans g5, (m6.2 b' e).trans g6⟩
