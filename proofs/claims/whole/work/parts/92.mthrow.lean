/-! THROWING, the model's side -/
def failZ (k f : Int) : Int := if k = 7 ∨ f = 0 then -15 else if k = 6 then 200 + costZ k f else if k = 2 ∨ k = 3 then 100 + f else f
def tossZ (sh : Nat → Nat → Int) (d : Int) : Int := if refZ sh 1 d = 0 then failZ (sh d.toNat 1) (sh d.toNat 2) else refZ sh 1 d
theorem cost_6 {f : Int} (hf : 0 ≤ f ∧ f ≤ 9) : 0 ≤ costZ 6 f ∧ costZ 6 f ≤ 1000 := by
  unfold costZ
  repeat' split
  all_goals omega
theorem m_toss {s : St} {A : Ab} (hR : RR s A) {d : Int} (hd : inr d) {Q : Int32 → Prop} (h : Q (I (tossZ A.2.2.2.1 d))) : vc_Mod_toss (I d) s Q := by
  have hri := ref_in A.2.2.2.1 1 d
  have e0 : (I (refZ A.2.2.2.1 1 d) = 0) ↔ refZ A.2.2.2.1 1 d = 0 := by simp (disch := (first | omega | (unfold inr; omega))) only [I_lit, I_nI, I_neg, I_add, I_sub, I_mul, I_div, I_le, I_lt, I_eq, I_clamp, I_clampN, I_vin]
  unfold vc_Mod_toss
  refine m_refK hR.2.1.2.2.2 hR.2.2.2.2 hd ?_
  rw [e0]
  unfold tossZ at h
  refine ⟨fun c => ?_, fun c => by rw [if_neg c] at h; exact h⟩
  rw [if_pos c] at h
  have c2 := (ref_0 (Or.inl rfl)).mp c
  obtain ⟨d, rfl, hd8⟩ := nat_of (n := 8) ⟨c2.1.1, by omega⟩
  have hin : vp_in (I (d : Int)) 8 := I_vinN (by omega) (by decide)
  have c3 : A.2.2.2.1 d 0 = 1 := by simpa using c2.2
  have m2 := (hR.2.1.2.2.2 d (by omega)).2.1 c3
  have h3 := (hR.2.2.2.2 d (by omega)).2.1 c3
  rw [Int.toNat_natCast] at h
  refine ⟨hin, fun x14 ex => ⟨hin, fun x16 ey => ?_⟩⟩
  rw [I_clampN (by omega), m2.1] at ex
  rw [I_clampN (by omega), m2.2] at ey
  subst ex ey
  generalize A.2.2.2.1 d 1 = k at h h3
  generalize A.2.2.2.1 d 2 = f at h h3
  have e7 : (I k = 7) ↔ k = 7 := by simp (disch := (first | omega | (unfold inr; omega))) only [I_lit, I_nI, I_neg, I_add, I_sub, I_mul, I_div, I_le, I_lt, I_eq, I_clamp, I_clampN, I_vin]
  have e6 : (I k = 6) ↔ k = 6 := by simp (disch := (first | omega | (unfold inr; omega))) only [I_lit, I_nI, I_neg, I_add, I_sub, I_mul, I_div, I_le, I_lt, I_eq, I_clamp, I_clampN, I_vin]
  have e2 : (I k = 2) ↔ k = 2 := by simp (disch := (first | omega | (unfold inr; omega))) only [I_lit, I_nI, I_neg, I_add, I_sub, I_mul, I_div, I_le, I_lt, I_eq, I_clamp, I_clampN, I_vin]
  have e3 : (I k = 3) ↔ k = 3 := by simp (disch := (first | omega | (unfold inr; omega))) only [I_lit, I_nI, I_neg, I_add, I_sub, I_mul, I_div, I_le, I_lt, I_eq, I_clamp, I_clampN, I_vin]
  have ef : (I f = 0) ↔ f = 0 := by simp (disch := (first | omega | (unfold inr; omega))) only [I_lit, I_nI, I_neg, I_add, I_sub, I_mul, I_div, I_le, I_lt, I_eq, I_clamp, I_clampN, I_vin]
  rw [e7, e6, e2, e3, ef]
  unfold failZ at h
  refine ⟨fun c7 => by rw [if_pos (Or.inl c7)] at h; exact h, fun c7 => ⟨fun cf => ⟨fun c6 => ⟨k = 2 ∨ k = 3, fun c23 => ?_, fun c2 => Or.inl c2, fun c2 => ⟨fun c3 => ?_, fun c3 => Or.inr c3⟩⟩, fun c6 => ?_⟩, fun cf => by rw [if_pos (Or.inr cf)] at h; exact h⟩⟩
  · rw [if_neg (by omega), if_neg c6, if_pos c23] at h
    refine q_eq h ?_
    simp (disch := (first | omega | (unfold inr; omega))) only [I_lit, I_nI, I_neg, I_add, I_sub, I_mul, I_div, I_le, I_lt, I_eq, I_clamp, I_clampN, I_vin]
  · rw [if_neg (by omega), if_neg c6, if_neg (by omega)] at h
    exact h
  · rw [if_neg (by omega), if_pos c6] at h
    have hc := cost_6 h3.2.2
    refine sp_mcost ⟨h3.1, h3.2.1⟩ h3.2.2 (q_eq h ?_)
    subst c6
    simp (disch := (first | omega | (unfold inr; omega))) only [I_lit, I_nI, I_neg, I_add, I_sub, I_mul, I_div, I_le, I_lt, I_eq, I_clamp, I_clampN, I_vin]
def thrZ (sh : Nat → Nat → Int) (d i : Int) : Int := if 0 ≤ d ∧ d ≤ 7 then (if sh d.toNat 0 = 2 ∧ 0 ≤ i ∧ i < sh d.toNat 4 then 0 else 2) else 1
def elemV (sh : Nat → Nat → Int) (sc : Nat → Nat → Int32) (d i : Int) : Int64 := if thrZ sh d i = 0 then (sc d.toNat i.toNat).toInt64 else 0
theorem thr_in (sh : Nat → Nat → Int) (d i : Int) : thrZ sh d i = 0 ∨ thrZ sh d i = 1 ∨ thrZ sh d i = 2 := by
  unfold thrZ
  repeat' split
  all_goals simp
theorem RR_39 {s : St} {A : Ab} (hR : RR s A) (v : Int32) : RR (wr s 82 39 v) A := RR_KM ⟨fun p j h => wr_ne (by omega), by simp [wr]⟩ hR
theorem m_elem {s : St} {A : Ab} (hR : RR s A) {d i : Int} (hd : inr d) (hi : inr i) {Q : Int64 → St → Prop} (h : Q (elemV A.2.2.2.1 A.2.2.2.2 d i) (wr s 82 39 (I (thrZ A.2.2.2.1 d i)))) : vc_Mod_element (I d) (I i) s Q := by
  have ht := thr_in A.2.2.2.1 d i
  have e0 : (I (thrZ A.2.2.2.1 d i) = 0) ↔ thrZ A.2.2.2.1 d i = 0 := by simp (disch := (first | omega | (unfold inr; omega))) only [I_lit, I_nI, I_neg, I_add, I_sub, I_mul, I_div, I_le, I_lt, I_eq, I_clamp, I_clampN, I_vin]
  unfold vc_Mod_element
  refine isSh_m hd ?_
  rw [bi_f]
  refine ⟨fun x => x = I (thrZ A.2.2.2.1 d i), fun x12 ex s14 es => ?_, ?_, ?_⟩
  · subst ex es
    rw [wr_at, e0]
    unfold elemV at h
    refine ⟨fun c => by rw [if_neg c] at h; exact h, fun c => ?_⟩
    rw [if_pos c] at h
    have c2 : (0 ≤ d ∧ d ≤ 7) ∧ A.2.2.2.1 d.toNat 0 = 2 ∧ 0 ≤ i ∧ i < A.2.2.2.1 d.toNat 4 := by
      unfold thrZ at c
      by_cases z : 0 ≤ d ∧ d ≤ 7
      · rw [if_pos z] at c
        by_cases z2 : A.2.2.2.1 d.toNat 0 = 2 ∧ 0 ≤ i ∧ i < A.2.2.2.1 d.toNat 4
        · exact ⟨z, z2⟩
        · rw [if_neg z2] at c; omega
      · rw [if_neg z] at c; omega
    obtain ⟨d, rfl, hd8⟩ := nat_of (n := 8) ⟨c2.1.1, by omega⟩
    rw [Int.toNat_natCast] at c2 h
    have m2 := (hR.2.1.2.2.2 d (by omega)).2.2 c2.2.1
    have h3 := ((hR.2.2.2.2 d (by omega)).2.2 c2.2.1).1
    obtain ⟨i, rfl, hi8⟩ := nat_of (n := 100) (z := i) ⟨c2.2.2.1, by omega⟩
    rw [Int.toNat_natCast] at h
    have e : (100 * I (d : Int)) + I (i : Int) = I ((100 * d + i : Nat) : Int) := by
      rw [show ((100 * d + i : Nat) : Int) = 100 * (d : Int) + (i : Int) by omega]
      simp (disch := (first | omega | (unfold inr; omega))) only [I_lit, I_nI, I_neg, I_add, I_sub, I_mul, I_div, I_le, I_lt, I_eq, I_clamp, I_clampN, I_vin]
    rw [e, I_clampN (by omega), wr_ne (by decide), m2.2.2 i (by omega)]
    exact ⟨I_vinN (by omega) (by decide), h⟩
  · intro z
    have z : 0 ≤ d ∧ d ≤ 7 := by simpa using z
    obtain ⟨d, rfl, hd8⟩ := nat_of (n := 8) ⟨z.1, by omega⟩
    have hin : vp_in (I (d : Int)) 8 := I_vinN (by omega) (by decide)
    have m0 := (hR.2.1.2.2.2 d (by omega)).1
    have hv := (hR.2.2.2.2 d (by omega)).1
    have e2 : (I (A.2.2.2.1 d 0) = 2) ↔ A.2.2.2.1 d 0 = 2 := by simp (disch := (first | omega | (unfold inr; omega))) only [I_lit, I_nI, I_neg, I_add, I_sub, I_mul, I_div, I_le, I_lt, I_eq, I_clamp, I_clampN, I_vin]
    rw [I_clampN (by omega), m0, e2]
    refine ⟨hin, 2 = I (thrZ A.2.2.2.1 d i), fun q => q, fun c => ?_, fun c => ⟨hin, ?_⟩⟩
    · unfold thrZ
      rw [if_pos z, Int.toNat_natCast, if_neg (fun q => c q.1)]
      rfl
    · have m2 := ((hR.2.1.2.2.2 d (by omega)).2.2 c).2.1
      have h3 := ((hR.2.2.2.2 d (by omega)).2.2 c).1
      rw [m2, show (I (A.2.2.2.1 d 4) - 1 : Int32) = I (A.2.2.2.1 d 4 - 1) from by simp (disch := (first | omega | (unfold inr; omega))) only [I_lit, I_nI, I_neg, I_add, I_sub, I_mul, I_div, I_le, I_lt, I_eq, I_clamp, I_clampN, I_vin], ← I0]
      refine sp_isIn hi ⟨by decide, by decide⟩ ⟨by omega, by omega⟩ ?_
      rw [I0, bi_f]
      unfold thrZ
      rw [if_pos z, Int.toNat_natCast]
      constructor
      · intro y
        have y : 0 ≤ i ∧ i ≤ A.2.2.2.1 d 4 - 1 := by simpa using y
        rw [if_pos ⟨c, y.1, by omega⟩]
        rfl
      · intro y
        have y : ¬ (0 ≤ i ∧ i ≤ A.2.2.2.1 d 4 - 1) := by simpa using y
        rw [if_neg (fun q => y ⟨q.2.1, by omega⟩)]
        rfl
  · intro z
    have z : ¬ (0 ≤ d ∧ d ≤ 7) := by simpa using z
    unfold thrZ
    rw [if_neg z]
    rfl
