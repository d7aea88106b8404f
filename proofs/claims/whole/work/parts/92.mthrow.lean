/-! THROWING, the model's side -/
def failZ (k f : Int) : Int := if k = 7 ∨ f = 0 then -15 else if k = 6 then 200 + costZ k f else if k = 2 ∨ k = 3 then 100 + f else f
def tossZ (sh : Nat → Nat → Int) (d : Int) : Int := if refZ sh 1 d = 0 then failZ (sh d.toNat 1) (sh d.toNat 2) else refZ sh 1 d
theorem cost_6 {f : Int} (hf : 0 ≤ f ∧ f ≤ 9) : 0 ≤ costZ 6 f ∧ costZ 6 f ≤ 1000 := by
  unfold costZ
  repeat' split
  all_goals omega
theorem m_toss {s : St} {A : Ab} (hR : RR s A) {d : Int} (hd : inr d) {Q : Int32 → Prop} (h : Q (I (tossZ A.2.2.2.1 d))) : vc_Mod_toss (I d) s Q := by
  have hri := ref_in A.2.2.2.1 1 d
  have e0 : (I (refZ A.2.2.2.1 1 d) = 0) ↔ refZ A.2.2.2.1 1 d = 0 := by simp (disch := (first | omega | (unfold inr; omega))) only [I_lit, I_nI, I_neg, I_add, I_sub, I_mul, I_div, I_le, I_lt, I_eq, I_clamp, I_clampN, I_vin]
  unfold vc_Mod_toss
  refine m_refK hR.2.1.2.2.2 hR.2.2.2.2 hd ?_
  rw [e0]
  unfold tossZ at h
  refine ⟨fun c => ?_, fun c => by rw [if_neg c] at h; exact h⟩
  rw [if_pos c] at h
  have c2 := (ref_0 (Or.inl rfl)).mp c
  obtain ⟨d, rfl, hd8⟩ := nat_of (n := 8) ⟨c2.1.1, by omega⟩
  have hin : vp_in (I (d : Int)) 8 := I_vinN (by omega) (by decide)
  have c3 : A.2.2.2.1 d 0 = 1 := by simpa using c2.2
  have m2 := (hR.2.1.2.2.2 d (by omega)).2.1 c3
  have h3 := (hR.2.2.2.2 d (by omega)).2.1 c3
  rw [Int.toNat_natCast] at h
  refine ⟨hin, fun x14 ex => ⟨hin, fun x16 ey => ?_⟩⟩
  rw [I_clampN (by omega), m2.1] at ex
  rw [I_clampN (by omega), m2.2] at ey
  subst ex ey
  generalize A.2.2.2.1 d 1 = k at h h3
  generalize A.2.2.2.1 d 2 = f at h h3
  have e7 : (I k = 7) ↔ k = 7 := by simp (disch := (first | omega | (unfold inr; omega))) only [I_lit, I_nI, I_neg, I_add, I_sub, I_mul, I_div, I_le, I_lt, I_eq, I_clamp, I_clampN, I_vin]
  have e6 : (I k = 6) ↔ k = 6 := by simp (disch := (first | omega | (unfold inr; omega))) only [I_lit, I_nI, I_neg, I_add, I_sub, I_mul, I_div, I_le, I_lt, I_eq, I_clamp, I_clampN, I_vin]
  have e2 : (I k = 2) ↔ k = 2 := by simp (disch := (first | omega | (unfold inr; omega))) only [I_lit, I_nI, I_neg, I_add, I_sub, I_mul, I_div, I_le, I_lt, I_eq, I_clamp, I_clampN, I_vin]
  have e3 : (I k = 3) ↔ k = 3 := by simp (disch := (first | omega | (unfold inr; omega))) only [I_lit, I_nI, I_neg, I_add, I_sub, I_mul, I_div, I_le, I_lt, I_eq, I_clamp, I_clampN, I_vin]
  have ef : (I f = 0) ↔ f = 0 := by simp (disch := (first | omega | (unfold inr; omega))) only [I_lit, I_nI, I_neg, I_add, I_sub, I_mul, I_div, I_le, I_lt, I_eq, I_clamp, I_clampN, I_vin]
  rw [e7, e6, e2, e3, ef]
  unfold failZ at h
  refine ⟨fun c7 => by rw [if_pos (Or.inl c7)] at h; exact h, fun c7 => ⟨fun cf => ⟨fun c6 => ⟨k = 2 ∨ k = 3, fun c23 => ?_, fun c2 => Or.inl c2, fun c2 => ⟨fun c3 => ?_, fun c3 => Or.inr c3⟩⟩, fun c6 => ?_⟩, fun cf => by rw [if_pos (Or.inr cf)] at h; exact h⟩⟩
  · rw [if_neg (by omega), if_neg c6, if_pos c23] at h
    refine q_eq h ?_
    simp (disch := (first | omega | (unfold inr; omega))) only [I_lit, I_nI, I_neg, I_add, I_sub, I_mul, I_div, I_le, I_lt, I_eq, I_clamp, I_clampN, I_vin]
  · rw [if_neg (by omega), if_neg c6, if_neg (by omega)] at h
    exact h
  · rw [if_neg (by omega), if_pos c6] at h
    have hc := cost_6 h3.2.2
    refine sp_mcost ⟨h3.1, h3.2.1⟩ h3.2.2 (q_eq h ?_)
    subst c6
    simp (disch := (first | omega | (unfold inr; omega))) only [I_lit, I_nI, I_neg, I_add, I_sub, I_mul, I_div, I_le, I_lt, I_eq, I_clamp, I_clampN, I_vin]
