/-! toss and element: both sides answer alike -/
theorem e_toss {s : St} {A : Ab} (hR : RR s A) (x : Int32) : vc_Brt_toss x s (fun r => vc_Mod_toss x s (fun r' => r = r')) := by
  obtain ⟨d, hd, rfl⟩ := I_of x
  have hri := ref_in A.2.2.2.1 1 d
  have e0 : (I (refZ A.2.2.2.1 1 d) = 0) ↔ refZ A.2.2.2.1 1 d = 0 := by simp (disch := (first | omega | (unfold inr; omega))) only [I_lit, I_nI, I_neg, I_add, I_sub, I_mul, I_div, I_le, I_lt, I_eq, I_clamp, I_clampN, I_vin]
  unfold vc_Brt_toss
  refine c_refK hR hd ?_
  rw [e0]
  refine ⟨fun c => ?_, fun c => m_toss hR hd (by unfold tossZ; rw [if_neg c])⟩
  have c2 := (ref_0 (Or.inl rfl)).mp c
  obtain ⟨d, rfl, hd8⟩ := nat_of (n := 8) ⟨c2.1.1, by omega⟩
  have hin : vp_in (I (d : Int)) 8 := I_vinN (by omega) (by decide)
  have c3 : A.2.2.2.1 d 0 = 1 := by simpa using c2.2
  have h2 := (hR.1.2.2.2.1 d (by omega)).2.1 c3
  have h3 := (hR.2.2.2.2 d (by omega)).2.1 c3
  rw [shp_I (by omega), h2.1, h2.2]
  have M : ∀ r : Int32, r = I (failZ (A.2.2.2.1 d 1) (A.2.2.2.1 d 2)) → vc_Mod_toss (I (d : Int)) s (fun r' => r = r') := fun r hr => m_toss hR hd (by unfold tossZ; rw [if_pos c, Int.toNat_natCast]; exact hr)
  generalize A.2.2.2.1 d 1 = k at M h3
  generalize A.2.2.2.1 d 2 = f at M h3
  have e7 : (I k = 7) ↔ k = 7 := by simp (disch := (first | omega | (unfold inr; omega))) only [I_lit, I_nI, I_neg, I_add, I_sub, I_mul, I_div, I_le, I_lt, I_eq, I_clamp, I_clampN, I_vin]
  have e6 : (I k = 6) ↔ k = 6 := by simp (disch := (first | omega | (unfold inr; omega))) only [I_lit, I_nI, I_neg, I_add, I_sub, I_mul, I_div, I_le, I_lt, I_eq, I_clamp, I_clampN, I_vin]
  have e2 : (I k = 2) ↔ k = 2 := by simp (disch := (first | omega | (unfold inr; omega))) only [I_lit, I_nI, I_neg, I_add, I_sub, I_mul, I_div, I_le, I_lt, I_eq, I_clamp, I_clampN, I_vin]
  have e3 : (I k = 3) ↔ k = 3 := by simp (disch := (first | omega | (unfold inr; omega))) only [I_lit, I_nI, I_neg, I_add, I_sub, I_mul, I_div, I_le, I_lt, I_eq, I_clamp, I_clampN, I_vin]
  have ef : (I f = 0) ↔ f = 0 := by simp (disch := (first | omega | (unfold inr; omega))) only [I_lit, I_nI, I_neg, I_add, I_sub, I_mul, I_div, I_le, I_lt, I_eq, I_clamp, I_clampN, I_vin]
  rw [e7, e6, e2, e3, ef]
  refine ⟨hin, fun z => M _ ?_, fun z => ⟨fun z6 => ?_, fun z6 => ⟨fun z23 => M _ ?_, fun z23 => M _ ?_⟩⟩⟩
  · unfold failZ; rw [if_pos z]; rfl
  · subst z6
    have hc := cost_6 h3.2.2
    refine sp_kcost ⟨by decide, by decide⟩ h3.2.2 (M _ ?_)
    unfold failZ
    rw [if_neg z, if_pos rfl]
    simp (disch := (first | omega | (unfold inr; omega))) only [I_lit, I_nI, I_neg, I_add, I_sub, I_mul, I_div, I_le, I_lt, I_eq, I_clamp, I_clampN, I_vin]
  · unfold failZ; rw [if_neg z, if_neg z6, if_pos z23]
    simp (disch := (first | omega | (unfold inr; omega))) only [I_lit, I_nI, I_neg, I_add, I_sub, I_mul, I_div, I_le, I_lt, I_eq, I_clamp, I_clampN, I_vin]
  · unfold failZ; rw [if_neg z, if_neg z6, if_neg z23]
theorem e_elem {s : St} {A : Ab} (hR : RR s A) (x y : Int32) : vc_Brt_element x y s (fun v => vc_Mod_element x y s (fun r s2 => v = r ∧ s2 82 39 = 0 ∧ RR s2 A)) (fun E => vc_Mod_element x y s (fun _ s2 => s2 82 39 = (if E = kIA then 1 else 2) ∧ RR s2 A)) := by
  obtain ⟨d, hd, rfl⟩ := I_of x
  obtain ⟨i, hi, rfl⟩ := I_of y
  have ni : ¬ kIS = kIA := by decide
  unfold vc_Brt_element
  refine isSh_c hd ?_
  rw [bi_f]
  refine ⟨fun q => ?_, fun q => ?_⟩
  · have q : 0 ≤ d ∧ d ≤ 7 := by simpa using q
    obtain ⟨d, rfl, hd8⟩ := nat_of (n := 8) ⟨q.1, by omega⟩
    have hin : vp_in (I (d : Int)) 8 := I_vinN (by omega) (by decide)
    have hS := hR.1.2.2.2.1 d (by omega)
    have hv := (hR.2.2.2.2 d (by omega)).1
    have e2 : (I (A.2.2.2.1 d 0) = 2) ↔ A.2.2.2.1 d 0 = 2 := by simp (disch := (first | omega | (unfold inr; omega))) only [I_lit, I_nI, I_neg, I_add, I_sub, I_mul, I_div, I_le, I_lt, I_eq, I_clamp, I_clampN, I_vin]
    rw [shp_I (by omega), hS.1, e2]
    refine ⟨hin, fun c => ?_, fun c => ?_⟩
    · refine m_elem hR hd hi ?_
      have ht : thrZ A.2.2.2.1 (d : Int) i = 2 := by unfold thrZ; rw [if_pos q, Int.toNat_natCast, if_neg (fun z => c z.1)]
      refine ⟨?_, RR_39 hR _⟩
      rw [wr_at, ht, if_neg ni]; rfl
    · have h2 := hS.2.2 c
      have h3 := ((hR.2.2.2.2 d (by omega)).2.2 c).1
      unfold vc_She_hasPlace
      rw [h2.2.1, show I (A.2.2.2.1 d 4) - 1 = I (A.2.2.2.1 d 4 - 1) from by simp (disch := (first | omega | (unfold inr; omega))) only [I_lit, I_nI, I_neg, I_add, I_sub, I_mul, I_div, I_le, I_lt, I_eq, I_clamp, I_clampN, I_vin], show vc_Brt_within (I i) 0 (I (A.2.2.2.1 d 4 - 1)) = vc_Brt_within (I i) (I 0) (I (A.2.2.2.1 d 4 - 1)) from rfl]
      refine sp_within hi ⟨by decide, by decide⟩ ⟨by omega, by omega⟩ ?_
      dsimp only
      rw [bi_f]
      refine ⟨fun z => ?_, fun z => ?_⟩
      · have z : 0 ≤ i ∧ i ≤ A.2.2.2.1 d 4 - 1 := by simpa using z
        obtain ⟨i, rfl, hi8⟩ := nat_of (n := 100) (z := i) ⟨z.1, by omega⟩
        refine ⟨I_vinN (by omega) (by decide), ?_⟩
        have ht : thrZ A.2.2.2.1 (d : Int) (i : Int) = 0 := by unfold thrZ; rw [if_pos q, Int.toNat_natCast, if_pos ⟨c, by omega, by omega⟩]
        refine m_elem hR hd hi ⟨?_, ?_, RR_39 hR _⟩
        · unfold elemV
          rw [if_pos ht, Int.toNat_natCast, Int.toNat_natCast, I_clampN (by omega), show 66 + 2 * d + 1 = 67 + 2 * d by omega, h2.2.2 i (by omega)]
        · rw [wr_at, ht]; rfl
      · have z : ¬ (0 ≤ i ∧ i ≤ A.2.2.2.1 d 4 - 1) := by simpa using z
        refine m_elem hR hd hi ?_
        have ht : thrZ A.2.2.2.1 (d : Int) i = 2 := by unfold thrZ; rw [if_pos q, Int.toNat_natCast, if_neg (fun w => z ⟨w.2.1, by omega⟩)]
        refine ⟨?_, RR_39 hR _⟩
        rw [wr_at, ht, if_neg ni]; rfl
  · have q : ¬ (0 ≤ d ∧ d ≤ 7) := by simpa using q
    refine m_elem hR hd hi ?_
    have ht : thrZ A.2.2.2.1 d i = 1 := by unfold thrZ; rw [if_neg q]
    refine ⟨?_, RR_39 hR _⟩
    rw [wr_at, ht, if_pos rfl]; rfl
