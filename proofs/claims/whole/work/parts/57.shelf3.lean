-- put
def cutZ (w : Int) (v : Int32) : Int32 := if w = 0 then (Int32.toInt8 v).toInt32 else if w = 1 then (Int32.toInt16 v).toInt32 else v
theorem cut_in {v : Int32} : -128 ≤ (cutZ 0 v).toInt ∧ (cutZ 0 v).toInt ≤ 127 := by
  unfold cutZ
  rw [if_pos rfl, Int8.toInt_toInt32]
  have h1 := Int8.le_toInt (Int32.toInt8 v)
  have h2 := Int8.toInt_lt (Int32.toInt8 v)
  omega
theorem e_put {s : St} {A : Ab} (hR : RR s A) (x y v : Int32) : vc_Brt_put x y v s (fun r s1 => vc_Mod_put x y v s1 (fun r' s2 => r = r' ∧ ∃ A', RR s2 A')) := by
  obtain ⟨d, hd, rfl⟩ := I_of x
  obtain ⟨i, hi, rfl⟩ := I_of y
  have hri := ref_in A.2.2.2.1 2 d
  have e0 : (I (refZ A.2.2.2.1 2 d) = 0) ↔ refZ A.2.2.2.1 2 d = 0 := by simp (disch := (first | omega | (unfold inr; omega))) only [I_lit, I_nI, I_neg, I_add, I_sub, I_mul, I_div, I_le, I_lt, I_eq, I_clamp, I_clampN, I_vin]
  unfold vc_Brt_put
  refine c_refR hR hd ?_
  rw [e0]
  constructor
  · intro c
    have c2 := (ref_0 (Or.inr rfl)).mp c
    obtain ⟨d, rfl, hd8⟩ := nat_of (n := 8) ⟨c2.1.1, by omega⟩
    have hin : vp_in (I (d : Int)) 8 := I_vinN (by omega) (by decide)
    have c3 : A.2.2.2.1 d 0 = 2 := by simpa using c2.2
    have hS := hR.1.2.2.2.1 d (by omega)
    have h2 := hS.2.2 c3
    have hM := hR.2.1.2.2.2 d (by omega)
    have m2 := hM.2.2 c3
    have h3 := (hR.2.2.2.2 d (by omega)).2.2 c3
    have hl := h3.1
    have mod : ∀ (s1 : St) (Q : Int32 → St → Prop), (∀ p j, 92 ≤ p → s1 p j = s p j) → (¬ (0 ≤ i ∧ i ≤ A.2.2.2.1 d 4 - 1) → Q (-13) s1) → ((0 ≤ i ∧ i ≤ A.2.2.2.1 d 4 - 1) → Q 0 (wr s1 97 (100 * d + i.toNat) (cutZ (A.2.2.2.1 d 3) v))) → vc_Mod_put (I (d : Int)) (I i) v s1 Q := by
      intro s1 Q hf hno hyes
      have hsm : ∀ d, d < 8 → ShM s1 A.2.2.2.1 A.2.2.2.2 d := fun d hd => ShM_ext hf (hR.2.1.2.2.2 d hd)
      unfold vc_Mod_put
      refine m_refR hsm hR.2.2.2.2 hd ?_
      rw [e0]
      refine ⟨fun _ => ⟨hin, ?_⟩, fun q => absurd c q⟩
      rw [I_clampN (by omega), hf 96 d (by decide), m2.2.1, hf 95 d (by decide), m2.1, show I (A.2.2.2.1 d 4) - 1 = I (A.2.2.2.1 d 4 - 1) from by simp (disch := (first | omega | (unfold inr; omega))) only [I_lit, I_nI, I_neg, I_add, I_sub, I_mul, I_div, I_le, I_lt, I_eq, I_clamp, I_clampN, I_vin], show vc_Mod_isIn (I i) 0 (I (A.2.2.2.1 d 4 - 1)) = vc_Mod_isIn (I i) (I 0) (I (A.2.2.2.1 d 4 - 1)) from rfl]
      refine sp_isIn hi ⟨by decide, by decide⟩ ⟨by omega, by omega⟩ ?_
      rw [bi_f]
      refine ⟨fun q => ?_, fun q => hno (of_decide_eq_false q)⟩
      have q : 0 ≤ i ∧ i ≤ A.2.2.2.1 d 4 - 1 := by simpa using q
      obtain ⟨i, rfl, hi8⟩ := nat_of (n := A.2.2.2.1 d 4) ⟨q.1, by omega⟩
      have ei : 100 * I (d : Int) + I (i : Int) = I ((100 * d + i : Nat) : Int) := by
        simp (disch := (first | omega | (unfold inr; omega))) only [I_lit, I_nI, I_neg, I_add, I_sub, I_mul, I_div, I_le, I_lt, I_eq, I_clamp, I_clampN, I_vin]
        congr 1
      have w0 : (I (A.2.2.2.1 d 3) = 0) ↔ A.2.2.2.1 d 3 = 0 := by simp (disch := (first | omega | (unfold inr; omega))) only [I_lit, I_nI, I_neg, I_add, I_sub, I_mul, I_div, I_le, I_lt, I_eq, I_clamp, I_clampN, I_vin]
      have w1 : (I (A.2.2.2.1 d 3) = 1) ↔ A.2.2.2.1 d 3 = 1 := by simp (disch := (first | omega | (unfold inr; omega))) only [I_lit, I_nI, I_neg, I_add, I_sub, I_mul, I_div, I_le, I_lt, I_eq, I_clamp, I_clampN, I_vin]
      rw [ei, I_clampN (by omega), w0, w1]
      have hy := hyes q
      rw [Int.toNat_natCast] at hy
      refine ⟨hin, fun x => x = cutZ (A.2.2.2.1 d 3) v, ?_, fun z0 => ⟨hin, fun z1 => ?_, fun z1 => ?_⟩, fun z0 => ?_⟩
      · rintro x rfl
        refine ⟨I_vinN (by omega) (by decide), fun s21 h21 => ?_⟩
        rw [h21]
        exact hy
      · unfold cutZ; rw [if_neg z0, if_neg z1]
      · unfold cutZ; rw [if_neg z0, if_pos z1]
      · unfold cutZ; rw [if_pos z0]
    rw [shp_I (by omega)]
    refine ⟨hin, ?_⟩
    unfold vc_She_hasPlace
    rw [h2.2.1, show I (A.2.2.2.1 d 4) - 1 = I (A.2.2.2.1 d 4 - 1) from by simp (disch := (first | omega | (unfold inr; omega))) only [I_lit, I_nI, I_neg, I_add, I_sub, I_mul, I_div, I_le, I_lt, I_eq, I_clamp, I_clampN, I_vin], show vc_Brt_within (I i) 0 (I (A.2.2.2.1 d 4 - 1)) = vc_Brt_within (I i) (I 0) (I (A.2.2.2.1 d 4 - 1)) from rfl]
    refine sp_within hi ⟨by decide, by decide⟩ ⟨by omega, by omega⟩ ?_
    dsimp only
    rw [bi_f]
    refine ⟨fun q => ⟨hin, ?_⟩, fun q => mod s _ (fun _ _ _ => rfl) (fun _ => ⟨rfl, A, hR⟩) (fun q2 => absurd q2 (of_decide_eq_false q))⟩
    have q : 0 ≤ i ∧ i ≤ A.2.2.2.1 d 4 - 1 := by simpa using q
    unfold vc_She_write
    rw [h2.1]
    have w0 : (I (A.2.2.2.1 d 3) = 0) ↔ A.2.2.2.1 d 3 = 0 := by simp (disch := (first | omega | (unfold inr; omega))) only [I_lit, I_nI, I_neg, I_add, I_sub, I_mul, I_div, I_le, I_lt, I_eq, I_clamp, I_clampN, I_vin]
    have w1 : (I (A.2.2.2.1 d 3) = 1) ↔ A.2.2.2.1 d 3 = 1 := by simp (disch := (first | omega | (unfold inr; omega))) only [I_lit, I_nI, I_neg, I_add, I_sub, I_mul, I_div, I_le, I_lt, I_eq, I_clamp, I_clampN, I_vin]
    rw [w0, w1]
    refine ⟨fun x => x = cutZ (A.2.2.2.1 d 3) v, ?_, fun z0 => ⟨fun z1 => ?_, fun z1 => ?_⟩, fun z0 => ?_⟩
    · rintro x rfl
      refine ⟨(I_vin hi).mpr ⟨by omega, by omega⟩, fun s13 h13 => ?_⟩
      rw [I_clamp (by omega) (by omega)] at h13
      have f1 : ∀ p j, p ≠ 67 + 2 * d → s13 p j = s p j := fun p j a => by rw [h13, wr_ne (by omega)]
      refine mod s13 _ (fun p j hp => f1 p j (by omega)) (fun q2 => absurd q q2) (fun _ => ⟨rfl, ?_⟩)
      have key := RR_sh (s1 := s13) (s2 := wr s13 97 (100 * d + i.toNat) (cutZ (A.2.2.2.1 d 3) v)) hR (d := d) (by omega) (g := A.2.2.2.1 d) (c := fun j => if j = i.toNat then cutZ (A.2.2.2.1 d 3) v else A.2.2.2.2 d j) (fun p j _ h => f1 p j h) (fun p j hp => wr_ne (by omega)) (fun p j a b hj => wr_ne (by omega)) (fun j hj => wr_off (by omega)) ⟨?_, fun z => ?_, fun z => ⟨?_, ?_, fun j hj => ?_⟩⟩ ⟨?_, fun z => ?_, fun z => ⟨?_, ?_, fun j hj => ?_⟩⟩ ⟨?_, fun z => ?_, fun z => ⟨?_, fun z3 j => ?_⟩⟩
      · exact ⟨_, key⟩
      · rw [shw_self, f1 _ _ (by omega)]; exact hS.1
      · rw [shw_self] at z; omega
      · rw [shw_self, f1 _ _ (by omega)]; exact h2.1
      · rw [shw_self, f1 _ _ (by omega)]; exact h2.2.1
      · rw [scw_at, h13, show 66 + 2 * d + 1 = 67 + 2 * d by omega]
        by_cases e : j = i.toNat
        · subst e
          rw [wr_at, if_pos rfl]
        · rw [wr_off e, if_neg e]; exact h2.2.2 j hj
      · rw [shw_self, wr_ne (by decide), f1 _ _ (by omega)]; exact hM.1
      · rw [shw_self] at z; omega
      · rw [shw_self, wr_ne (by decide), f1 _ _ (by omega)]; exact m2.1
      · rw [shw_self, wr_ne (by decide), f1 _ _ (by omega)]; exact m2.2.1
      · rw [scw_at]
        by_cases e : j = i.toNat
        · subst e
          rw [wr_at, if_pos rfl]
        · rw [wr_off (by omega), if_neg e, f1 _ _ (by omega)]; exact m2.2.2 j hj
      · rw [shw_self]; exact Or.inr (Or.inr c3)
      · rw [shw_self] at z; omega
      · rw [shw_self]; exact hl
      · rw [shw_self] at z3
        rw [scw_at]
        by_cases e : j = i.toNat
        · rw [if_pos e, z3]; exact cut_in
        · rw [if_neg e]; exact h3.2 z3 j
    · unfold cutZ; rw [if_neg z0, if_neg z1]
    · unfold cutZ; rw [if_neg z0, if_pos z1]
    · unfold cutZ; rw [if_pos z0]
  · intro c
    unfold vc_Mod_put
    refine m_refR hR.2.1.2.2.2 hR.2.2.2.2 hd ?_
    rw [e0]
    exact ⟨fun q => absurd q c, fun _ => ⟨rfl, A, hR⟩⟩
-- cost
theorem sp_mcost {k f : Int} {Q : Int32 → Prop} (hk : 0 ≤ k ∧ k ≤ 7) (hf : 0 ≤ f ∧ f ≤ 9) (h : Q (I (costZ k f))) : vc_Mod_costBy (I k) (I f) Q := by
  rcases (show k = 0 ∨ k = 1 ∨ k = 2 ∨ k = 3 ∨ k = 4 ∨ k = 5 ∨ k = 6 ∨ k = 7 by omega) with rfl | rfl | rfl | rfl | rfl | rfl | rfl | rfl
  all_goals simp only [I0, I1, I2, I3, I4, I5, I6, I7]
  all_goals simp [vc_Mod_costBy]
  all_goals refine q_eq h ?_
  all_goals simp only [costZ]
  all_goals simp
  all_goals simp (disch := (first | omega | (unfold inr; omega))) only [I_lit, I_nI, I_neg, I_add, I_sub, I_mul, I_div, I_le, I_lt, I_eq, I_clamp, I_clampN, I_vin]
theorem e_cost {s : St} {A : Ab} (hR : RR s A) (x : Int32) : vc_Brt_cost x s (fun r => vc_Mod_cost x s (fun r' => r = r')) := by
  obtain ⟨d, hd, rfl⟩ := I_of x
  have hri := ref_in A.2.2.2.1 1 d
  have e0 : (I (refZ A.2.2.2.1 1 d) = 0) ↔ refZ A.2.2.2.1 1 d = 0 := by simp (disch := (first | omega | (unfold inr; omega))) only [I_lit, I_nI, I_neg, I_add, I_sub, I_mul, I_div, I_le, I_lt, I_eq, I_clamp, I_clampN, I_vin]
  unfold vc_Brt_cost
  refine c_refK hR hd ?_
  rw [e0]
  constructor
  · intro c
    have c2 := (ref_0 (Or.inl rfl)).mp c
    obtain ⟨d, rfl, hd8⟩ := nat_of (n := 8) ⟨c2.1.1, by omega⟩
    have hin : vp_in (I (d : Int)) 8 := I_vinN (by omega) (by decide)
    have c3 : A.2.2.2.1 d 0 = 1 := by simpa using c2.2
    have h2 := (hR.1.2.2.2.1 d (by omega)).2.1 c3
    have m2 := (hR.2.1.2.2.2 d (by omega)).2.1 c3
    have h3 := (hR.2.2.2.2 d (by omega)).2.1 c3
    rw [shp_I (by omega), h2.1, h2.2]
    refine ⟨hin, hin, sp_kcost ⟨h3.1, h3.2.1⟩ h3.2.2 ?_⟩
    unfold vc_Mod_cost
    refine m_refK hR.2.1.2.2.2 hR.2.2.2.2 hd ?_
    rw [e0]
    refine ⟨fun _ => ⟨hin, hin, ?_⟩, fun q => absurd c q⟩
    rw [I_clampN (by omega), m2.1, m2.2]
    exact sp_mcost ⟨h3.1, h3.2.1⟩ h3.2.2 rfl
  · intro c
    unfold vc_Mod_cost
    refine m_refK hR.2.1.2.2.2 hR.2.2.2.2 hd ?_
    rw [e0]
    exact ⟨fun q => absurd q c, fun _ => rfl⟩
