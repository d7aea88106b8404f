-- judge
def badJ (k : Kv) (so : Int) (sc : Nat → Int32) (i : Nat) : Prop := ¬ sc i = leastI so ∧ ¬ ((i : Int) < (TK k).2.1 ∧ sc i = (TK k).2.2.2.2.2.2 i - I (k 9 2))
theorem e_judge {s : St} {A : Ab} (hR : RR s A) (x : Int32) : vc_Brt_judge x s (fun r s1 => vc_Mod_judge x s1 (fun r' s2 => r = r' ∧ RR s2 A)) := by
  obtain ⟨d, hd, rfl⟩ := I_of x
  have hC := hR.2.2.1
  have hk := hC.1
  have ho := hC.2.2.1
  have hri := ref_in A.2.2.2.1 2 d
  have e0 : (I (refZ A.2.2.2.1 2 d) = 0) ↔ refZ A.2.2.2.1 2 d = 0 := by simp (disch := (first | omega | (unfold inr; omega))) only [I_lit, I_nI, I_neg, I_add, I_sub, I_mul, I_div, I_le, I_lt, I_eq, I_clamp, I_clampN, I_vin]
  have htk := TK_in hk ho
  have hnb := nB_le hk
  unfold vc_Brt_judge
  refine c_refR hR hd ?_
  rw [e0]
  constructor
  · intro c
    have c2 := (ref_0 (Or.inr rfl)).mp c
    obtain ⟨d, rfl, hd8⟩ := nat_of (n := 8) ⟨c2.1.1, by omega⟩
    have hin : vp_in (I (d : Int)) 8 := I_vinN (by omega) (by decide)
    have c3 : A.2.2.2.1 d 0 = 2 := by simpa using c2.2
    have hV := ((hR.2.2.2.2 d (by omega)).2.2 c3).1
    obtain ⟨l, el⟩ : ∃ l : Nat, A.2.2.2.1 d 4 = l := ⟨(A.2.2.2.1 d 4).toNat, by omega⟩
    generalize eso : A.2.2.2.1 d 3 = so at hV
    generalize esc : A.2.2.2.2 d = sc
    have mod : ∀ (s1 : St) (r : Int32), RR s1 A → (fst1 (badJ A.1 so sc) l = l → r = -4) → (fst1 (badJ A.1 so sc) l < l → r = I (fst1 (badJ A.1 so sc) l : Nat)) → vc_Mod_judge (I (d : Int)) s1 (fun r' s2 => r = r' ∧ RR s2 A) := by
      intro s1 r hR1 h1 h2
      unfold vc_Mod_judge
      refine m_refR hR1.2.1.2.2.2 hR1.2.2.2.2 hd ?_
      rw [e0]
      refine ⟨fun _ => ?_, fun q => absurd c q⟩
      intro s13 h13
      have hR13 : RR s13 A := RR_KM (by rw [h13]; exact KM_w82 (by decide)) hR1
      refine m_there hk ho hR13.2.1.1 (by rw [h13]; exact wr_at) ?_
      intro s14 hkg ht h18 hts
      have hR14 := RR_KM hkg.km hR13
      obtain ⟨m3, m4, m5⟩ := (hR14.2.1.2.2.2 d (by omega)).2.2 c3
      refine sp_bits ?_
      rw [ht.1, pop_TK hC, I_clampN (by omega), m3, m4, eso, el]
      refine ⟨fun N t => ∃ i : Nat, t = I (i : Nat) ∧ i ≤ l ∧ N = l - i ∧ ∀ y, y < i → ¬ badJ A.1 so sc y, ⟨_, 0, rfl, by omega, rfl, fun y hy => absurd hy (Nat.not_lt_zero y)⟩, ?_⟩
      rintro N t ⟨i, rfl, hi, hN, hb⟩
      refine ⟨hin, fun z => ?_, fun z => ?_⟩
      · have z : i = l := by
          revert z
          simp (disch := (first | omega | (unfold inr; omega))) only [I_lit, I_nI, I_neg, I_add, I_sub, I_mul, I_div, I_le, I_lt, I_eq, I_clamp, I_clampN, I_vin]
          omega
        subst z
        exact ⟨h1 (FU_uni ⟨Nat.le_refl i, hb, fun h => absurd h (Nat.lt_irrefl i)⟩).symm, hR14⟩
      · have z : i < l := by
          revert z
          simp (disch := (first | omega | (unfold inr; omega))) only [I_lit, I_nI, I_neg, I_add, I_sub, I_mul, I_div, I_le, I_lt, I_eq, I_clamp, I_clampN, I_vin]
          omega
        have ei : 100 * I (d : Int) + I (i : Int) = I ((100 * d + i : Nat) : Int) := by
          simp (disch := (first | omega | (unfold inr; omega))) only [I_lit, I_nI, I_neg, I_add, I_sub, I_mul, I_div, I_le, I_lt, I_eq, I_clamp, I_clampN, I_vin]
          congr 1
        rw [ei, I_clampN (by omega), I_clampN (by omega), m5 i (by omega), esc]
        refine ⟨I_vinN (by omega) (by decide), ?_⟩
        intro x23 hx23
        subst hx23
        refine ⟨hin, sp_least ⟨by omega, by omega⟩ ?_⟩
        have bad : badJ A.1 so sc i → (r = I (i : Nat) ∧ RR s14 A) := by
          intro hbb
          have e : i = fst1 (badJ A.1 so sc) l := FU_uni ⟨by omega, hb, fun _ => hbb⟩
          exact ⟨by rw [h2 (by omega), ← e], hR14⟩
        refine ⟨¬ badJ A.1 so sc i, fun hnb x28 h28 => ⟨l - (i + 1), by omega, i + 1, ?_, by omega, rfl, fun y hy => ?_⟩, fun z2 => ⟨fun z3 => ⟨?_, ?_, fun z4 q => q.2 ⟨?_, ?_⟩, fun z4 => bad ⟨z2, fun q => z4 ?_⟩⟩, fun z3 => bad ⟨z2, fun q => z3 ?_⟩⟩, fun z2 q => q.1 z2⟩
        · rw [h28]
          simp (disch := (first | omega | (unfold inr; omega))) only [I_lit, I_nI, I_neg, I_add, I_sub, I_mul, I_div, I_le, I_lt, I_eq, I_clamp, I_clampN, I_vin]
          congr 1
        · by_cases e : y = i
          · rw [e]; exact hnb
          · exact hb y (by omega)
        · have z3 : (i : Int) < (TK A.1).2.1 := by
            revert z3
            simp (disch := (first | omega | (unfold inr; omega))) only [I_lit, I_nI, I_neg, I_add, I_sub, I_mul, I_div, I_le, I_lt, I_eq, I_clamp, I_clampN, I_vin]
            exact id
          exact I_vinN (by omega) (by decide)
        · exact v_in (a := 2) ⟨by decide, by decide⟩ (by decide) rfl
        · revert z3
          simp (disch := (first | omega | (unfold inr; omega))) only [I_lit, I_nI, I_neg, I_add, I_sub, I_mul, I_div, I_le, I_lt, I_eq, I_clamp, I_clampN, I_vin]
          exact id
        · have z3 : (i : Int) < (TK A.1).2.1 := by
            revert z3
            simp (disch := (first | omega | (unfold inr; omega))) only [I_lit, I_nI, I_neg, I_add, I_sub, I_mul, I_div, I_le, I_lt, I_eq, I_clamp, I_clampN, I_vin]
            exact id
          rw [← hts i z3]
          rw [show s14 83 (Int32.toNatClampNeg 2) = I (A.1 9 2) from hR14.2.1.1.1 2 (by decide)] at z4
          exact z4
        · rw [show s14 83 (Int32.toNatClampNeg 2) = I (A.1 9 2) from hR14.2.1.1.1 2 (by decide), hts i q.1]
          exact q.2
        · have := q.1
          simp (disch := (first | omega | (unfold inr; omega))) only [I_lit, I_nI, I_neg, I_add, I_sub, I_mul, I_div, I_le, I_lt, I_eq, I_clamp, I_clampN, I_vin]
          exact this
    refine ⟨hin, c_allGo hk ho hR.1.1 ?_⟩
    intro s15 hkl hleg hts _
    have hR15 := RR_KC hkl.kc hR
    obtain ⟨m3, m4, m5⟩ := (hR15.1.2.2.2.1 d (by omega)).2.2 c3
    rw [shp_I (by omega), m4, el]
    refine ⟨fun N t => ∃ i : Nat, t = I (i : Nat) ∧ i ≤ l ∧ N = l - i ∧ ∀ y, y < i → ¬ badJ A.1 so sc y, ⟨_, 0, rfl, by omega, rfl, fun y hy => absurd hy (Nat.not_lt_zero y)⟩, ?_⟩
    rintro N t ⟨i, rfl, hi, hN, hb⟩
    constructor
    · intro z
      have z : i = l := by
        revert z
        simp (disch := (first | omega | (unfold inr; omega))) only [I_lit, I_nI, I_neg, I_add, I_sub, I_mul, I_div, I_le, I_lt, I_eq, I_clamp, I_clampN, I_vin]
        omega
      subst z
      have e : i = fst1 (badJ A.1 so sc) i := FU_uni ⟨Nat.le_refl i, hb, fun h => absurd h (Nat.lt_irrefl i)⟩
      exact mod s15 _ hR15 (fun _ => rfl) (fun h => by omega)
    · intro z
      have z : i < l := by
        revert z
        simp (disch := (first | omega | (unfold inr; omega))) only [I_lit, I_nI, I_neg, I_add, I_sub, I_mul, I_div, I_le, I_lt, I_eq, I_clamp, I_clampN, I_vin]
        omega
      have em : s15 (66 + 2 * d + 1) i = sc i := by
        rw [show 66 + 2 * d + 1 = 67 + 2 * d by omega, m5 i (by omega), esc]
      have e1 : s15 53 1 = I (TK A.1).2.1 := hleg.2.1
      have e5 : s15 1 5 = I (A.1 9 2) := hR15.1.1.1.2.2.1
      rw [e1, I_clampN (by omega), em, e5]
      have so_in : ∀ P : Prop, ((i : Int) < (TK A.1).2.1 → P) → ¬ (I (TK A.1).2.1 ≤ I (i : Nat)) → P := by
        intro P hP q
        refine hP ?_
        revert q
        simp (disch := (first | omega | (unfold inr; omega))) only [I_lit, I_nI, I_neg, I_add, I_sub, I_mul, I_div, I_le, I_lt, I_eq, I_clamp, I_clampN, I_vin]
        omega
      refine ⟨fun v => (v = 0 ∧ ¬ ((i : Int) < (TK A.1).2.1 ∧ sc i = (TK A.1).2.2.2.2.2.2 i - I (A.1 9 2))) ∨ (v = 1 ∧ ((i : Int) < (TK A.1).2.1 ∧ sc i = (TK A.1).2.2.2.2.2.2 i - I (A.1 9 2))), ?_, ¬ ((i : Int) < (TK A.1).2.1 ∧ sc i = (TK A.1).2.2.2.2.2.2 i - I (A.1 9 2)), fun q => Or.inl ⟨rfl, q⟩, fun q1 q2 => ?_, fun q1 => so_in _ (fun q2 => ⟨I_vinN (by omega) (by decide), I_vinN (by omega) (by decide), fun q3 q4 => q3 ?_, fun q3 => Or.inr ⟨rfl, q2, ?_⟩⟩) q1⟩
      · intro v hv
        refine ⟨¬ badJ A.1 so sc i, fun hnb x28 h28 => ⟨l - (i + 1), by omega, i + 1, ?_, by omega, rfl, fun y hy => ?_⟩, fun z2 => ?_, fun z2 => ?_⟩
        · rw [h28]
          simp (disch := (first | omega | (unfold inr; omega))) only [I_lit, I_nI, I_neg, I_add, I_sub, I_mul, I_div, I_le, I_lt, I_eq, I_clamp, I_clampN, I_vin]
          congr 1
        · by_cases e : y = i
          · rw [e]; exact hnb
          · exact hb y (by omega)
        · rcases hv with ⟨rfl, _⟩ | ⟨_, hv⟩
          · exact absurd rfl z2
          · exact fun q => q.2 hv
        · rcases hv with ⟨_, hv⟩ | ⟨rfl, _⟩
          · refine sp_skip (so := so) (sc := sc) ⟨by omega, by omega⟩ (by rw [m3, eso]) (by omega) em ?_
            rw [bi_f]
            refine ⟨fun q2 q3 => q2 (decide_eq_false q3.1), fun q2 => ?_⟩
            have q2 := of_decide_eq_false q2
            have e : i = fst1 (badJ A.1 so sc) l := FU_uni ⟨by omega, hb, fun _ => ⟨q2, hv⟩⟩
            exact mod s15 _ hR15 (fun h => by omega) (fun _ => by rw [← e])
          · exact absurd z2 (by decide)
      · have : ¬ (i : Int) < (TK A.1).2.1 := by
          revert q1
          simp (disch := (first | omega | (unfold inr; omega))) only [I_lit, I_nI, I_neg, I_add, I_sub, I_mul, I_div, I_le, I_lt, I_eq, I_clamp, I_clampN, I_vin]
          omega
        exact this q2.1
      · rw [show s15 (53 + 1) i = (TK A.1).2.2.2.2.2.2 i from hts i q4.1]
        exact q4.2
      · rw [show s15 (53 + 1) i = (TK A.1).2.2.2.2.2.2 i from hts i q2] at q3
        exact q3
  · intro c
    unfold vc_Mod_judge
    refine m_refR hR.2.1.2.2.2 hR.2.2.2.2 hd ?_
    rw [e0]
    exact ⟨fun q => absurd q c, fun _ => ⟨rfl, hR⟩⟩
-- haste
def hasteZ (k : Kv) : Int := max 0 ((HK k).2.2.2.2.1 - (HK (kst k 5 (fun _ => 0))).2.2.2.2.1)
theorem e_haste {s : St} {A : Ab} (hR : RR s A) : vc_Brt_haste s (fun r s1 => vc_Mod_haste s1 (fun r' s2 => r = r' ∧ RR s2 A)) := by
  have hC := hR.2.2.1
  have hk := hC.1
  have ho := hC.2.2.1
  have a := hk.1
  have a5 := hk.2.1
  have hC2 : CC (kst A.1 5 (fun _ => 0)) := CC_kst hC (Or.inl rfl) (fun b hb => Or.inl ⟨rfl, by decide, by decide⟩)
  have hk2 := hC2.1
  have ho2 := hC2.2.2.1
  have h9 : ∀ i, kst A.1 5 (fun _ => 0) 9 i = A.1 9 i := fun i => kst_ne (by decide)
  have hin1 := HK_in hk ho
  have hin2 := HK_in hk2 ho2
  simp only [h9] at hin2
  have mod : ∀ (s1 : St) (r : Int32), RR s1 A → r = I (hasteZ A.1) → vc_Mod_haste s1 (fun r' s2 => r = r' ∧ RR s2 A) := by
    intro s1 r hR1 hr
    unfold vc_Mod_haste
    intro s10 h10
    have hR10 : RR s10 A := RR_KM (by rw [h10]; exact KM_w82 (by decide)) hR1
    refine m_tab hk ho hR10.2.1.1 (by rw [h10]; exact wr_at) ?_
    intro s11 hkg ht hh h18 x12 h12
    have hR11 := RR_KM hkg.km hR10
    have h117 : s11 82 7 = 0 := (hkg.2 7 (by omega)).trans (by rw [h10]; exact wr_at)
    refine sp_copies (by decide) ?_
    intro s13 g1 g2
    have mt13 : MT s11 s13 := ⟨fun p j hp => g1 p j (by omega), g1 _ _ (by decide), g2, (g1 _ _ (by decide)).trans h117⟩
    have hm13 : RM s13 83 (kst A.1 5 (A.1 5)) := by rw [kst_self]; exact RM_ext (fun j => g1 83 j (by decide)) hR11.2.1.1
    refine ⟨fun N t s' => ∃ i : Nat, t = I (i : Nat) ∧ (i : Int) ≤ A.1 9 1 ∧ N = (A.1 9 1).toNat - i ∧ MT s11 s' ∧ RM s' 83 (kst A.1 5 (fun j => if j < i then 0 else A.1 5 j)), ⟨_, 0, rfl, by simpa using a.2.2.1, rfl, mt13, RM_kc (by decide) (fun b _ => by simp) hm13⟩, ?_⟩
    rintro N t s' ⟨i, rfl, hi, hN, hmt, hrm⟩
    refine ⟨v_in (a := 1) ⟨by decide, by decide⟩ (by decide) rfl, ?_⟩
    rw [show s' 83 (Int32.toNatClampNeg 1) = I (A.1 9 1) from (hrm.1 1 (by decide)).trans (by rw [kst_ne (by decide)])]
    constructor
    · intro z
      have z : A.1 9 1 ≤ i := by
        revert z
        simp (disch := (first | omega | (unfold inr; omega))) only [I_lit, I_nI, I_neg, I_add, I_sub, I_mul, I_div, I_le, I_lt, I_eq, I_clamp, I_clampN, I_vin]
        exact id
      have hm2 : RM s' 83 (kst A.1 5 (fun _ => 0)) := RM_kc (by decide) (fun b hb => by rw [if_pos (by omega)]) hrm
      refine m_tab hk2 ho2 hm2 hmt.2.2.2 ?_
      intro s20 hkg2 ht2 hh2 _
      refine (hmt.kg hkg2).end hR11 ?_
      intro s21 hR21 g21
      have e15 : s21 82 15 = I (HK (kst A.1 5 (fun _ => 0))).2.2.2.2.1 := (g21 _ _ (by decide)).trans hh2.2.2
      rw [h12, hh.2.2, e15, show I (HK A.1).2.2.2.2.1 - I (HK (kst A.1 5 (fun _ => 0))).2.2.2.2.1 = I ((HK A.1).2.2.2.2.1 - (HK (kst A.1 5 (fun _ => 0))).2.2.2.2.1) from by simp (disch := (first | omega | (unfold inr; omega))) only [I_lit, I_nI, I_neg, I_add, I_sub, I_mul, I_div, I_le, I_lt, I_eq, I_clamp, I_clampN, I_vin]]
      exact sp_mmost (a := 0) ⟨by decide, by decide⟩ ⟨by omega, by omega⟩ ⟨hr, hR21⟩
    · intro z
      have z : (i : Int) < A.1 9 1 := by
        revert z
        simp (disch := (first | omega | (unfold inr; omega))) only [I_lit, I_nI, I_neg, I_add, I_sub, I_mul, I_div, I_le, I_lt, I_eq, I_clamp, I_clampN, I_vin]
        omega
      refine at_body (b := i) (by omega) (w := 2) (by decide) rfl ⟨I_vinN (by omega) (by decide), ?_⟩
      rw [I_clampN (by omega)]
      intro s27 h27 x28 h28
      refine ⟨(A.1 9 1).toNat - (i + 1), by omega, i + 1, ?_, by omega, rfl, by rw [h27]; exact hmt.put, ?_⟩
      · rw [h28]
        simp (disch := (first | omega | (unfold inr; omega))) only [I_lit, I_nI, I_neg, I_add, I_sub, I_mul, I_div, I_le, I_lt, I_eq, I_clamp, I_clampN, I_vin]
        congr 1
      · have := RM_put hrm (s' := s27) (by rw [kst_ne (by decide), kst_ne (by decide)]; omega) (a := 5) (b := i) (v := 0) (by omega) (by decide) (by rw [h27]; exact wr_at) (fun j hj => by rw [h27]; exact wr_off hj)
        rw [kst_ku] at this
        refine RM_kc (by decide) (fun b _ => ?_) this
        repeat' split
        all_goals first | rfl | (exfalso; omega)
  unfold vc_Brt_haste
  refine c_allReturn hk ho hR.1.1 (by decide) ?_
  intro s11 hkl ht hh x12 h12
  have hR11 := RR_KC hkl.kc hR
  refine sp_become hk hR11.1.1 (by omega) ?_
  intro s13 f13 hr13
  refine sp_fill (by decide) ?_
  intro s14 f14 g14
  have hr14 : RC s14 35 (kst A.1 5 (fun _ => 0)) := by
    have q9 : ∀ x j, x ≠ 5 → kst A.1 5 (fun _ => 0) x j = A.1 x j := fun x j hx => kst_ne hx
    obtain ⟨⟨r1, r2, r3, r4, r5, r6⟩, hy, hb⟩ := hr13
    refine ⟨⟨?_, ?_, ?_, ?_, ?_, ?_⟩, fun y hyy => ?_, fun b hbb => ?_⟩
    · rw [f14 _ _ (by omega), h9]; exact r1
    · rw [f14 _ _ (by omega), h9]; exact r2
    · rw [f14 _ _ (by omega), h9]; exact r3
    · rw [f14 _ _ (by omega), h9]; exact r4
    · rw [f14 _ _ (by omega), h9]; exact r5
    · rw [f14 _ _ (by omega), h9]; exact r6
    · rw [h9] at hyy
      rw [q9 0 _ (by decide), q9 1 _ (by decide), q9 2 _ (by decide)]
      simp (disch := omega) only [f14]
      exact hy y hyy
    · rw [h9] at hbb
      obtain ⟨q1, q2, q3, q4, q5, q6⟩ := hb b hbb
      rw [q9 3 _ (by decide), q9 4 _ (by decide), kst_at, q9 6 _ (by decide), q9 7 _ (by decide), q9 8 _ (by decide)]
      refine ⟨(f14 _ _ (by omega)).trans q1, (f14 _ _ (by omega)).trans q2, ?_, (f14 _ _ (by omega)).trans q4, (f14 _ _ (by omega)).trans q5, (f14 _ _ (by omega)).trans q6⟩
      exact g14 b (by omega)
  refine c_allReturn hk2 ho2 hr14 (by decide) ?_
  intro s16 hkl2 ht2 hh2
  have hkc : KC s11 s16 := (KC_become f13).tr (KC.tr (fun p j hp => f14 p j (by omega)) hkl2.kc)
  have hR16 := RR_KC hkc hR11
  refine mod s16 _ hR16 ?_
  rw [h12, show s11 55 4 = _ from hh.2.2.2.2.1, show s16 55 4 = _ from hh2.2.2.2.2.1, show I (HK A.1).2.2.2.2.1 - I (HK (kst A.1 5 (fun _ => 0))).2.2.2.2.1 = I ((HK A.1).2.2.2.2.1 - (HK (kst A.1 5 (fun _ => 0))).2.2.2.2.1) from by simp (disch := (first | omega | (unfold inr; omega))) only [I_lit, I_nI, I_neg, I_add, I_sub, I_mul, I_div, I_le, I_lt, I_eq, I_clamp, I_clampN, I_vin]]
  exact imax_I (a := 0) ⟨by decide, by decide⟩ ⟨by omega, by omega⟩
