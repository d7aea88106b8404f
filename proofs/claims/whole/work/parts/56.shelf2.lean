def shw (sh : Nat → Nat → Int) (d : Nat) (g : Nat → Int) : Nat → Nat → Int := fun d' i => if d' = d then g i else sh d' i
def scw (sc : Nat → Nat → Int32) (d : Nat) (g : Nat → Int32) : Nat → Nat → Int32 := fun d' i => if d' = d then g i else sc d' i
theorem shw_at {sh : Nat → Nat → Int} {d : Nat} {g : Nat → Int} : shw sh d g d = g := by funext i; simp [shw]
theorem shw_ne {sh : Nat → Nat → Int} {d d' : Nat} {g : Nat → Int} (h : d' ≠ d) : shw sh d g d' = sh d' := by funext i; simp [shw, h]
theorem scw_at {sc : Nat → Nat → Int32} {d : Nat} {g : Nat → Int32} : scw sc d g d = g := by funext i; simp [scw]
theorem scw_ne {sc : Nat → Nat → Int32} {d d' : Nat} {g : Nat → Int32} (h : d' ≠ d) : scw sc d g d' = sc d' := by funext i; simp [scw, h]
theorem scw_self {sc : Nat → Nat → Int32} {d : Nat} : scw sc d (sc d) = sc := by
  funext d' i
  unfold scw
  split
  · rename_i h; rw [h]
  · rfl
theorem shw_self {sh : Nat → Nat → Int} {d : Nat} : shw sh d (sh d) = sh := by
  funext d' i
  unfold shw
  split
  · rename_i h; rw [h]
  · rfl
theorem RR_sh {s s1 s2 : St} {A : Ab} (hR : RR s A) {d : Nat} (hd : d < 8) {g : Nat → Int} {c : Nat → Int32} (h1 : ∀ p j, p ≠ 66 + 2 * d → p ≠ 67 + 2 * d → s1 p j = s p j) (h2 : ∀ p j, p < 92 → s2 p j = s1 p j) (h3 : ∀ p j, 92 ≤ p → p < 97 → j ≠ d → s2 p j = s1 p j) (h4 : ∀ j, (j < 100 * d ∨ 100 * d + 100 ≤ j) → s2 97 j = s1 97 j) (hc : ShC s1 (shw A.2.2.2.1 d g) (scw A.2.2.2.2 d c) d) (hm : ShM s2 (shw A.2.2.2.1 d g) (scw A.2.2.2.2 d c) d) (hv : ShV (shw A.2.2.2.1 d g) (scw A.2.2.2.2 d c) d) : RR s2 (A.1, A.2.1, A.2.2.1, shw A.2.2.2.1 d g, scw A.2.2.2.2 d c) := by
  obtain ⟨⟨c1, c2, c3, c4, c5⟩, ⟨m1, m2, m3, m4⟩, v1, v2, v3⟩ := hR
  have f : ∀ p j, (p < 66 ∨ 81 < p) → p < 92 → s2 p j = s p j := fun p j a b => (h2 p j b).trans (h1 p j (by omega) (by omega))
  refine ⟨⟨RC_ext (fun q j hq => f _ _ (by omega) (by omega)) c1, (f _ _ (by omega) (by omega)).trans c2, fun z => RC_ext (fun q j hq => f _ _ (by omega) (by omega)) (c3 z), fun d' hd' => ?_, ?_⟩, ⟨RM_ext (fun j => f _ _ (by omega) (by omega)) m1, (f _ _ (by omega) (by omega)).trans m2, fun z => RM_ext (fun j => f _ _ (by omega) (by omega)) (m3 z), fun d' hd' => ?_⟩, v1, v2, fun d' hd' => ?_⟩
  · by_cases e : d' = d
    · subst e
      exact ShC_ext hd (fun p j a b => h2 p j (by omega)) hc
    · unfold ShC
      dsimp only
      rw [shw_ne e, scw_ne e]
      obtain ⟨q1, q2, q3⟩ := c4 d' hd'
      have k1 : ∀ j, s2 (66 + 2 * d') j = s (66 + 2 * d') j := fun j => (h2 _ _ (by omega)).trans (h1 _ _ (by omega) (by omega))
      have k2 : ∀ j, s2 (67 + 2 * d') j = s (67 + 2 * d') j := fun j => (h2 _ _ (by omega)).trans (h1 _ _ (by omega) (by omega))
      simp only [k1, k2]
      exact ⟨q1, q2, q3⟩
  · rcases c5 with z | ⟨z1, z2, z3⟩
    · exact Or.inl ((f _ _ (by omega) (by omega)).trans z)
    · exact Or.inr ⟨(f _ _ (by omega) (by omega)).trans z1, (f _ _ (by omega) (by omega)).trans z2, fun i hi => (f _ _ (by omega) (by omega)).trans (z3 i hi)⟩
  · by_cases e : d' = d
    · subst e
      exact hm
    · unfold ShM
      dsimp only
      rw [shw_ne e, scw_ne e]
      obtain ⟨q1, q2, q3⟩ := m4 d' hd'
      have k1 : ∀ p, 92 ≤ p → p < 97 → s2 p d' = s p d' := fun p a b => (h3 p _ a b e).trans (h1 _ _ (by omega) (by omega))
      rw [k1 92 (by decide) (by decide), k1 93 (by decide) (by decide), k1 94 (by decide) (by decide), k1 95 (by decide) (by decide), k1 96 (by decide) (by decide)]
      refine ⟨q1, q2, fun z => ⟨(q3 z).1, (q3 z).2.1, fun j hj => ?_⟩⟩
      exact (h4 _ (by omega)).trans ((h1 _ _ (by omega) (by omega)).trans ((q3 z).2.2 j hj))
  · by_cases e : d' = d
    · subst e
      exact hv
    · unfold ShV
      dsimp only
      rw [shw_ne e, scw_ne e]
      exact v3 d' hd'
theorem e_keep {s : St} {A : Ab} (hR : RR s A) (x y z u : Int32) : vc_Brt_keep x y z u s (fun r s1 => vc_Mod_keep x y z u s1 (fun r' s2 => r = r' ∧ ∃ A', RR s2 A')) := by
  obtain ⟨d, hd, rfl⟩ := I_of x
  obtain ⟨w, hw, rfl⟩ := I_of y
  obtain ⟨k, hk, rfl⟩ := I_of z
  obtain ⟨f, hf, rfl⟩ := I_of u
  have b1 : vc_Brt_within (I w) 0 1 = vc_Brt_within (I w) (I 0) (I 1) := rfl
  have b2 : vc_Brt_within (I k) 0 7 = vc_Brt_within (I k) (I 0) (I 7) := rfl
  have b3 : vc_Brt_within (I f) 0 9 = vc_Brt_within (I f) (I 0) (I 9) := rfl
  have n1 : vc_Mod_isIn (I w) 0 1 = vc_Mod_isIn (I w) (I 0) (I 1) := rfl
  have n2 : vc_Mod_isIn (I k) 0 7 = vc_Mod_isIn (I k) (I 0) (I 7) := rfl
  have n3 : vc_Mod_isIn (I f) 0 9 = vc_Mod_isIn (I f) (I 0) (I 9) := rfl
  have e0 : (I w = 0) ↔ w = 0 := by simp (disch := (first | omega | (unfold inr; omega))) only [I_lit, I_nI, I_neg, I_add, I_sub, I_mul, I_div, I_le, I_lt, I_eq, I_clamp, I_clampN, I_vin]
  have e1 : (I w = 1) ↔ w = 1 := by simp (disch := (first | omega | (unfold inr; omega))) only [I_lit, I_nI, I_neg, I_add, I_sub, I_mul, I_div, I_le, I_lt, I_eq, I_clamp, I_clampN, I_vin]
  have mod : ∀ (s1 : St) (Q : Int32 → St → Prop), (¬ ((0 ≤ d ∧ d ≤ 7) ∧ (0 ≤ w ∧ w ≤ 1) ∧ (w = 1 → (0 ≤ k ∧ k ≤ 7) ∧ (0 ≤ f ∧ f ≤ 9))) → Q (-1) s1) → (((0 ≤ d ∧ d ≤ 7) ∧ (0 ≤ w ∧ w ≤ 1) ∧ (w = 1 → (0 ≤ k ∧ k ≤ 7) ∧ (0 ≤ f ∧ f ≤ 9))) → Q 0 (wr (wr (wr s1 92 d.toNat (I w)) 93 d.toNat (I k)) 94 d.toNat (I f))) → vc_Mod_keep (I d) (I w) (I k) (I f) s1 Q := by
    intro s1 Q hno hyes
    unfold vc_Mod_keep
    rw [n1, n2, n3]
    refine isSh_m hd ?_
    rw [bi_f]
    refine ⟨fun q => hno (fun q2 => (of_decide_eq_false q) q2.1), fun q => ?_⟩
    have q : 0 ≤ d ∧ d ≤ 7 := by simpa using q
    refine sp_isIn hw ⟨by decide, by decide⟩ ⟨by decide, by decide⟩ ?_
    rw [bi_f, e1]
    refine ⟨fun q2 => hno (fun q3 => (of_decide_eq_false q2) q3.2.1), fun q2 => ?_⟩
    have q2 : 0 ≤ w ∧ w ≤ 1 := by simpa using q2
    have hin : vp_in (I d) 8 := (I_vin hd).mpr ⟨by omega, by omega⟩
    rw [I_clamp (by omega) (by omega)]
    refine ⟨w = 1 → (0 ≤ k ∧ k ≤ 7) ∧ (0 ≤ f ∧ f ≤ 9), fun c => ⟨hin, fun s18 h18 => ⟨hin, fun s20 h20 => ⟨hin, fun s22 h22 => ?_⟩⟩⟩, fun c c1 => absurd c1 c, fun c => ?_⟩
    · rw [h22, h20, h18]
      exact hyes ⟨q, q2, c⟩
    · refine sp_isIn hk ⟨by decide, by decide⟩ ⟨by decide, by decide⟩ ?_
      rw [bi_f]
      refine ⟨fun q4 => hno (fun q3 => (of_decide_eq_false q4) (q3.2.2 c).1), fun q4 => ?_⟩
      have q4 : 0 ≤ k ∧ k ≤ 7 := by simpa using q4
      refine sp_isIn hf ⟨by decide, by decide⟩ ⟨by decide, by decide⟩ ?_
      rw [bi_f]
      refine ⟨fun q5 _ => ⟨q4, by simpa using q5⟩, fun q5 => hno (fun q3 => (of_decide_eq_false q5) (q3.2.2 c).2)⟩
  unfold vc_Brt_keep
  rw [b1, b2, b3]
  refine isSh_c hd ?_
  rw [bi_f]
  refine ⟨fun q => ?_, fun q => ?_⟩
  · exact mod s _ (fun _ => ⟨rfl, A, hR⟩) (fun q2 => absurd q2.1 (of_decide_eq_false q))
  have q : 0 ≤ d ∧ d ≤ 7 := by simpa using q
  refine sp_within hw ⟨by decide, by decide⟩ ⟨by decide, by decide⟩ ?_
  rw [bi_f, e0]
  refine ⟨fun q2 => ?_, fun q2 => ?_⟩
  · have q2 : 0 ≤ w ∧ w ≤ 1 := by simpa using q2
    obtain ⟨d, rfl, hd8⟩ := nat_of (n := 8) ⟨q.1, by omega⟩
    have hin : vp_in (I (d : Int)) 8 := I_vinN (by omega) (by decide)
    rw [shp_I (by omega)]
    simp only [Int.toNat_natCast] at mod
    constructor
    · intro c
      have c1 : w = 1 := by omega
      subst c1
      refine sp_within hk ⟨by decide, by decide⟩ ⟨by decide, by decide⟩ ?_
      rw [bi_f]
      refine ⟨fun q4 => mod s _ (fun _ => ⟨rfl, A, hR⟩) (fun q3 => absurd (q3.2.2 rfl).1 (of_decide_eq_false q4)), fun q4 => ?_⟩
      have q4 : 0 ≤ k ∧ k ≤ 7 := by simpa using q4
      refine sp_within hf ⟨by decide, by decide⟩ ⟨by decide, by decide⟩ ?_
      rw [bi_f]
      refine ⟨fun q5 => ⟨hin, ?_⟩, fun q5 => mod s _ (fun _ => ⟨rfl, A, hR⟩) (fun q3 => absurd (q3.2.2 rfl).2 (of_decide_eq_false q5))⟩
      have q5 : 0 ≤ f ∧ f ≤ 9 := by simpa using q5
      unfold vc_She_holdKind
      intro s10 h10 s11 h11 s12 h12
      have f1 : ∀ p j, p ≠ 66 + 2 * d → s12 p j = s p j := fun p j hp => by rw [h12, wr_ne hp, h11, wr_ne hp, h10, wr_ne hp]
      refine mod s12 _ (fun q6 => absurd ⟨q, q2, fun _ => ⟨q4, q5⟩⟩ q6) (fun _ => ⟨rfl, _, RR_sh hR (d := d) (by omega) (g := fun i => if i = 0 then 1 else if i = 1 then k else f) (c := A.2.2.2.2 d) (fun p j h1 h2 => f1 p j h1) (fun p j hp => ?_) (fun p j a b hj => ?_) (fun j hj => ?_) ⟨?_, fun _ => ⟨?_, ?_⟩, fun z => ?_⟩ ⟨?_, fun _ => ⟨?_, ?_⟩, fun z => ?_⟩ ⟨?_, fun _ => ?_, fun z => ?_⟩⟩)
      · rw [wr_ne (by omega), wr_ne (by omega), wr_ne (by omega)]
      · unfold wr
        repeat' split
        all_goals first | rfl | (exfalso; omega)
      · rw [wr_ne (by omega), wr_ne (by omega), wr_ne (by omega)]
      · rw [shw_at, h12, wr_off (by decide), h11, wr_off (by decide), h10, wr_at]; rfl
      · rw [shw_at, h12, wr_off (by decide), h11, wr_at]; rfl
      · rw [shw_at, h12, wr_at]; rfl
      · rw [shw_at] at z
        exact absurd (show (1 : Int) = 2 from z) (by decide)
      · rw [shw_at, wr_ne (by decide), wr_ne (by decide), wr_at]; rfl
      · rw [shw_at, wr_ne (by decide), wr_at]; rfl
      · rw [shw_at, wr_at]; rfl
      · rw [shw_at] at z
        exact absurd (show (1 : Int) = 2 from z) (by decide)
      · rw [shw_at]; exact Or.inr (Or.inl rfl)
      · rw [shw_at]; exact ⟨q4.1, q4.2, q5.1, q5.2⟩
      · rw [shw_at] at z
        exact absurd (show (1 : Int) = 2 from z) (by decide)
    · intro c
      subst c
      refine ⟨hin, fun s26 h26 => ?_⟩
      have f1 : ∀ p j, p ≠ 66 + 2 * d → s26 p j = s p j := fun p j hp => by rw [h26, wr_ne hp]
      refine mod s26 _ (fun q6 => absurd ⟨q, q2, fun c => absurd c (by decide)⟩ q6) (fun _ => ⟨rfl, _, RR_sh hR (d := d) (by omega) (g := fun _ => 0) (c := A.2.2.2.2 d) (fun p j h1 h2 => f1 p j h1) (fun p j hp => ?_) (fun p j a b hj => ?_) (fun j hj => ?_) ⟨?_, fun z => ?_, fun z => ?_⟩ ⟨?_, fun z => ?_, fun z => ?_⟩ ⟨?_, fun z => ?_, fun z => ?_⟩⟩)
      · rw [wr_ne (by omega), wr_ne (by omega), wr_ne (by omega)]
      · unfold wr
        repeat' split
        all_goals first | rfl | (exfalso; omega)
      · rw [wr_ne (by omega), wr_ne (by omega), wr_ne (by omega)]
      · rw [shw_at, h26, wr_at]; rfl
      · rw [shw_at] at z; exact absurd z (by decide)
      · rw [shw_at] at z; exact absurd z (by decide)
      · rw [shw_at, wr_ne (by decide), wr_ne (by decide), wr_at]
      · rw [shw_at] at z; exact absurd z (by decide)
      · rw [shw_at] at z; exact absurd z (by decide)
      · rw [shw_at]; exact Or.inl rfl
      · rw [shw_at] at z; exact absurd z (by decide)
      · rw [shw_at] at z; exact absurd z (by decide)
  · exact mod s _ (fun _ => ⟨rfl, A, hR⟩) (fun q3 => absurd q3.2.1 (of_decide_eq_false q2))
theorem e_row {s : St} {A : Ab} (hR : RR s A) (x y z : Int32) : vc_Brt_row x y z s (fun r s1 => vc_Mod_row x y z s1 (fun r' s2 => r = r' ∧ ∃ A', RR s2 A')) := by
  obtain ⟨d, hd, rfl⟩ := I_of x
  obtain ⟨w, hw, rfl⟩ := I_of y
  obtain ⟨n, hn, rfl⟩ := I_of z
  have b1 : vc_Brt_within (I w) 0 2 = vc_Brt_within (I w) (I 0) (I 2) := rfl
  have n1 : vc_Mod_isIn (I w) 0 2 = vc_Mod_isIn (I w) (I 0) (I 2) := rfl
  have e0 : (I n ≤ 100) ↔ n ≤ 100 := by simp (disch := (first | omega | (unfold inr; omega))) only [I_lit, I_nI, I_neg, I_add, I_sub, I_mul, I_div, I_le, I_lt, I_eq, I_clamp, I_clampN, I_vin]
  have e1 : (0 ≤ I n) ↔ 0 ≤ n := by simp (disch := (first | omega | (unfold inr; omega))) only [I_lit, I_nI, I_neg, I_add, I_sub, I_mul, I_div, I_le, I_lt, I_eq, I_clamp, I_clampN, I_vin]
  have mod : ∀ (s1 : St) (Q : Int32 → St → Prop), (¬ ((0 ≤ d ∧ d ≤ 7) ∧ (0 ≤ w ∧ w ≤ 2) ∧ n ≤ 100) → Q (-1) s1) → (((0 ≤ d ∧ d ≤ 7) ∧ (0 ≤ w ∧ w ≤ 2) ∧ n ≤ 100) → ¬ 0 ≤ n → Q (-14) s1) → (((0 ≤ d ∧ d ≤ 7) ∧ (0 ≤ w ∧ w ≤ 2) ∧ n ≤ 100) → 0 ≤ n → ∀ s' : St, (∀ p j, p < 92 → s' p j = s1 p j) → (∀ p j, 92 ≤ p → p < 97 → j ≠ d.toNat → s' p j = s1 p j) → (∀ j, (j < 100 * d.toNat ∨ 100 * d.toNat + 100 ≤ j) → s' 97 j = s1 97 j) → s' 92 d.toNat = 2 → s' 95 d.toNat = I w → s' 96 d.toNat = I n → (∀ j, j < 100 → s' 97 (100 * d.toNat + j) = 0) → Q 0 s') → vc_Mod_row (I d) (I w) (I n) s1 Q := by
    intro s1 Q h1 h2 h3
    unfold vc_Mod_row
    rw [n1]
    refine isSh_m hd ?_
    rw [bi_f]
    refine ⟨fun q => h1 (fun q2 => (of_decide_eq_false q) q2.1), fun q => ?_⟩
    have q : 0 ≤ d ∧ d ≤ 7 := by simpa using q
    refine sp_isIn hw ⟨by decide, by decide⟩ ⟨by decide, by decide⟩ ?_
    rw [bi_f, e0, e1]
    refine ⟨fun q2 => h1 (fun q3 => (of_decide_eq_false q2) q3.2.1), fun q2 => ?_⟩
    have q2 : 0 ≤ w ∧ w ≤ 2 := by simpa using q2
    refine ⟨fun q3 => ⟨fun q4 => ?_, fun q4 => h2 ⟨q, q2, q3⟩ q4⟩, fun q3 => h1 (fun q4 => q3 q4.2.2)⟩
    have h3 := h3 ⟨q, q2, q3⟩ q4
    obtain ⟨d, rfl, hd8⟩ := nat_of (n := 8) ⟨q.1, by omega⟩
    simp only [Int.toNat_natCast] at h3
    have hin : vp_in (I (d : Int)) 8 := I_vinN (by omega) (by decide)
    rw [I_clampN (by omega)]
    refine ⟨hin, fun s19 h19 => ⟨hin, fun s21 h21 => ⟨hin, fun s23 h23 => ?_⟩⟩⟩
    refine ⟨fun N t s' => ∃ i : Nat, t = I i ∧ i ≤ 100 ∧ N = 100 - i ∧ (∀ p j, p ≠ 97 → s' p j = s23 p j) ∧ (∀ j, (j < 100 * d ∨ 100 * d + 100 ≤ j) → s' 97 j = s23 97 j) ∧ (∀ j, j < i → s' 97 (100 * d + j) = 0), ⟨_, 0, rfl, by omega, rfl, fun _ _ _ => rfl, fun _ _ => rfl, fun j hj => absurd hj (Nat.not_lt_zero j)⟩, ?_⟩
    rintro N t s' ⟨i, rfl, hi, hN, f1, f2, f3⟩
    constructor
    · intro z
      have z : i = 100 := by
        revert z
        simp (disch := (first | omega | (unfold inr; omega))) only [I_lit, I_nI, I_neg, I_add, I_sub, I_mul, I_div, I_le, I_lt, I_eq, I_clamp, I_clampN, I_vin]
        omega
      subst z
      refine h3 s' (fun p j hp => ?_) (fun p j a b hj => ?_) (fun j hj => ?_) ?_ ?_ ?_ f3
      · rw [f1 p j (by omega), h23, wr_ne (by omega), h21, wr_ne (by omega), h19, wr_ne (by omega)]
      · rw [f1 p j (by omega), h23, h21, h19]
        unfold wr
        repeat' split
        all_goals first | rfl | (exfalso; omega)
      · rw [f2 j hj, h23, wr_ne (by omega), h21, wr_ne (by omega), h19, wr_ne (by omega)]
      · rw [f1 _ _ (by decide), h23, wr_ne (by decide), h21, wr_ne (by decide), h19, wr_at]
      · rw [f1 _ _ (by decide), h23, wr_ne (by decide), h21, wr_at]
      · rw [f1 _ _ (by decide), h23, wr_at]
    · intro z
      have z : i < 100 := by
        revert z
        simp (disch := (first | omega | (unfold inr; omega))) only [I_lit, I_nI, I_neg, I_add, I_sub, I_mul, I_div, I_le, I_lt, I_eq, I_clamp, I_clampN, I_vin]
        omega
      have ei : 100 * I (d : Int) + I (i : Int) = I ((100 * d + i : Nat) : Int) := by
        simp (disch := (first | omega | (unfold inr; omega))) only [I_lit, I_nI, I_neg, I_add, I_sub, I_mul, I_div, I_le, I_lt, I_eq, I_clamp, I_clampN, I_vin]
        congr 1
      rw [ei, I_clampN (by omega)]
      refine ⟨I_vinN (by omega) (by decide), fun s30 h30 x31 h31 => ⟨100 - (i + 1), by omega, i + 1, ?_, by omega, rfl, fun p j hp => ?_, fun j hj => ?_, fun j hj => ?_⟩⟩
      · rw [h31]
        simp (disch := (first | omega | (unfold inr; omega))) only [I_lit, I_nI, I_neg, I_add, I_sub, I_mul, I_div, I_le, I_lt, I_eq, I_clamp, I_clampN, I_vin]
        congr 1
      · rw [h30, wr_ne hp]; exact f1 p j hp
      · rw [h30, wr_off (by omega)]; exact f2 j hj
      · rw [h30]
        by_cases e : j = i
        · subst e
          exact wr_at
        · rw [wr_off (by omega)]; exact f3 j (by omega)
  unfold vc_Brt_row
  rw [b1]
  refine isSh_c hd ?_
  rw [bi_f]
  refine ⟨fun q => mod s _ (fun _ => ⟨rfl, A, hR⟩) (fun q2 => absurd q2.1 (of_decide_eq_false q)) (fun q2 => absurd q2.1 (of_decide_eq_false q)), fun q => ?_⟩
  have q : 0 ≤ d ∧ d ≤ 7 := by simpa using q
  refine sp_within hw ⟨by decide, by decide⟩ ⟨by decide, by decide⟩ ?_
  rw [bi_f, e0, e1]
  refine ⟨fun q2 => mod s _ (fun _ => ⟨rfl, A, hR⟩) (fun q3 => absurd q3.2.1 (of_decide_eq_false q2)) (fun q3 => absurd q3.2.1 (of_decide_eq_false q2)), fun q2 => ?_⟩
  have q2 : 0 ≤ w ∧ w ≤ 2 := by simpa using q2
  refine ⟨fun q3 => ⟨fun q4 => ?_, fun q4 => mod s _ (fun q5 => absurd ⟨q, q2, q3⟩ q5) (fun _ _ => ⟨rfl, A, hR⟩) (fun _ q5 => absurd q5 q4)⟩, fun q3 => mod s _ (fun _ => ⟨rfl, A, hR⟩) (fun q4 => absurd q4.2.2 q3) (fun q4 => absurd q4.2.2 q3)⟩
  obtain ⟨d, rfl, hd8⟩ := nat_of (n := 8) ⟨q.1, by omega⟩
  have hin : vp_in (I (d : Int)) 8 := I_vinN (by omega) (by decide)
  simp only [Int.toNat_natCast] at mod
  rw [shp_I (by omega)]
  refine ⟨hin, ?_⟩
  unfold vc_She_holdRow
  intro s10 h10 s11 h11 s12 h12
  refine sp_fill (by decide) ?_
  intro s13 g1 g2
  have f1 : ∀ p j, p ≠ 66 + 2 * d → p ≠ 67 + 2 * d → s13 p j = s p j := fun p j a b => by rw [g1 p j (by omega), h12, wr_ne a, h11, wr_ne a, h10, wr_ne a]
  have k0 : s13 (66 + 2 * d) 0 = I 2 := by rw [g1 _ _ (by omega), h12, wr_off (by decide), h11, wr_off (by decide), h10, wr_at]; rfl
  have k3 : s13 (66 + 2 * d) 3 = I w := by rw [g1 _ _ (by omega), h12, wr_off (by decide), h11, wr_at]
  have k4 : s13 (66 + 2 * d) 4 = I n := by rw [g1 _ _ (by omega), h12, wr_at]
  refine mod s13 _ (fun q5 => absurd ⟨q, q2, q3⟩ q5) (fun _ q5 => absurd q4 q5) (fun _ _ s' m1 m2 m3 m4 m5 m6 m7 => ⟨rfl, _, RR_sh hR (d := d) (by omega) (g := fun i => if i = 0 then 2 else if i = 3 then w else n) (c := fun _ => 0) f1 m1 m2 m3 ⟨?_, fun z => ?_, fun z => ?_⟩ ⟨?_, fun z => ?_, fun z => ?_⟩ ⟨?_, fun z => ?_, fun z => ?_⟩⟩)
  · rw [shw_at]; exact k0
  · rw [shw_at] at z; exact absurd (show (2 : Int) = 1 from z) (by decide)
  · rw [shw_at, scw_at]; exact ⟨k3, k4, fun j hj => by rw [show 67 + 2 * d = 66 + 2 * d + 1 by omega]; exact g2 j hj⟩
  · rw [shw_at]; exact m4
  · rw [shw_at] at z; exact absurd (show (2 : Int) = 1 from z) (by decide)
  · rw [shw_at, scw_at]; exact ⟨m5, m6, m7⟩
  · rw [shw_at]; exact Or.inr (Or.inr rfl)
  · rw [shw_at] at z; exact absurd (show (2 : Int) = 1 from z) (by decide)
  · rw [shw_at, scw_at]; exact ⟨⟨q2.1, q2.2, q4, q3⟩, fun _ _ => by decide⟩
