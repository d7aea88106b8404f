-- copy
theorem sp_places {s : St} {p : Nat} {l i n : Int} (hl : 0 ≤ l ∧ l ≤ 100) (e : s p 4 = I l) (hi : inr i) (hn : inr n) {Q : Bool → Prop} (h : Q (decide ((0 ≤ i ∧ i ≤ l) ∧ n ≤ l - i))) : vc_She_hasPlaces p (I i) (I n) s Q := by
  unfold vc_She_hasPlaces
  rw [e, show vc_Brt_within (I i) 0 (I l) = vc_Brt_within (I i) (I 0) (I l) from rfl]
  refine sp_within hi ⟨by decide, by decide⟩ ⟨by omega, by omega⟩ ?_
  rw [bi_f]
  constructor
  · intro z
    have z := of_decide_eq_false z
    exact q_eq h (by simp; omega)
  · intro z
    have z : 0 ≤ i ∧ i ≤ l := by simpa using z
    rw [show I l - I i = I (l - i) from by simp (disch := (first | omega | (unfold inr; omega))) only [I_lit, I_nI, I_neg, I_add, I_sub, I_mul, I_div, I_le, I_lt, I_eq, I_clamp, I_clampN, I_vin], show (I (l - i) < I n) ↔ l - i < n from by simp (disch := (first | omega | (unfold inr; omega))) only [I_lit, I_nI, I_neg, I_add, I_sub, I_mul, I_div, I_le, I_lt, I_eq, I_clamp, I_clampN, I_vin]]
    exact ⟨fun q => q_eq h (by simp; omega), fun q => q_eq h (by simp; omega)⟩
/-- n elements of 97 come from place a on to place b on -/
def cp97 (s : St) (a b n : Nat) : Nat → Int32 := fun q => if b ≤ q ∧ q < b + n then s 97 (a + (q - b)) else s 97 q
theorem e_copy {s : St} {A : Ab} (hR : RR s A) (x1 x2 x3 x4 x5 : Int32) : vc_Brt_copy x1 x2 x3 x4 x5 s (fun r s1 => vc_Mod_copy x1 x2 x3 x4 x5 s1 (fun r' s2 => r = r' ∧ ∃ A', RR s2 A')) := by
  obtain ⟨d, hd, rfl⟩ := I_of x1
  obtain ⟨i, hi, rfl⟩ := I_of x2
  obtain ⟨e, he, rfl⟩ := I_of x3
  obtain ⟨j, hj, rfl⟩ := I_of x4
  obtain ⟨n, hn, rfl⟩ := I_of x5
  have v0 : ∀ d : Nat, d < 8 → A.2.2.2.1 d 0 = 0 ∨ A.2.2.2.1 d 0 = 1 ∨ A.2.2.2.1 d 0 = 2 := fun d h => (hR.2.2.2.2 d h).1
  have x0 : ∀ d : Nat, d < 8 → ((I (A.2.2.2.1 d 0) = 0) ↔ A.2.2.2.1 d 0 = 0) := fun d h => by
    have := v0 d h
    simp (disch := (first | omega | (unfold inr; omega))) only [I_lit, I_nI, I_neg, I_add, I_sub, I_mul, I_div, I_le, I_lt, I_eq, I_clamp, I_clampN, I_vin]
  have x2 : ∀ d : Nat, d < 8 → ((I (A.2.2.2.1 d 0) = 2) ↔ A.2.2.2.1 d 0 = 2) := fun d h => by
    have := v0 d h
    simp (disch := (first | omega | (unfold inr; omega))) only [I_lit, I_nI, I_neg, I_add, I_sub, I_mul, I_div, I_le, I_lt, I_eq, I_clamp, I_clampN, I_vin]
  obtain ⟨hi1, hi2⟩ := id hi
  obtain ⟨hj1, hj2⟩ := id hj
  have n0 : (I n < 0) ↔ n < 0 := by simp (disch := (first | omega | (unfold inr; omega))) only [I_lit, I_nI, I_neg, I_add, I_sub, I_mul, I_div, I_le, I_lt, I_eq, I_clamp, I_clampN, I_vin]
  have i0 : (I i < 0) ↔ i < 0 := by simp (disch := (first | omega | (unfold inr; omega))) only [I_lit, I_nI, I_neg, I_add, I_sub, I_mul, I_div, I_le, I_lt, I_eq, I_clamp, I_clampN, I_vin]
  have j0 : (I j < 0) ↔ j < 0 := by simp (disch := (first | omega | (unfold inr; omega))) only [I_lit, I_nI, I_neg, I_add, I_sub, I_mul, I_div, I_le, I_lt, I_eq, I_clamp, I_clampN, I_vin]
  have ij : (I i ≤ I j) ↔ i ≤ j := I_le hi hj
  -- the model
  have mod : ∀ (s1 : St) (Q : Int32 → St → Prop), (∀ p j, 92 ≤ p → s1 p j = s p j) →
      (¬ ((0 ≤ d ∧ d ≤ 7) ∧ (0 ≤ e ∧ e ≤ 7)) → Q (-1) s1) →
      (((0 ≤ d ∧ d ≤ 7) ∧ (0 ≤ e ∧ e ≤ 7)) → (A.2.2.2.1 d.toNat 0 = 0 ∨ A.2.2.2.1 e.toNat 0 = 0) → Q (-11) s1) →
      (((0 ≤ d ∧ d ≤ 7) ∧ (0 ≤ e ∧ e ≤ 7)) → ¬ (A.2.2.2.1 d.toNat 0 = 0 ∨ A.2.2.2.1 e.toNat 0 = 0) → ¬ (A.2.2.2.1 d.toNat 0 = 2 ∧ A.2.2.2.1 e.toNat 0 = 2 ∧ A.2.2.2.1 d.toNat 3 = A.2.2.2.1 e.toNat 3) → Q (-12) s1) →
      (((0 ≤ d ∧ d ≤ 7) ∧ (0 ≤ e ∧ e ≤ 7)) → (A.2.2.2.1 d.toNat 0 = 2 ∧ A.2.2.2.1 e.toNat 0 = 2 ∧ A.2.2.2.1 d.toNat 3 = A.2.2.2.1 e.toNat 3) → ¬ (0 ≤ n ∧ 0 ≤ i ∧ 0 ≤ j ∧ n ≤ A.2.2.2.1 d.toNat 4 - i ∧ n ≤ A.2.2.2.1 e.toNat 4 - j) → Q (-13) s1) →
      (((0 ≤ d ∧ d ≤ 7) ∧ (0 ≤ e ∧ e ≤ 7)) → (A.2.2.2.1 d.toNat 0 = 2 ∧ A.2.2.2.1 e.toNat 0 = 2 ∧ A.2.2.2.1 d.toNat 3 = A.2.2.2.1 e.toNat 3) → (0 ≤ n ∧ 0 ≤ i ∧ 0 ≤ j ∧ n ≤ A.2.2.2.1 d.toNat 4 - i ∧ n ≤ A.2.2.2.1 e.toNat 4 - j) → ∀ s', (∀ p j, p ≠ 97 → s' p j = s1 p j) → s' 97 = cp97 s1 (100 * d.toNat + i.toNat) (100 * e.toNat + j.toNat) n.toNat → Q (I n) s') → vc_Mod_copy (I d) (I i) (I e) (I j) (I n) s1 Q := by
    intro s1 Q hf h1 h2 h3 h4 h5
    unfold vc_Mod_copy
    refine isSh_m hd ?_
    rw [bi_f]
    refine ⟨fun q => h1 (fun q2 => (of_decide_eq_false q) q2.1), fun q => ?_⟩
    have q : 0 ≤ d ∧ d ≤ 7 := by simpa using q
    refine isSh_m he ?_
    rw [bi_f]
    refine ⟨fun q2 => ?_, fun q2 => h1 (fun q3 => (of_decide_eq_false q2) q3.2)⟩
    have q2 : 0 ≤ e ∧ e ≤ 7 := by simpa using q2
    obtain ⟨d, rfl, hd8⟩ := nat_of (n := 8) ⟨q.1, by omega⟩
    obtain ⟨e, rfl, he8⟩ := nat_of (n := 8) ⟨q2.1, by omega⟩
    simp only [Int.toNat_natCast] at h2 h3 h4 h5
    have hind : vp_in (I (d : Int)) 8 := I_vinN (by omega) (by decide)
    have hine : vp_in (I (e : Int)) 8 := I_vinN (by omega) (by decide)
    have Md := hR.2.1.2.2.2 d (by omega)
    have Me := hR.2.1.2.2.2 e (by omega)
    have kd0 : s1 92 d = I (A.2.2.2.1 d 0) := (hf _ _ (by decide)).trans Md.1
    have ke0 : s1 92 e = I (A.2.2.2.1 e 0) := (hf _ _ (by decide)).trans Me.1
    rw [I_clampN (by omega), I_clampN (by omega), kd0, ke0, x0 d (by omega), x0 e (by omega), x2 d (by omega), x2 e (by omega), n0, i0, j0, ij]
    refine ⟨hind, fun c => h2 ⟨q, q2⟩ (Or.inl c), fun c => ⟨hine, fun c2 => ⟨hind, fun c3 => h3 ⟨q, q2⟩ (by omega) (by omega), fun c3 => ⟨hine, fun c4 => h3 ⟨q, q2⟩ (by omega) (by omega), fun c4 => ⟨hind, hine, ?_⟩⟩⟩, fun c2 => h2 ⟨q, q2⟩ (Or.inr c2)⟩⟩
    have hld := ((hR.2.2.2.2 d (by omega)).2.2 c3).1
    have hle := ((hR.2.2.2.2 e (by omega)).2.2 c4).1
    have md2 := Md.2.2 c3
    have me2 := Me.2.2 c4
    rw [hf 95 _ (by decide), md2.1, hf 95 _ (by decide), me2.1, hf 96 _ (by decide), md2.2.1, hf 96 _ (by decide), me2.2.1, show (I (A.2.2.2.1 d 3) = I (A.2.2.2.1 e 3)) ↔ A.2.2.2.1 d 3 = A.2.2.2.1 e 3 from by simp (disch := (first | omega | (unfold inr; omega))) only [I_lit, I_nI, I_neg, I_add, I_sub, I_mul, I_div, I_le, I_lt, I_eq, I_clamp, I_clampN, I_vin]]
    refine ⟨fun c5 => ⟨fun c6 => h4 ⟨q, q2⟩ ⟨c3, c4, c5⟩ (by omega), fun c6 => ⟨fun c7 => h4 ⟨q, q2⟩ ⟨c3, c4, c5⟩ (by omega), fun c7 => ⟨fun c8 => h4 ⟨q, q2⟩ ⟨c3, c4, c5⟩ (by omega), fun c8 => ⟨hind, ?_⟩⟩⟩⟩, fun c5 => h3 ⟨q, q2⟩ (by omega) (by omega)⟩
    rw [show I (A.2.2.2.1 d 4) - I i = I (A.2.2.2.1 d 4 - i) from by simp (disch := (first | omega | (unfold inr; omega))) only [I_lit, I_nI, I_neg, I_add, I_sub, I_mul, I_div, I_le, I_lt, I_eq, I_clamp, I_clampN, I_vin], show I (A.2.2.2.1 e 4) - I j = I (A.2.2.2.1 e 4 - j) from by simp (disch := (first | omega | (unfold inr; omega))) only [I_lit, I_nI, I_neg, I_add, I_sub, I_mul, I_div, I_le, I_lt, I_eq, I_clamp, I_clampN, I_vin], show (I (A.2.2.2.1 d 4 - i) < I n) ↔ A.2.2.2.1 d 4 - i < n from by simp (disch := (first | omega | (unfold inr; omega))) only [I_lit, I_nI, I_neg, I_add, I_sub, I_mul, I_div, I_le, I_lt, I_eq, I_clamp, I_clampN, I_vin], show (I n ≤ I (A.2.2.2.1 e 4 - j)) ↔ n ≤ A.2.2.2.1 e 4 - j from by simp (disch := (first | omega | (unfold inr; omega))) only [I_lit, I_nI, I_neg, I_add, I_sub, I_mul, I_div, I_le, I_lt, I_eq, I_clamp, I_clampN, I_vin]]
    refine ⟨fun c9 => h4 ⟨q, q2⟩ ⟨c3, c4, c5⟩ (by omega), fun c9 => ⟨hine, fun c10 => ?_, fun c10 => h4 ⟨q, q2⟩ ⟨c3, c4, c5⟩ (by omega)⟩⟩
    have h5 := h5 ⟨q, q2⟩ ⟨c3, c4, c5⟩ ⟨by omega, by omega, by omega, by omega, by omega⟩
    obtain ⟨i, rfl⟩ : ∃ i' : Nat, i = i' := ⟨i.toNat, by omega⟩
    obtain ⟨j, rfl⟩ : ∃ i' : Nat, j = i' := ⟨j.toNat, by omega⟩
    obtain ⟨n, rfl⟩ : ∃ i' : Nat, n = i' := ⟨n.toNat, by omega⟩
    simp only [Int.toNat_natCast] at h5
    by_cases hij : (i : Int) ≤ j
    · -- from behind
      refine ⟨fun N t s' => ∃ m : Nat, t = I m ∧ m ≤ n ∧ N = n - m ∧ (∀ p q, p ≠ 97 → s' p q = s1 p q) ∧ ∀ q, s' 97 q = if 100 * e + j + (n - m) ≤ q ∧ q < 100 * e + j + n then s1 97 (100 * d + i + (q - (100 * e + j))) else s1 97 q, ⟨_, 0, rfl, by omega, rfl, fun _ _ _ => rfl, fun q => by rw [if_neg (by omega)]⟩, ?_⟩
      rintro N t s' ⟨m, rfl, hm, hN, f1, f2⟩
      constructor
      · intro z
        have z : m = n := by
          revert z
          simp (disch := (first | omega | (unfold inr; omega))) only [I_lit, I_nI, I_neg, I_add, I_sub, I_mul, I_div, I_le, I_lt, I_eq, I_clamp, I_clampN, I_vin]
          omega
        subst z
        refine h5 s' f1 (funext fun q => ?_)
        rw [f2 q]
        unfold cp97
        rw [Nat.sub_self, Nat.add_zero]
      · intro z
        have z : m < n := by
          revert z
          simp (disch := (first | omega | (unfold inr; omega))) only [I_lit, I_nI, I_neg, I_add, I_sub, I_mul, I_div, I_le, I_lt, I_eq, I_clamp, I_clampN, I_vin]
          omega
        have key : ∀ x39 : Int32, x39 = I ((n - 1 - m : Nat) : Int) → (vp_in (((100 * I (d : Int)) + I (i : Int)) + x39) 800 ∧ (vp_in (((100 * I (e : Int)) + I (j : Int)) + x39) 800 ∧ (∀ s43 : St, s43 = wr s' 97 (Int32.toNatClampNeg (((100 * I (e : Int)) + I (j : Int)) + x39)) (s' 97 (Int32.toNatClampNeg (((100 * I (d : Int)) + I (i : Int)) + x39))) → (∀ x44 : Int32, x44 = I (m : Int) + 1 → ∃ m45, m45 < N ∧ ∃ m : Nat, x44 = I m ∧ m ≤ n ∧ m45 = n - m ∧ (∀ p q, p ≠ 97 → s43 p q = s1 p q) ∧ ∀ q, s43 97 q = if 100 * e + j + (n - m) ≤ q ∧ q < 100 * e + j + n then s1 97 (100 * d + i + (q - (100 * e + j))) else s1 97 q)))) := by
          rintro x39 rfl
          have ed : 100 * I (d : Int) + I (i : Int) + I ((n - 1 - m : Nat) : Int) = I ((100 * d + i + (n - 1 - m) : Nat) : Int) := by
            simp (disch := (first | omega | (unfold inr; omega))) only [I_lit, I_nI, I_neg, I_add, I_sub, I_mul, I_div, I_le, I_lt, I_eq, I_clamp, I_clampN, I_vin]
            congr 1
          have ee : 100 * I (e : Int) + I (j : Int) + I ((n - 1 - m : Nat) : Int) = I ((100 * e + j + (n - 1 - m) : Nat) : Int) := by
            simp (disch := (first | omega | (unfold inr; omega))) only [I_lit, I_nI, I_neg, I_add, I_sub, I_mul, I_div, I_le, I_lt, I_eq, I_clamp, I_clampN, I_vin]
            congr 1
          rw [ed, ee, I_clampN (by omega), I_clampN (by omega)]
          refine ⟨I_vinN (by omega) (by decide), I_vinN (by omega) (by decide), fun s43 h43 x44 h44 => ⟨n - (m + 1), by omega, m + 1, ?_, by omega, rfl, fun p q hp => ?_, fun q => ?_⟩⟩
          · rw [h44]
            simp (disch := (first | omega | (unfold inr; omega))) only [I_lit, I_nI, I_neg, I_add, I_sub, I_mul, I_div, I_le, I_lt, I_eq, I_clamp, I_clampN, I_vin]
            congr 1
          · rw [h43, wr_ne hp]; exact f1 p q hp
          · rw [h43]
            by_cases c : q = 100 * e + j + (n - 1 - m)
            · subst c
              rw [wr_at, if_pos (by omega), f2, if_neg (by omega)]
              congr 1
              omega
            · rw [wr_off c, f2]
              by_cases c2 : 100 * e + j + (n - m) ≤ q ∧ q < 100 * e + j + n
              · rw [if_pos c2, if_pos (by omega)]
              · rw [if_neg c2, if_neg (by omega)]
        refine ⟨fun x => x = I ((n - 1 - m : Nat) : Int), key, fun _ => ?_, fun c => absurd hij c⟩
        show I (n : Int) - 1 - I (m : Int) = I ((n - 1 - m : Nat) : Int)
        simp (disch := (first | omega | (unfold inr; omega))) only [I_lit, I_nI, I_neg, I_add, I_sub, I_mul, I_div, I_le, I_lt, I_eq, I_clamp, I_clampN, I_vin]
        congr 1
        omega
    · refine ⟨fun N t s' => ∃ m : Nat, t = I m ∧ m ≤ n ∧ N = n - m ∧ (∀ p q, p ≠ 97 → s' p q = s1 p q) ∧ ∀ q, s' 97 q = if 100 * e + j ≤ q ∧ q < 100 * e + j + m then s1 97 (100 * d + i + (q - (100 * e + j))) else s1 97 q, ⟨_, 0, rfl, by omega, rfl, fun _ _ _ => rfl, fun q => by rw [if_neg (by omega)]⟩, ?_⟩
      rintro N t s' ⟨m, rfl, hm, hN, f1, f2⟩
      constructor
      · intro z
        have z : m = n := by
          revert z
          simp (disch := (first | omega | (unfold inr; omega))) only [I_lit, I_nI, I_neg, I_add, I_sub, I_mul, I_div, I_le, I_lt, I_eq, I_clamp, I_clampN, I_vin]
          omega
        subst z
        refine h5 s' f1 (funext fun q => ?_)
        rw [f2 q]
        rfl
      · intro z
        have z : m < n := by
          revert z
          simp (disch := (first | omega | (unfold inr; omega))) only [I_lit, I_nI, I_neg, I_add, I_sub, I_mul, I_div, I_le, I_lt, I_eq, I_clamp, I_clampN, I_vin]
          omega
        have key : ∀ x39 : Int32, x39 = I (m : Int) → (vp_in (((100 * I (d : Int)) + I (i : Int)) + x39) 800 ∧ (vp_in (((100 * I (e : Int)) + I (j : Int)) + x39) 800 ∧ (∀ s43 : St, s43 = wr s' 97 (Int32.toNatClampNeg (((100 * I (e : Int)) + I (j : Int)) + x39)) (s' 97 (Int32.toNatClampNeg (((100 * I (d : Int)) + I (i : Int)) + x39))) → (∀ x44 : Int32, x44 = I (m : Int) + 1 → ∃ m45, m45 < N ∧ ∃ m : Nat, x44 = I m ∧ m ≤ n ∧ m45 = n - m ∧ (∀ p q, p ≠ 97 → s43 p q = s1 p q) ∧ ∀ q, s43 97 q = if 100 * e + j ≤ q ∧ q < 100 * e + j + m then s1 97 (100 * d + i + (q - (100 * e + j))) else s1 97 q)))) := by
          rintro x39 rfl
          have ed : 100 * I (d : Int) + I (i : Int) + I (m : Int) = I ((100 * d + i + m : Nat) : Int) := by
            simp (disch := (first | omega | (unfold inr; omega))) only [I_lit, I_nI, I_neg, I_add, I_sub, I_mul, I_div, I_le, I_lt, I_eq, I_clamp, I_clampN, I_vin]
            congr 1
          have ee : 100 * I (e : Int) + I (j : Int) + I (m : Int) = I ((100 * e + j + m : Nat) : Int) := by
            simp (disch := (first | omega | (unfold inr; omega))) only [I_lit, I_nI, I_neg, I_add, I_sub, I_mul, I_div, I_le, I_lt, I_eq, I_clamp, I_clampN, I_vin]
            congr 1
          rw [ed, ee, I_clampN (by omega), I_clampN (by omega)]
          refine ⟨I_vinN (by omega) (by decide), I_vinN (by omega) (by decide), fun s43 h43 x44 h44 => ⟨n - (m + 1), by omega, m + 1, ?_, by omega, rfl, fun p q hp => ?_, fun q => ?_⟩⟩
          · rw [h44]
            simp (disch := (first | omega | (unfold inr; omega))) only [I_lit, I_nI, I_neg, I_add, I_sub, I_mul, I_div, I_le, I_lt, I_eq, I_clamp, I_clampN, I_vin]
            congr 1
          · rw [h43, wr_ne hp]; exact f1 p q hp
          · rw [h43]
            by_cases c : q = 100 * e + j + m
            · subst c
              rw [wr_at, if_pos (by omega), f2, if_neg (by omega)]
              congr 1
              omega
            · rw [wr_off c, f2]
              by_cases c2 : 100 * e + j ≤ q ∧ q < 100 * e + j + m
              · rw [if_pos c2, if_pos (by omega)]
              · rw [if_neg c2, if_neg (by omega)]
        exact ⟨fun x => x = I (m : Int), key, fun c => absurd c hij, fun _ => rfl⟩
  -- the class
  unfold vc_Brt_copy
  refine isSh_c hd ?_
  rw [bi_f]
  refine ⟨fun q => mod s _ (fun _ _ _ => rfl) (fun _ => ⟨rfl, A, hR⟩) (fun q2 => absurd q2.1 (of_decide_eq_false q)) (fun q2 => absurd q2.1 (of_decide_eq_false q)) (fun q2 => absurd q2.1 (of_decide_eq_false q)) (fun q2 => absurd q2.1 (of_decide_eq_false q)), fun q => ?_⟩
  have q : 0 ≤ d ∧ d ≤ 7 := by simpa using q
  refine isSh_c he ?_
  rw [bi_f]
  refine ⟨fun q2 => ?_, fun q2 => mod s _ (fun _ _ _ => rfl) (fun _ => ⟨rfl, A, hR⟩) (fun q3 => absurd q3.2 (of_decide_eq_false q2)) (fun q3 => absurd q3.2 (of_decide_eq_false q2)) (fun q3 => absurd q3.2 (of_decide_eq_false q2)) (fun q3 => absurd q3.2 (of_decide_eq_false q2))⟩
  have q2 : 0 ≤ e ∧ e ≤ 7 := by simpa using q2
  obtain ⟨d, rfl, hd8⟩ := nat_of (n := 8) ⟨q.1, by omega⟩
  obtain ⟨e, rfl, he8⟩ := nat_of (n := 8) ⟨q2.1, by omega⟩
  simp only [Int.toNat_natCast] at mod
  have hind : vp_in (I (d : Int)) 8 := I_vinN (by omega) (by decide)
  have hine : vp_in (I (e : Int)) 8 := I_vinN (by omega) (by decide)
  have Sd := hR.1.2.2.2.1 d (by omega)
  have Se := hR.1.2.2.2.1 e (by omega)
  have m11 : (A.2.2.2.1 d 0 = 0 ∨ A.2.2.2.1 e 0 = 0) → vc_Mod_copy (I (d : Int)) (I i) (I (e : Int)) (I j) (I n) s (fun r' s2 => (-11) = r' ∧ ∃ A', RR s2 A') := fun h => mod s _ (fun _ _ _ => rfl) (fun q3 => absurd ⟨q, q2⟩ q3) (fun _ _ => ⟨rfl, A, hR⟩) (fun _ q3 => absurd h q3) (fun _ q3 => by omega) (fun _ q3 => by omega)
  have m12 : ¬ (A.2.2.2.1 d 0 = 0 ∨ A.2.2.2.1 e 0 = 0) → ¬ (A.2.2.2.1 d 0 = 2 ∧ A.2.2.2.1 e 0 = 2 ∧ A.2.2.2.1 d 3 = A.2.2.2.1 e 3) → vc_Mod_copy (I (d : Int)) (I i) (I (e : Int)) (I j) (I n) s (fun r' s2 => (-12) = r' ∧ ∃ A', RR s2 A') := fun h h2 => mod s _ (fun _ _ _ => rfl) (fun q3 => absurd ⟨q, q2⟩ q3) (fun _ q3 => absurd q3 h) (fun _ _ _ => ⟨rfl, A, hR⟩) (fun _ q3 => absurd q3 h2) (fun _ q3 => absurd q3 h2)
  have m13 : (A.2.2.2.1 d 0 = 2 ∧ A.2.2.2.1 e 0 = 2 ∧ A.2.2.2.1 d 3 = A.2.2.2.1 e 3) → ¬ (0 ≤ n ∧ 0 ≤ i ∧ 0 ≤ j ∧ n ≤ A.2.2.2.1 d 4 - i ∧ n ≤ A.2.2.2.1 e 4 - j) → vc_Mod_copy (I (d : Int)) (I i) (I (e : Int)) (I j) (I n) s (fun r' s2 => (-13) = r' ∧ ∃ A', RR s2 A') := fun h h2 => mod s _ (fun _ _ _ => rfl) (fun q3 => absurd ⟨q, q2⟩ q3) (fun _ q3 => by omega) (fun _ _ q3 => absurd h q3) (fun _ _ _ => ⟨rfl, A, hR⟩) (fun _ _ q3 => absurd q3 h2)
  rw [shp_I (by omega), shp_I (by omega), Sd.1, Se.1, x0 d (by omega), x0 e (by omega), x2 d (by omega), x2 e (by omega), n0]
  refine ⟨hind, hine, fun c => m11 (Or.inl c), fun c => ⟨fun c2 => ⟨fun c3 => m12 (by omega) (by omega), fun c3 => ⟨fun c4 => m12 (by omega) (by omega), fun c4 => ?_⟩⟩, fun c2 => m11 (Or.inr c2)⟩⟩
  have hld := ((hR.2.2.2.2 d (by omega)).2.2 c3).1
  have hle := ((hR.2.2.2.2 e (by omega)).2.2 c4).1
  have sd2 := Sd.2.2 c3
  have se2 := Se.2.2 c4
  rw [sd2.1, se2.1, show (I (A.2.2.2.1 d 3) = I (A.2.2.2.1 e 3)) ↔ A.2.2.2.1 d 3 = A.2.2.2.1 e 3 from by simp (disch := (first | omega | (unfold inr; omega))) only [I_lit, I_nI, I_neg, I_add, I_sub, I_mul, I_div, I_le, I_lt, I_eq, I_clamp, I_clampN, I_vin]]
  refine ⟨fun c5 => ⟨fun c6 => m13 ⟨c3, c4, c5⟩ (by omega), fun c6 => ?_⟩, fun c5 => m12 (by omega) (by omega)⟩
  refine sp_places (l := A.2.2.2.1 d 4) ⟨by omega, by omega⟩ sd2.2.1 hi hn ?_
  rw [bi_f]
  refine ⟨fun c7 => m13 ⟨c3, c4, c5⟩ (fun c8 => (of_decide_eq_false c7) (by omega)), fun c7 => ?_⟩
  have c7 : (0 ≤ i ∧ i ≤ A.2.2.2.1 d 4) ∧ n ≤ A.2.2.2.1 d 4 - i := of_decide_eq_true (by simpa only [Bool.not_eq_false] using c7)
  refine sp_places (l := A.2.2.2.1 e 4) ⟨by omega, by omega⟩ se2.2.1 hj hn ?_
  rw [bi_f]
  refine ⟨fun c8 => ?_, fun c8 => m13 ⟨c3, c4, c5⟩ (fun c9 => (of_decide_eq_false c8) (by omega))⟩
  have c8 : (0 ≤ j ∧ j ≤ A.2.2.2.1 e 4) ∧ n ≤ A.2.2.2.1 e 4 - j := of_decide_eq_true (by simpa only [Bool.not_eq_false] using c8)
  obtain ⟨i, rfl⟩ : ∃ i' : Nat, i = i' := ⟨i.toNat, by omega⟩
  obtain ⟨j, rfl⟩ : ∃ i' : Nat, j = i' := ⟨j.toNat, by omega⟩
  obtain ⟨n, rfl⟩ : ∃ i' : Nat, n = i' := ⟨n.toNat, by omega⟩
  simp only [Int.toNat_natCast] at mod
  rw [I_clampN (by omega), I_clampN (by omega), I_clampN (by omega)]
  refine ⟨⟨by rw [i0]; omega, by rw [j0]; omega, by rw [n0]; omega, by rw [I_clampN (by omega), I_clampN (by omega)]; omega, by rw [I_clampN (by omega), I_clampN (by omega)]; omega⟩, fun s31 h31 => ?_⟩
  have f1 : ∀ p q, p ≠ 67 + 2 * e → s31 p q = s p q := fun p q hp => by rw [h31]; exact wcp_ne (by omega)
  refine mod s31 _ (fun p q hp => f1 p q (by omega)) (fun q3 => absurd ⟨q, q2⟩ q3) (fun _ q3 => by omega) (fun _ _ q3 => absurd ⟨c3, c4, c5⟩ q3) (fun _ _ q3 => absurd ⟨by omega, by omega, by omega, by omega, by omega⟩ q3) (fun _ _ _ s' g1 g2 => ⟨rfl, ?_⟩)
  have Md := hR.2.1.2.2.2 d (by omega)
  have Me := hR.2.1.2.2.2 e (by omega)
  have md2 := Md.2.2 c3
  have me2 := Me.2.2 c4
  have k2 : ∀ p q, p ≠ 97 → 92 ≤ p → s' p q = s p q := fun p q a b => (g1 p q a).trans (f1 p q (by omega))
  have key := RR_sh (s1 := s31) (s2 := s') hR (d := e) (by omega) (g := A.2.2.2.1 e) (c := fun t => if j ≤ t ∧ t < j + n then A.2.2.2.2 d (i + (t - j)) else A.2.2.2.2 e t) (fun p q _ h => f1 p q h) (fun p q hp => g1 p q (by omega)) (fun p q a b hj => g1 p q (by omega)) (fun q hq => by rw [g2]; unfold cp97; rw [if_neg (by omega)]) ⟨?_, fun z => ?_, fun z => ⟨?_, ?_, fun t ht => ?_⟩⟩ ⟨?_, fun z => ?_, fun z => ⟨?_, ?_, fun t ht => ?_⟩⟩ ⟨?_, fun z => ?_, fun z => ⟨?_, fun z3 t => ?_⟩⟩
  · exact ⟨_, key⟩
  · rw [shw_self, f1 _ _ (by omega)]; exact Se.1
  · rw [shw_self] at z; omega
  · rw [shw_self, f1 _ _ (by omega)]; exact se2.1
  · rw [shw_self, f1 _ _ (by omega)]; exact se2.2.1
  · rw [scw_at, h31, show 67 + 2 * e = 66 + 2 * e + 1 by omega]
    have := sd2.2.2
    have := se2.2.2
    unfold wcp va_cpy
    rw [if_pos rfl]
    by_cases c9 : j ≤ t ∧ t < j + n
    · rw [if_pos c9, if_pos c9, show 66 + 2 * d + 1 = 67 + 2 * d by omega]
      exact sd2.2.2 _ (by omega)
    · rw [if_neg c9, if_neg c9, show 66 + 2 * e + 1 = 67 + 2 * e by omega]
      exact se2.2.2 _ ht
  · rw [shw_self, k2 _ _ (by decide) (by decide)]; exact Me.1
  · rw [shw_self] at z; omega
  · rw [shw_self, k2 _ _ (by decide) (by decide)]; exact me2.1
  · rw [shw_self, k2 _ _ (by decide) (by decide)]; exact me2.2.1
  · rw [scw_at, g2]
    unfold cp97
    by_cases c9 : j ≤ t ∧ t < j + n
    · rw [if_pos (by omega), if_pos c9, f1 _ _ (by omega), show 100 * d + i + (100 * e + t - (100 * e + j)) = 100 * d + (i + (t - j)) by omega]
      exact md2.2.2 _ (by omega)
    · rw [if_neg (by omega), if_neg c9, f1 _ _ (by omega)]
      exact me2.2.2 _ ht
  · rw [shw_self]; exact Or.inr (Or.inr c4)
  · rw [shw_self] at z; omega
  · rw [shw_self]; exact hle
  · rw [shw_self] at z3
    rw [scw_at]
    have hd3 := ((hR.2.2.2.2 d (by omega)).2.2 c3).2 (by omega)
    have he3 := ((hR.2.2.2.2 e (by omega)).2.2 c4).2 z3
    by_cases c9 : j ≤ t ∧ t < j + n
    · rw [if_pos c9]; exact hd3 _
    · rw [if_neg c9]; exact he3 _
