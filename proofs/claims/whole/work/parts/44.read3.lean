theorem room_mono {k : Kv} {y : Nat} {w w' : Int} (h : w ≤ w') : roomZ k y w' ≤ roomZ k y w := by
  unfold roomZ
  split
  · omega
  · exact Int.le_refl _
theorem least_or {P : Nat → Prop} [DecidablePred P] (n : Nat) : (∀ h, h < n → ¬ P h) ∨ ∃ h0, h0 < n ∧ P h0 ∧ ∀ h, h < h0 → ¬ P h := by
  induction n with
  | zero => exact Or.inl (fun h z => absurd z (Nat.not_lt_zero h))
  | succ n ih =>
    rcases ih with h | ⟨h0, h1, h2, h3⟩
    · by_cases z : P n
      · exact Or.inr ⟨n, by omega, z, h⟩
      · refine Or.inl (fun j hj => ?_)
        by_cases e : j = n
        · rw [e]; exact z
        · exact h j (by omega)
    · exact Or.inr ⟨h0, by omega, h2, h3⟩
theorem e_floods {s : St} {A : Ab} (hR : RR s A) (x y : Int32) : vc_Brt_floods x y s (fun r => vc_Mod_floods x y s (fun r' => r = r')) := by
  obtain ⟨b, hb, rfl⟩ := I_of x
  obtain ⟨w, hw, rfl⟩ := I_of y
  obtain ⟨hk, -⟩ := hR.2.2.1
  have hrc := hR.1.1
  have hrm := hR.2.1.1
  generalize A.1 = k at hk hrc hrm
  have a := hk.1
  have a5 := hk.2.1
  unfold vc_Brt_floods
  refine both_ok hk hrc hb hw ?_
  rw [bi_f]
  constructor
  · intro z
    have z : ((0 ≤ b ∧ b < k 9 1) ∧ (0 ≤ w ∧ w < k 9 0)) := by simpa only [decide_eq_false_iff_not, Decidable.not_not] using z
    have hz := z
    obtain ⟨b, rfl, hb1⟩ := nat_of z.1
    obtain ⟨y, rfl, hy1⟩ := nat_of z.2
    have hcb := hk.2.2.2 _ hb1
    have hcy := hk.2.2.1 _ hy1
    obtain ⟨f1, f2, f3, f4, f5, f6⟩ := hrc.2.2 b hb1
    obtain ⟨g1, g2, g3, g4, g5, g6, g7, g8⟩ := hrc.2.1 y hy1
    have hclb : (I (b : Int)).toNatClampNeg = b := I_clampN (by omega)
    have hcly : (I (y : Int)).toNatClampNeg = y := I_clampN (by omega)
    have hp : 0 ≤ k 7 b ∧ k 7 b ≤ 3 := by obtain ⟨-, -, -, -, -, -, -, -, h1, h2⟩ := id hcb; exact ⟨h1, h2⟩
    have hsz := size_in hcb y (k 7 b) true
    -- too narrow at hour h
    obtain ⟨P, hP⟩ : ∃ P : Nat → Prop, P = fun h : Nat => roomZ k y (h * k 9 3) < sizeZ k b y (k 7 b) true := ⟨_, rfl⟩
    have hPd : ∀ h, Decidable (P h) := fun h => by rw [hP]; infer_instance
    have hrn : ∀ h : Nat, h ≤ 200 → 0 ≤ (h : Int) * k 9 3 ∧ (h : Int) * k 9 3 ≤ 1800 := by
      intro h hh
      have h1 := Int.mul_nonneg (by omega : (0 : Int) ≤ h) (by omega : 0 ≤ k 9 3)
      have h2 := Int.mul_le_mul (by omega : (h : Int) ≤ 200) (by omega : k 9 3 ≤ 9) (by omega) (by omega : (0 : Int) ≤ 200)
      omega
    have hri : ∀ h : Nat, h ≤ 200 → 0 ≤ roomZ k y (h * k 9 3) ∧ roomZ k y (h * k 9 3) ≤ 88 := fun h hh => room_in hcy (hrn h hh).1
    have mono : ∀ h : Nat, P h → P (h + 1) := by
      intro h hp
      rw [hP] at hp ⊢
      have hp : roomZ k y (h * k 9 3) < sizeZ k b y (k 7 b) true := hp
      show roomZ k y ((h + 1 : Nat) * k 9 3) < sizeZ k b y (k 7 b) true
      have : (h : Int) * k 9 3 ≤ (h + 1 : Nat) * k 9 3 := Int.mul_le_mul_of_nonneg_right (by omega) (by omega)
      have := room_mono (k := k) (y := y) this
      omega
    have monoN : ∀ d h : Nat, P h → P (h + d) := by
      intro d
      induction d with
      | zero => intro h hp; exact hp
      | succ d ih => intro h hp; exact mono _ (ih h hp)
    -- the model
    have mod : ∀ r : Int32, ((∀ h, h < 100 → ¬ P h) → r = I (-4)) → (∀ h0, h0 < 100 → P h0 → (∀ h, h < h0 → ¬ P h) → r = I (h0 : Nat)) → vc_Mod_floods (I b) (I y) s (fun r' => r = r') := by
      intro r hno hyes
      unfold vc_Mod_floods
      refine isBody_ok hk hrm hb ?_
      rw [bi_f]
      refine ⟨fun q => by simp at q; omega, fun _ => ?_⟩
      refine isYard_ok hk hrm hw ?_
      rw [bi_f]
      refine ⟨fun _ => ?_, fun q => by simp at q; omega⟩
      refine ⟨fun N f h => ∃ n : Nat, n ≤ 100 ∧ N = n ∧ h = I ((n : Int) - 1) ∧ ((n = 100 ∧ f = I (-4)) ∨ (n < 100 ∧ f = I (n : Nat) ∧ P n)), ⟨100, 100, by omega, rfl, rfl, Or.inl ⟨rfl, rfl⟩⟩, ?_⟩
      rintro N f h ⟨n, hn, rfl, rfl, hf⟩
      constructor
      · intro q
        have q : N = 0 := by
          revert q
          simp (disch := (first | omega | (unfold inr; omega))) only [I_lit, I_nI, I_neg, I_add, I_sub, I_mul, I_div, I_le, I_lt, I_eq, I_clamp, I_clampN, I_vin]
          omega
        subst q
        rcases hf with ⟨hf, -⟩ | ⟨-, hf, hp⟩
        · omega
        · rw [hyes 0 (by omega) hp (fun h z => absurd z (Nat.not_lt_zero h)), hf]
      · intro q
        have q : 0 < N := by
          revert q
          simp (disch := (first | omega | (unfold inr; omega))) only [I_lit, I_nI, I_neg, I_add, I_sub, I_mul, I_div, I_le, I_lt, I_eq, I_clamp, I_clampN, I_vin]
          omega
        obtain ⟨n, rfl⟩ : ∃ n, N = n + 1 := ⟨N - 1, by omega⟩
        have en : (((n + 1 : Nat) : Int) - 1) = (n : Nat) := by omega
        rw [en]
        refine sp_msizeNow hrm hb1 (by omega) hy1 (by omega) hcy hcb true rfl ?_
        refine sp_mroom hrm hy1 (by omega) hcy ⟨by omega, by omega⟩ ⟨by omega, by omega⟩ ?_
        have hr1 := hri n (by omega)
        constructor
        · intro q2
          have q2 : ¬ P n := by
            rw [hP]
            show ¬ roomZ k y (n * k 9 3) < _
            revert q2
            simp (disch := (first | omega | (unfold inr; omega))) only [I_lit, I_nI, I_neg, I_add, I_sub, I_mul, I_div, I_le, I_lt, I_eq, I_clamp, I_clampN, I_vin]
            omega
          rcases hf with ⟨hf, ef⟩ | ⟨hlt, ef, hp⟩
          · rw [ef]
            refine hno (fun h hh hp => ?_)
            have := monoN (n - h) h hp
            rw [show h + (n - h) = n by omega] at this
            exact q2 this
          · rw [ef]
            refine hyes _ hlt hp (fun h hh hph => ?_)
            have := monoN (n - h) h hph
            rw [show h + (n - h) = n by omega] at this
            exact q2 this
        · intro q2
          have q2 : P n := by
            rw [hP]
            show roomZ k y (n * k 9 3) < _
            revert q2
            simp (disch := (first | omega | (unfold inr; omega))) only [I_lit, I_nI, I_neg, I_add, I_sub, I_mul, I_div, I_le, I_lt, I_eq, I_clamp, I_clampN, I_vin]
            omega
          intro x26 hx26
          refine ⟨n, by omega, n, by omega, rfl, ?_, Or.inr ⟨by omega, rfl, q2⟩⟩
          rw [hx26]
          simp (disch := (first | omega | (unfold inr; omega))) only [I_lit, I_nI, I_neg, I_add, I_sub, I_mul, I_div, I_le, I_lt, I_eq, I_clamp, I_clampN, I_vin]
          congr 1
    refine ⟨I_vinN (by omega) (by decide), ?_⟩
    intro x14 hx14
    rw [hclb, f5] at hx14
    subst hx14
    refine sp_bulk (k := k) (by omega) hcb f1 f2 f3 hp true rfl ?_
    refine sp_more hp ?_
    intro _
    refine ⟨I_vinN (by omega) (by decide), ?_⟩
    intro x20 hx20
    have hx20 : x20 = I (sizeZ k b y (k 7 b) true) := by
      rw [hx20, hcly]
      unfold sizeZ
      split
      · rename_i q9
        rw [show s (2 + 8) y = I (moreZ (k 0 y) true) from g8, I_add]
        simp [q9]
      · rename_i q9
        rw [show s (2 + 7) y = I (moreZ (k 0 y) false) from g7, I_add]
        simp [q9]
    subst hx20
    refine ⟨fun N h => ∃ n : Nat, n ≤ 100 ∧ N = 100 - n ∧ h = I (n : Nat) ∧ ∀ j, j < n → ¬ P j, ⟨100, 0, by omega, by omega, rfl, fun j z => absurd z (Nat.not_lt_zero j)⟩, ?_⟩
    rintro N h ⟨n, hn, hN, rfl, hbelow⟩
    constructor
    · intro q
      have q : n = 100 := by
        revert q
        simp (disch := (first | omega | (unfold inr; omega))) only [I_lit, I_nI, I_neg, I_add, I_sub, I_mul, I_div, I_le, I_lt, I_eq, I_clamp, I_clampN, I_vin]
        omega
      subst q
      exact mod _ (fun _ => rfl) (fun h0 h1 h2 _ => absurd h2 (hbelow h0 h1))
    · intro q
      have q : n < 100 := by
        revert q
        simp (disch := (first | omega | (unfold inr; omega))) only [I_lit, I_nI, I_neg, I_add, I_sub, I_mul, I_div, I_le, I_lt, I_eq, I_clamp, I_clampN, I_vin]
        omega
      rw [show s 1 2 = I (k 9 3) from hrc.1.2.2.2.1, I_mul]
      have hr1 := hri n (by omega)
      have hr2 := hrn n (by omega)
      refine sp_room (k := k) (by omega) hcy g1 g4 ⟨by omega, by omega⟩ ?_
      constructor
      · intro q2
        intro x28 hx28
        refine ⟨100 - (n + 1), by omega, n + 1, by omega, rfl, ?_, fun j hj => ?_⟩
        · rw [hx28]
          simp (disch := (first | omega | (unfold inr; omega))) only [I_lit, I_nI, I_neg, I_add, I_sub, I_mul, I_div, I_le, I_lt, I_eq, I_clamp, I_clampN, I_vin]
          congr 1
        · by_cases e : j = n
          · rw [e, hP]
            show ¬ roomZ k y (n * k 9 3) < _
            revert q2
            simp (disch := (first | omega | (unfold inr; omega))) only [I_lit, I_nI, I_neg, I_add, I_sub, I_mul, I_div, I_le, I_lt, I_eq, I_clamp, I_clampN, I_vin]
            omega
          · exact hbelow j (by omega)
      · intro q2
        have q2 : P n := by
          rw [hP]
          show roomZ k y (n * k 9 3) < _
          revert q2
          simp (disch := (first | omega | (unfold inr; omega))) only [I_lit, I_nI, I_neg, I_add, I_sub, I_mul, I_div, I_le, I_lt, I_eq, I_clamp, I_clampN, I_vin]
          omega
        refine mod _ (fun z => absurd q2 (z n q)) (fun h0 h1 h2 h3 => ?_)
        have : h0 = n := by
          rcases Nat.lt_trichotomy h0 n with z | z | z
          · exact absurd h2 (hbelow h0 z)
          · exact z
          · exact absurd q2 (h3 n z)
        rw [this]
  · intro z
    have z : ¬ ((0 ≤ b ∧ b < k 9 1) ∧ (0 ≤ w ∧ w < k 9 0)) := by simpa only [decide_eq_false_iff_not] using z
    unfold vc_Mod_floods
    refine isBody_ok hk hrm hb ?_
    rw [bi_f]
    refine ⟨fun _ => rfl, fun q => ?_⟩
    have q : 0 ≤ b ∧ b < k 9 1 := by simpa using q
    refine isYard_ok hk hrm hw ?_
    rw [bi_f]
    exact ⟨fun q2 => by simp at q2; omega, fun _ => rfl⟩
/-- the sum of a row of numbers -/
def sumF (f : Nat → Int) : Nat → Int
  | 0 => 0
  | n + 1 => sumF f n + f n
theorem c_sum {s : St} {p m n : Nat} {f : Nat → Int} (hm : m < 1000) (hn : n ≤ m) (h : ∀ j, j < n → s p j = I (f j)) {Q : Int32 → Prop} (hQ : Q (I (sumF f n))) : vc_Brt_sumOf p m (I n) s Q := by
  unfold vc_Brt_sumOf
  refine ⟨fun N t j => ∃ i : Nat, j = I i ∧ i ≤ n ∧ N = n - i ∧ t = I (sumF f i), ⟨_, 0, rfl, by omega, rfl, rfl⟩, ?_⟩
  rintro N t j ⟨i, rfl, hi, hN, rfl⟩
  constructor
  · intro q
    have q : n = i := by
      revert q
      simp (disch := (first | omega | (unfold inr; omega))) only [I_lit, I_nI, I_neg, I_add, I_sub, I_mul, I_div, I_le, I_lt, I_eq, I_clamp, I_clampN, I_vin]
      omega
    rw [q] at hQ
    exact hQ
  · intro q
    have q : i < n := by
      revert q
      simp (disch := (first | omega | (unfold inr; omega))) only [I_lit, I_nI, I_neg, I_add, I_sub, I_mul, I_div, I_le, I_lt, I_eq, I_clamp, I_clampN, I_vin]
      omega
    constructor
    · intro z
      exfalso
      revert z
      simp (disch := (first | omega | (unfold inr; omega))) only [I_lit, I_nI, I_neg, I_add, I_sub, I_mul, I_div, I_le, I_lt, I_eq, I_clamp, I_clampN, I_vin]
      omega
    · intro _
      refine ⟨I_vinN (by omega) (by omega), ?_⟩
      intro x17 hx17 x18 hx18
      rw [I_clampN (by omega), h i q, I_add] at hx17
      refine ⟨n - (i + 1), by omega, i + 1, ?_, by omega, rfl, hx17⟩
      rw [hx18]
      simp (disch := (first | omega | (unfold inr; omega))) only [I_lit, I_nI, I_neg, I_add, I_sub, I_mul, I_div, I_le, I_lt, I_eq, I_clamp, I_clampN, I_vin]
      congr 1
theorem e_count {s : St} {A : Ab} (hR : RR s A) (x : Int32) : vc_Brt_count x s (fun r => vc_Mod_count x s (fun r' => r = r')) := by
  obtain ⟨w, hw, rfl⟩ := I_of x
  obtain ⟨hk, -⟩ := hR.2.2.1
  have hrc := hR.1.1
  have hrm := hR.2.1.1
  generalize A.1 = k at hk hrc hrm
  have a := hk.1
  have lo : ∀ (r : Int32) (v : Nat), v < 6 → w = v → r = I (k 9 v) → vc_Mod_count (I w) s (fun r' => r = r') := by
    intro r v hv hwv hr
    unfold vc_Mod_count
    have e0 : vc_Mod_isIn (I w) 0 5 = vc_Mod_isIn (I w) (I 0) (I 5) := rfl
    rw [e0]
    refine sp_isIn hw ⟨by decide, by decide⟩ ⟨by decide, by decide⟩ ?_
    rw [bi_f]
    refine ⟨fun q => by simp at q; omega, fun _ => ?_⟩
    subst hwv
    refine ⟨I_vinN (by omega) (by decide), ?_⟩
    rw [I_clampN (by omega), hrm.1 v hv]
    exact hr
  have hi : ∀ r : Int32, ¬ (0 ≤ w ∧ w ≤ 5) → (w = 6 → r = I (sumF (fun j => k 2 j) (k 9 0).toNat)) → (w = 7 → r = I (sumF (fun j => k 3 j) (k 9 1).toNat)) → (¬ w = 6 → ¬ w = 7 → r = -1) → vc_Mod_count (I w) s (fun r' => r = r') := by
    intro r hz h6 h7 hn
    unfold vc_Mod_count
    have e0 : vc_Mod_isIn (I w) 0 5 = vc_Mod_isIn (I w) (I 0) (I 5) := rfl
    rw [e0]
    refine sp_isIn hw ⟨by decide, by decide⟩ ⟨by decide, by decide⟩ ?_
    rw [bi_f]
    refine ⟨fun _ => ?_, fun q => by simp at q; omega⟩
    have e6 : (I w = 6) ↔ w = 6 := by simp (disch := (first | omega | (unfold inr; omega))) only [I_lit, I_nI, I_neg, I_add, I_sub, I_mul, I_div, I_le, I_lt, I_eq, I_clamp, I_clampN, I_vin]
    have e7 : (I w = 7) ↔ w = 7 := by simp (disch := (first | omega | (unfold inr; omega))) only [I_lit, I_nI, I_neg, I_add, I_sub, I_mul, I_div, I_le, I_lt, I_eq, I_clamp, I_clampN, I_vin]
    rw [e6, e7]
    refine ⟨fun q => ?_, fun q6 => ⟨fun q => ?_, fun q7 => hn q6 q7⟩⟩
    · refine ⟨fun N t j => ∃ i : Nat, j = I i ∧ (i : Int) ≤ k 9 0 ∧ N = (k 9 0).toNat - i ∧ t = I (sumF (fun j => k 2 j) i), ⟨_, 0, rfl, by simpa using a.1, rfl, rfl⟩, ?_⟩
      rintro N t j ⟨i, rfl, hi, hN, rfl⟩
      refine ⟨v_in (a := 0) ⟨by decide, by decide⟩ (by decide) rfl, ?_⟩
      rw [show s 83 (Int32.toNatClampNeg 0) = I (k 9 0) from hrm.1 0 (by decide)]
      constructor
      · intro q2
        have q2 : (k 9 0).toNat = i := by
          revert q2
          simp (disch := (first | omega | (unfold inr; omega))) only [I_lit, I_nI, I_neg, I_add, I_sub, I_mul, I_div, I_le, I_lt, I_eq, I_clamp, I_clampN, I_vin]
          omega
        rw [h6 q, q2]
      · intro q2
        have q2 : (i : Int) < k 9 0 := by
          revert q2
          simp (disch := (first | omega | (unfold inr; omega))) only [I_lit, I_nI, I_neg, I_add, I_sub, I_mul, I_div, I_le, I_lt, I_eq, I_clamp, I_clampN, I_vin]
          omega
        refine at_yard hrm q2 (by omega) (w := 2) (by decide) rfl (Q := fun v => ∀ x23 : Int32, x23 = I (sumF (fun j => k 2 j) i) + v → ∀ x24 : Int32, x24 = I (i : Int) + 1 → ∃ m25, m25 < N ∧ ∃ i' : Nat, x24 = I i' ∧ (i' : Int) ≤ k 9 0 ∧ m25 = (k 9 0).toNat - i' ∧ x23 = I (sumF (fun j => k 2 j) i')) ?_
        intro x23 hx23 x24 hx24
        rw [I_add] at hx23
        refine ⟨(k 9 0).toNat - (i + 1), by omega, i + 1, ?_, by omega, rfl, hx23⟩
        rw [hx24]
        simp (disch := (first | omega | (unfold inr; omega))) only [I_lit, I_nI, I_neg, I_add, I_sub, I_mul, I_div, I_le, I_lt, I_eq, I_clamp, I_clampN, I_vin]
        congr 1
    · refine ⟨fun N t j => ∃ i : Nat, j = I i ∧ (i : Int) ≤ k 9 1 ∧ N = (k 9 1).toNat - i ∧ t = I (sumF (fun j => k 3 j) i), ⟨_, 0, rfl, by simpa using a.2.2.1, rfl, rfl⟩, ?_⟩
      rintro N t j ⟨i, rfl, hi, hN, rfl⟩
      refine ⟨v_in (a := 1) ⟨by decide, by decide⟩ (by decide) rfl, ?_⟩
      rw [show s 83 (Int32.toNatClampNeg 1) = I (k 9 1) from hrm.1 1 (by decide)]
      constructor
      · intro q2
        have q2 : (k 9 1).toNat = i := by
          revert q2
          simp (disch := (first | omega | (unfold inr; omega))) only [I_lit, I_nI, I_neg, I_add, I_sub, I_mul, I_div, I_le, I_lt, I_eq, I_clamp, I_clampN, I_vin]
          omega
        rw [h7 q, q2]
      · intro q2
        have q2 : (i : Int) < k 9 1 := by
          revert q2
          simp (disch := (first | omega | (unfold inr; omega))) only [I_lit, I_nI, I_neg, I_add, I_sub, I_mul, I_div, I_le, I_lt, I_eq, I_clamp, I_clampN, I_vin]
          omega
        refine sp_of hrm q2 (by omega) (w := 0) (by decide) rfl ?_
        intro x35 hx35 x36 hx36
        rw [I_add] at hx35
        refine ⟨(k 9 1).toNat - (i + 1), by omega, i + 1, ?_, by omega, rfl, hx35⟩
        rw [hx36]
        simp (disch := (first | omega | (unfold inr; omega))) only [I_lit, I_nI, I_neg, I_add, I_sub, I_mul, I_div, I_le, I_lt, I_eq, I_clamp, I_clampN, I_vin]
        congr 1
  have hh : ∀ n : Nat, n < 8 → (I w = I (n : Int) ↔ w = n) := fun n hn => I_eq hw ⟨by omega, by omega⟩
  have h0 := hh 0 (by decide)
  have h1 := hh 1 (by decide)
  have h2 := hh 2 (by decide)
  have h3 := hh 3 (by decide)
  have h4 := hh 4 (by decide)
  have h5 := hh 5 (by decide)
  have h6 := hh 6 (by decide)
  have h7 := hh 7 (by decide)
  rw [show I ((0 : Nat) : Int) = 0 from rfl] at h0
  rw [show I ((1 : Nat) : Int) = 1 from rfl] at h1
  rw [show I ((2 : Nat) : Int) = 2 from rfl] at h2
  rw [show I ((3 : Nat) : Int) = 3 from rfl] at h3
  rw [show I ((4 : Nat) : Int) = 4 from rfl] at h4
  rw [show I ((5 : Nat) : Int) = 5 from rfl] at h5
  rw [show I ((6 : Nat) : Int) = 6 from rfl] at h6
  rw [show I ((7 : Nat) : Int) = 7 from rfl] at h7
  unfold vc_Brt_count
  rw [h0, h1, h2, h3, h4, h5, h6, h7]
  obtain ⟨⟨r1, r2, r3, r4, r5, r6⟩, hy, hb⟩ := id hrc
  refine ⟨fun z => lo _ 0 (by decide) z r1, fun z0 => ⟨fun z => lo _ 1 (by decide) z r2, fun z1 => ⟨fun z => lo _ 2 (by decide) z r3, fun z2 => ⟨fun z => lo _ 3 (by decide) z r4, fun z3 => ⟨fun z => lo _ 4 (by decide) z r5, fun z4 => ⟨fun z => lo _ 5 (by decide) z r6, fun z5 => ⟨fun z => ?_, fun z6 => ⟨fun z => ?_, fun z7 => ?_⟩⟩⟩⟩⟩⟩⟩⟩
  · rw [show s 2 0 = I ((k 9 0).toNat : Int) from by rw [show s 2 0 = I (k 9 0) from r1]; congr 1; omega]
    refine c_sum (f := fun j => k 2 j) (by decide) (by omega) (fun j hj => (hy j (by omega)).2.2.1) ?_
    exact hi _ (by omega) (fun _ => rfl) (fun q => by omega) (fun q => by omega)
  · rw [show s 11 0 = I ((k 9 1).toNat : Int) from by rw [show s 11 0 = I (k 9 1) from r2]; congr 1; omega]
    refine c_sum (f := fun j => k 3 j) (by decide) (by omega) (fun j hj => (hb j (by omega)).1) ?_
    exact hi _ (by omega) (fun q => by omega) (fun _ => rfl) (fun q => by omega)
  · exact hi _ (by omega) (fun q => by omega) (fun q => by omega) (fun _ _ => rfl)
