-- panic: longs
def K (z : Int) : Int64 := Int64.ofInt z
theorem K_toInt (x : Int64) : K x.toInt = x := Int64.ofInt_toInt x
theorem K_in {z : Int} (h : -9223372036854775808 ≤ z ∧ z < 9223372036854775808) : (K z).toInt = z := by
  unfold K
  rw [Int64.toInt_ofInt]
  rw [Int.bmod_eq_of_le] <;> simp [Int64.size] <;> omega
theorem K_add (a b : Int) : K a + K b = K (a + b) := (Int64.ofInt_add a b).symm
theorem K_sub (a b : Int) : K a - K b = K (a - b) := (Int64.ofInt_sub a b).symm
theorem K_mul (a b : Int) : K a * K b = K (a * b) := (Int64.ofInt_mul a b).symm
theorem K_div {a b : Int} (ha : 0 ≤ a) (ha2 : a < 9223372036854775808) (hb : 0 < b) (hb2 : b < 9223372036854775808) : K a / K b = K (a / b) := by
  apply Int64.toInt_inj.mp
  have h3 : a / b ≤ a := Int.ediv_le_self b ha
  have h4 : 0 ≤ a / b := Int.ediv_nonneg ha (by omega)
  rw [Int64.toInt_div, K_in ⟨by omega, ha2⟩, K_in ⟨by omega, hb2⟩, K_in ⟨by omega, by omega⟩, Int.tdiv_eq_ediv_of_nonneg ha]
  rw [Int.bmod_eq_of_le] <;> simp <;> omega
theorem K_I {z : Int} (h : inr z) : Int32.toInt64 (I z) = K z := by
  obtain ⟨h1, h2⟩ := id h
  apply Int64.toInt_inj.mp
  rw [Int32.toInt_toInt64, I_in h, K_in ⟨by omega, by omega⟩]
theorem K0 : K 0 = 0 := rfl
theorem K_z {n : Nat} (h : n < 1000000000000) : (K (n : Nat) = 0) ↔ n = 0 := by
  rw [← K0, ← Int64.toInt_inj, K_in ⟨by omega, by omega⟩, K_in ⟨by omega, by omega⟩]
  omega
theorem K_rem {x y : Nat} (hx : x < 1000000000000) (hy : y < 1000000000000) (h0 : 0 < y) : K (x : Nat) - K (x : Nat) / K (y : Nat) * K (y : Nat) = K (x % y : Nat) := by
  rw [K_div (by omega) (by omega) (by omega) (by omega), K_mul, K_sub]
  congr 1
  have h := Nat.div_add_mod x y
  have h2 : ((y * (x / y) + x % y : Nat) : Int) = (x : Int) := by rw [h]
  rw [Int.natCast_add, Int.natCast_mul, Int.mul_comm, Int.natCast_ediv] at h2
  generalize (x : Int) / (y : Int) * (y : Int) = u at h2 ⊢
  omega
theorem c_gcd {a b : Nat} (ha : a < 1000000000000) (hb : b < 1000000000000) {Q : Int64 → Prop} (hQ : Q (K (Nat.gcd a b : Nat))) : vc_Brt_commonDivisor (K (a : Nat)) (K (b : Nat)) Q := by
  have hp : (1000000000000 : Nat) * 1000000000000 < 2 ^ 80 := by decide
  unfold vc_Brt_commonDivisor
  refine ⟨fun N u v t => ∃ x y st : Nat, u = K (x : Nat) ∧ v = K (y : Nat) ∧ t = I (st : Nat) ∧ st ≤ 200 ∧ N = 200 - st ∧ x < 1000000000000 ∧ y < 1000000000000 ∧ Nat.gcd x y = Nat.gcd a b ∧ (st = 0 ∨ y = 0 ∨ (y ≤ x ∧ st ≤ 81 ∧ x * y < 2 ^ (81 - st))), ⟨_, a, b, 0, rfl, rfl, rfl, by omega, rfl, ha, hb, rfl, Or.inl rfl⟩, ?_⟩
  rintro N u v t ⟨x, y, st, rfl, rfl, rfl, hst, hN, hx, hy, hg, hs⟩
  have fin : y = 0 → Q (K (x : Nat)) := by
    intro e
    subst e
    rw [Nat.gcd_zero_right] at hg
    rw [hg]
    exact hQ
  constructor
  · intro z
    have z : st = 200 := by
      revert z
      simp (disch := (first | omega | (unfold inr; omega))) only [I_lit, I_nI, I_neg, I_add, I_sub, I_mul, I_div, I_le, I_lt, I_eq, I_clamp, I_clampN, I_vin]
      omega
    exact fin (by omega)
  · intro z
    have z : st < 200 := by
      revert z
      simp (disch := (first | omega | (unfold inr; omega))) only [I_lit, I_nI, I_neg, I_add, I_sub, I_mul, I_div, I_le, I_lt, I_eq, I_clamp, I_clampN, I_vin]
      omega
    rw [lg_cmp_eq, K_z hy]
    refine ⟨fun c => fin c, fun c => ?_⟩
    refine ⟨fun q => c q, ?_⟩
    intro x18 h18 x19 h19
    rw [K_rem hx hy (by omega)] at h18
    have hm : x % y < y := Nat.mod_lt _ (by omega)
    refine ⟨200 - (st + 1), by omega, y, x % y, st + 1, rfl, h18, ?_, by omega, rfl, hy, by omega, ?_, ?_⟩
    · rw [h19]
      simp (disch := (first | omega | (unfold inr; omega))) only [I_lit, I_nI, I_neg, I_add, I_sub, I_mul, I_div, I_le, I_lt, I_eq, I_clamp, I_clampN, I_vin]
      congr 1
    · rw [Nat.gcd_comm, ← Nat.gcd_rec, Nat.gcd_comm]
      exact hg
    · rcases hs with h | h | ⟨h1, h2, h3⟩
      · subst h
        refine Or.inr (Or.inr ⟨by omega, by omega, ?_⟩)
        have : y * (x % y) ≤ 1000000000000 * 1000000000000 := Nat.mul_le_mul (by omega) (by omega)
        show y * (x % y) < 2 ^ 80
        omega
      · exact absurd h c
      · have hxy : 0 < x * y := Nat.mul_pos (by omega) (by omega)
        have hst81 : st ≠ 81 := by
          intro e
          subst e
          rw [Nat.sub_self, Nat.pow_zero] at h3
          omega
        refine Or.inr (Or.inr ⟨by omega, by omega, ?_⟩)
        have q1 : 1 ≤ x / y := (Nat.one_le_div_iff (by omega)).mpr h1
        have q2 := Nat.div_add_mod x y
        have q3 : y * 1 ≤ y * (x / y) := Nat.mul_le_mul_left y q1
        have q4 : 2 * (x % y) ≤ x := by
          generalize y * (x / y) = w at q2 q3
          omega
        have q5 : y * (2 * (x % y)) ≤ y * x := Nat.mul_le_mul_left y q4
        rw [Nat.mul_left_comm, Nat.mul_comm y x] at q5
        have q6 : 2 ^ (81 - st) = 2 ^ (81 - (st + 1)) * 2 := by
          rw [← Nat.pow_succ]
          congr 1
          omega
        omega
theorem m_gcd {a b : Nat} (ha : a < 1000000000000) (hb : b < 1000000000000) {Q : Int64 → Prop} (hQ : Q (K (Nat.gcd a b : Nat))) : vc_Mod_gcd (K (a : Nat)) (K (b : Nat)) Q := by
  unfold vc_Mod_gcd
  refine ⟨fun N u v => ∃ x y : Nat, u = K (x : Nat) ∧ v = K (y : Nat) ∧ N = y ∧ x < 1000000000000 ∧ y < 1000000000000 ∧ Nat.gcd x y = Nat.gcd a b, ⟨_, a, b, rfl, rfl, rfl, ha, hb, rfl⟩, ?_⟩
  rintro N u v ⟨x, y, rfl, rfl, hN, hx, hy, hg⟩
  rw [lg_cmp_eq, K_z hy]
  refine ⟨fun e => ?_, fun c => ⟨fun q => c q, ?_⟩⟩
  · subst e
    rw [Nat.gcd_zero_right] at hg
    rw [hg]
    exact hQ
  · intro x16 h16
    rw [K_rem hx hy (by omega)] at h16
    have hm : x % y < y := Nat.mod_lt _ (by omega)
    refine ⟨x % y, by omega, y, x % y, rfl, h16, rfl, hy, by omega, ?_⟩
    rw [Nat.gcd_comm, ← Nat.gcd_rec, Nat.gcd_comm]
    exact hg
