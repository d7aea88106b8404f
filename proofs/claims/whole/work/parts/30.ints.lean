/-! INTS: Int32 values as I z; sums, comparisons, quotients -/
def I (z : Int) : Int32 := Int32.ofInt z
def inr (z : Int) : Prop := -2147483648 ≤ z ∧ z < 2147483648
theorem I_toInt (x : Int32) : I x.toInt = x := Int32.ofInt_toInt x
theorem I_in {z : Int} (h : inr z) : (I z).toInt = z := by
  unfold I
  rw [Int32.toInt_ofInt]
  unfold inr at h
  rw [Int.bmod_eq_of_le] <;> simp [Int32.size] <;> omega
theorem toInt_inr (x : Int32) : inr x.toInt := ⟨Int32.le_toInt x, Int32.toInt_lt x⟩
theorem I_add (a b : Int) : I a + I b = I (a + b) := (Int32.ofInt_add a b).symm
theorem I_sub (a b : Int) : I a - I b = I (a - b) := (Int32.ofInt_sub a b).symm
theorem I_mul (a b : Int) : I a * I b = I (a * b) := (Int32.ofInt_mul a b).symm
theorem I_neg (a : Int) : - I a = I (- a) := (Int32.ofInt_neg a).symm
theorem I_lit (n : Nat) : (OfNat.ofNat n : Int32) = I (OfNat.ofNat n) := by
  unfold I
  rfl
theorem I_nI (n : Nat) : nI n = I n := by
  unfold I nI
  exact (Int32.ofInt_eq_ofNat).symm
theorem I_le {a b : Int} (ha : inr a) (hb : inr b) : I a ≤ I b ↔ a ≤ b := by
  rw [Int32.le_iff_toInt_le, I_in ha, I_in hb]
theorem I_lt {a b : Int} (ha : inr a) (hb : inr b) : I a < I b ↔ a < b := by
  rw [Int32.lt_iff_toInt_lt, I_in ha, I_in hb]
theorem I_eq {a b : Int} (ha : inr a) (hb : inr b) : I a = I b ↔ a = b := by
  rw [← Int32.toInt_inj, I_in ha, I_in hb]
theorem I_clamp {a : Int} (h : 0 ≤ a) (h2 : a < 2147483648) : (I a).toNatClampNeg = a.toNat := by
  unfold Int32.toNatClampNeg
  rw [I_in ⟨by omega, h2⟩]
theorem I_clampN {n : Nat} (h : n < 2147483648) : (I (n : Int)).toNatClampNeg = n := by
  rw [I_clamp (by omega) (by omega)]; rfl
theorem I_div {a b : Int} (ha : 0 ≤ a) (ha2 : a < 2147483648) (hb : 0 < b) (hb2 : b < 2147483648) : I a / I b = I (a / b) := by
  apply Int32.toInt_inj.mp
  have h3 : a / b ≤ a := Int.ediv_le_self b ha
  have h4 : 0 ≤ a / b := Int.ediv_nonneg ha (by omega)
  rw [Int32.toInt_div, I_in ⟨by omega, ha2⟩, I_in ⟨by omega, hb2⟩, I_in ⟨by omega, by omega⟩, Int.tdiv_eq_ediv_of_nonneg ha]
  rw [Int.bmod_eq_of_le] <;> simp <;> omega
theorem I_vin {a : Int} {n : Nat} (h : inr a) : vp_in (I a) n ↔ 0 ≤ a ∧ a < n := by
  rw [vp_in_iff, I_in h]
theorem I_vinN {j n : Nat} (h : j < n) (hn : n < 2147483648) : vp_in (I (j : Int)) n := (I_vin ⟨by omega, by omega⟩).mpr ⟨by omega, by omega⟩
theorem I_of (x : Int32) : ∃ z : Int, inr z ∧ x = I z := ⟨x.toInt, toInt_inr x, (I_toInt x).symm⟩
theorem bi_f {b : Bool} : bi b = 0 ↔ b = false := by cases b <;> decide
theorem bi_t {b : Bool} : bi b = 1 ↔ b = true := by cases b <;> decide
theorem imax_I {a b : Int} (ha : inr a) (hb : inr b) : imax (I a) (I b) = I (max a b) := by
  unfold imax
  by_cases h : a < b
  · rw [if_pos ((I_lt ha hb).mpr h), Int.max_eq_right (by omega)]
  · rw [if_neg (fun q => h ((I_lt ha hb).mp q)), Int.max_eq_left (by omega)]
theorem imin_I {a b : Int} (ha : inr a) (hb : inr b) : imin (I a) (I b) = I (min a b) := by
  unfold imin
  by_cases h : b < a
  · rw [if_pos ((I_lt hb ha).mpr h), Int.min_eq_right (by omega)]
  · rw [if_neg (fun q => h ((I_lt hb ha).mp q)), Int.min_eq_left (by omega)]
/-- a join whose arms give values: what stands behind it, at each -/
theorem jn1 {α : Type} {R : α → Prop} {B : (α → Prop) → Prop} (h : B R) : ∃ J : α → Prop, (∀ x, J x → R x) ∧ B J := ⟨R, fun _ h => h, h⟩
theorem jn2 {α β : Type} {R : α → β → Prop} {B : (α → β → Prop) → Prop} (h : B R) : ∃ J : α → β → Prop, (∀ x y, J x y → R x y) ∧ B J := ⟨R, fun _ _ h => h, h⟩
theorem ite_br {c A B : Prop} [Decidable c] (h : if c then A else B) : (c → A) ∧ (¬ c → B) := by
  by_cases hc : c
  · rw [if_pos hc] at h; exact ⟨fun _ => h, fun q => absurd hc q⟩
  · rw [if_neg hc] at h; exact ⟨fun q => absurd q hc, fun _ => h⟩
