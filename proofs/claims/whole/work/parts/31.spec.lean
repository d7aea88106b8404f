/-! THE ABSTRACT CAVE: k a i, a: 0 KIND, 1 FIGURE, 2 WIDTH of YARD i; 3 CHEST, 4 OUT, 5 FEAR, 6 PULL, 7 POSTURE of BODY i; 8 the BODY at place i of ORDER; 9: 0 YARDS, 1 BODIES, 2 CLOCK, 3 RISE, 4 CALM, 5 LIGHT -/
abbrev Kv : Type := Nat → Nat → Int
def dryZ (k f w : Int) : Int := if k = 1 then w + 4 else if k = 2 ∨ k = 3 then max 0 (w - f / 3) else if k = 6 then max 0 (w - f / 3 - 1) else if k = 7 then 2 * (w + 4) else w
def minZ (k f : Int) (back : Bool) : Int := if k = 1 ∨ k = 7 then 1 else if k = 2 ∨ k = 3 then 2 + f else if k = 4 then (if back then 5 else 1) else if k = 6 then 7 + f else 2
def moreZ (k : Int) (feet : Bool) : Int := if k = 3 then (if feet then 0 else 2) else if k = 4 then (if feet then 1 else 0) else 0
def roomZ (k : Kv) (y : Nat) (water : Int) : Int := if k 0 y = 5 then max 0 (k 2 y - water) else dryZ (k 0 y) (k 1 y) (k 2 y)
def costZ (k f : Int) : Int := if k = 1 then 1 else if k = 2 then 3 + f else if k = 3 then 2 * (3 + f) else if k = 4 then 9 else if k = 5 then 4 else if k = 6 then 12 + f else if k = 7 then 1 + f else 3
def armZ (p : Int) : Int := if p % 2 = 0 then 1 else 0
def bulkZ (k : Kv) (b : Nat) (p : Int) (out : Bool) : Int := k 3 b - (if out then k 4 b else 0) + k 5 b / 3 - armZ p
def sizeZ (k : Kv) (b y : Nat) (p : Int) (out : Bool) : Int := bulkZ k b p out + moreZ (k 0 y) (decide (2 ≤ p))
def lackZ (k : Kv) (b y : Nat) (clk : Int) : Int := sizeZ k b y (k 7 b) true - roomZ k y (clk / 60 * k 9 3)
def fitZ (k : Kv) (b y : Nat) (clk : Int) : Int := if 0 < lackZ k b y clk then 2 else if 0 < lackZ k b y clk + k 4 b then 1 else 0
def extraZ (lk out : Int) : Int := if 0 < lk then 10 else if 0 < lk + out then 1 else 0
def brZ (lk out : Int) : Int := if 0 < lk then 0 else if 0 < lk + out then 1 else 0
def CY (k : Kv) (y : Nat) : Prop := 0 ≤ k 0 y ∧ k 0 y ≤ 7 ∧ 0 ≤ k 1 y ∧ k 1 y ≤ 9 ∧ 6 ≤ k 2 y ∧ k 2 y ≤ 40
def CB (k : Kv) (b : Nat) : Prop := 10 ≤ k 3 b ∧ k 3 b ≤ 50 ∧ 0 ≤ k 4 b ∧ k 4 b ≤ 9 ∧ 0 ≤ k 5 b ∧ k 5 b ≤ 9 ∧ 0 ≤ k 6 b ∧ k 6 b ≤ 9 ∧ 0 ≤ k 7 b ∧ k 7 b ≤ 3
/-- a cave is as it must be (ORDER apart) -/
def CV (k : Kv) : Prop := (0 ≤ k 9 0 ∧ k 9 0 ≤ 12 ∧ 0 ≤ k 9 1 ∧ k 9 1 ≤ 6) ∧ (0 ≤ k 9 2 ∧ k 9 2 ≤ 20000 ∧ 0 ≤ k 9 3 ∧ k 9 3 ≤ 9 ∧ 1 ≤ k 9 4 ∧ k 9 4 ≤ 60 ∧ 0 ≤ k 9 5 ∧ k 9 5 ≤ 999) ∧ (∀ y : Nat, (y : Int) < k 9 0 → CY k y) ∧ ∀ b : Nat, (b : Int) < k 9 1 → CB k b
/-- the class's Cave at place c holds it -/
def RC (s : St) (c : Nat) (k : Kv) : Prop :=
  (s (c + 1) 0 = I (k 9 0) ∧ s (c + 10) 0 = I (k 9 1) ∧ s c 5 = I (k 9 2) ∧ s c 2 = I (k 9 3) ∧ s c 3 = I (k 9 4) ∧ s c 4 = I (k 9 5)) ∧
  (∀ y : Nat, (y : Int) < k 9 0 → s (c + 2) y = I (k 0 y) ∧ s (c + 3) y = I (k 1 y) ∧ s (c + 4) y = I (k 2 y) ∧ s (c + 5) y = I (dryZ (k 0 y) (k 1 y) (k 2 y)) ∧ s (c + 6) y = I (minZ (k 0 y) (k 1 y) false) ∧ s (c + 7) y = I (minZ (k 0 y) (k 1 y) true) ∧ s (c + 8) y = I (moreZ (k 0 y) false) ∧ s (c + 9) y = I (moreZ (k 0 y) true)) ∧
  ∀ b : Nat, (b : Int) < k 9 1 → s (c + 11) b = I (k 3 b) ∧ s (c + 12) b = I (k 4 b) ∧ s (c + 13) b = I (k 5 b) ∧ s (c + 14) b = I (k 6 b) ∧ s (c + 15) b = I (k 7 b) ∧ s (c + 16) b = I (k 8 b)
theorem q_eq {α : Type} {Q : α → Prop} {a b : α} (h : Q b) (e : a = b) : Q a := e ▸ h
theorem dry_in {k f w : Int} (hk : 0 ≤ k ∧ k ≤ 7) (hf : 0 ≤ f ∧ f ≤ 9) (hw : 6 ≤ w ∧ w ≤ 40) : 0 ≤ dryZ k f w ∧ dryZ k f w ≤ 88 := by
  unfold dryZ
  repeat' split
  all_goals omega
theorem min_in {k f : Int} (hf : 0 ≤ f ∧ f ≤ 9) (b : Bool) : 1 ≤ minZ k f b ∧ minZ k f b ≤ 16 := by
  unfold minZ
  repeat' split
  all_goals omega
theorem more_in (k : Int) (b : Bool) : 0 ≤ moreZ k b ∧ moreZ k b ≤ 2 := by
  unfold moreZ
  repeat' split
  all_goals omega
theorem arm_in (p : Int) : 0 ≤ armZ p ∧ armZ p ≤ 1 := by
  unfold armZ
  split <;> omega
theorem room_in {k : Kv} {y : Nat} (h : CY k y) {w : Int} (hw : 0 ≤ w) : 0 ≤ roomZ k y w ∧ roomZ k y w ≤ 88 := by
  obtain ⟨h1, h2, h3, h4, h5, h6⟩ := h
  have := dry_in ⟨h1, h2⟩ ⟨h3, h4⟩ ⟨h5, h6⟩
  unfold roomZ
  split <;> omega
theorem bulk_in {k : Kv} {b : Nat} (h : CB k b) (p : Int) (o : Bool) : 0 ≤ bulkZ k b p o ∧ bulkZ k b p o ≤ 53 := by
  obtain ⟨h1, h2, h3, h4, h5, h6, -⟩ := h
  have := arm_in p
  unfold bulkZ
  split <;> omega
theorem size_in {k : Kv} {b : Nat} (h : CB k b) (y : Nat) (p : Int) (o : Bool) : 0 ≤ sizeZ k b y p o ∧ sizeZ k b y p o ≤ 55 := by
  have := bulk_in h p o
  have := more_in (k 0 y) (decide (2 ≤ p))
  unfold sizeZ
  omega
theorem water_in {c r : Int} (h : 0 ≤ c ∧ c ≤ 1000000) (hr : 0 ≤ r ∧ r ≤ 9) : 0 ≤ c / 60 * r ∧ c / 60 * r ≤ 150003 := by
  have h1 : 0 ≤ c / 60 := by omega
  have h2 : c / 60 ≤ 16667 := by omega
  have h3 := Int.mul_le_mul h2 hr.2 hr.1 (by omega : (0 : Int) ≤ 16667)
  have h4 := Int.mul_nonneg h1 hr.1
  omega
theorem lack_in {k : Kv} {b y : Nat} (hb : CB k b) (hy : CY k y) {c : Int} (hc : 0 ≤ c ∧ c ≤ 1000000) (hr : 0 ≤ k 9 3 ∧ k 9 3 ≤ 9) : -88 ≤ lackZ k b y c ∧ lackZ k b y c ≤ 55 := by
  have := size_in hb y (k 7 b) true
  have := room_in hy (water_in hc hr).1
  unfold lackZ
  omega
-- the class's small methods
theorem sp_within {x a b : Int} {Q : Bool → Prop} (hx : inr x) (ha : inr a) (hb : inr b) (h : Q (decide (a ≤ x ∧ x ≤ b))) : vc_Brt_within (I x) (I a) (I b) Q := by
  unfold vc_Brt_within
  rw [I_lt hx ha, I_lt hb hx]
  refine ⟨fun c => q_eq h (by simp; omega), fun c => ⟨fun d => q_eq h (by simp; omega), fun d => q_eq h (by simp; omega)⟩⟩
theorem jp {A : Prop} : (∃ J : Prop, (J → A) ∧ J) ↔ A := ⟨fun ⟨_, h, j⟩ => h j, fun h => ⟨True, fun _ => h, trivial⟩⟩
theorem jt {A : Prop} : (∃ J : Prop, J → A) ↔ True := ⟨fun _ => trivial, fun _ => ⟨False, False.elim⟩⟩
theorem I0 : I 0 = 0 := rfl
theorem I1 : I 1 = 1 := rfl
theorem I2 : I 2 = 2 := rfl
theorem I3 : I 3 = 3 := rfl
theorem I4 : I 4 = 4 := rfl
theorem I5 : I 5 = 5 := rfl
theorem I6 : I 6 = 6 := rfl
theorem I7 : I 7 = 7 := rfl
theorem sp_kroom {k f w : Int} {Q : Int32 → Prop} (hk : 0 ≤ k ∧ k ≤ 7) (hf : 0 ≤ f ∧ f ≤ 9) (hw : 6 ≤ w ∧ w ≤ 40) (h : Q (I (dryZ k f w))) : vc_Kin_roomOf 2 (I k) (I f) (I w) Q := by
  have e3 : (0 : Int) ≤ f / 3 ∧ f / 3 ≤ 3 := by omega
  have e4 : 0 ≤ max 0 (w - f / 3) ∧ max 0 (w - f / 3) ≤ 40 := by omega
  rcases (show k = 0 ∨ k = 1 ∨ k = 2 ∨ k = 3 ∨ k = 4 ∨ k = 5 ∨ k = 6 ∨ k = 7 by omega) with rfl | rfl | rfl | rfl | rfl | rfl | rfl | rfl
  all_goals simp only [I0, I1, I2, I3, I4, I5, I6, I7]
  all_goals simp [vc_Kin_roomOf, jp, jt]
  all_goals refine q_eq h ?_
  all_goals simp only [dryZ]
  all_goals simp
  all_goals simp (disch := (first | omega | (unfold inr; omega))) only [I_lit, I_nI, I_neg, I_add, I_sub, I_mul, I_div, I_le, I_lt, I_eq, I_clamp, I_clampN, I_vin, imax_I]
  congr 1
  omega
theorem sp_kmin {k f : Int} {Q : Int32 → Prop} (hk : 0 ≤ k ∧ k ≤ 7) (hf : 0 ≤ f ∧ f ≤ 9) (b : Bool) (h : Q (I (minZ k f b))) : vc_Kin_minutesOf 2 (I k) (I f) (bi b) Q := by
  rcases (show k = 0 ∨ k = 1 ∨ k = 2 ∨ k = 3 ∨ k = 4 ∨ k = 5 ∨ k = 6 ∨ k = 7 by omega) with rfl | rfl | rfl | rfl | rfl | rfl | rfl | rfl
  all_goals simp only [I0, I1, I2, I3, I4, I5, I6, I7]
  all_goals cases b
  all_goals simp [vc_Kin_minutesOf, jp, jt, bi]
  all_goals refine q_eq h ?_
  all_goals simp only [minZ]
  all_goals simp
  all_goals simp (disch := (first | omega | (unfold inr; omega))) only [I_lit, I_nI, I_neg, I_add, I_sub, I_mul, I_div, I_le, I_lt, I_eq, I_clamp, I_clampN, I_vin]
  all_goals omega
theorem sp_kmore {k : Int} {Q : Int32 → Prop} (hk : 0 ≤ k ∧ k ≤ 7) (b : Bool) (h : Q (I (moreZ k b))) : vc_Kin_moreOf (I k) (bi b) Q := by
  rcases (show k = 0 ∨ k = 1 ∨ k = 2 ∨ k = 3 ∨ k = 4 ∨ k = 5 ∨ k = 6 ∨ k = 7 by omega) with rfl | rfl | rfl | rfl | rfl | rfl | rfl | rfl
  all_goals simp only [I0, I1, I2, I3, I4, I5, I6, I7]
  all_goals cases b
  all_goals simp [vc_Kin_moreOf, bi]
  all_goals exact h
theorem sp_kcost {k f : Int} {Q : Int32 → Prop} (hk : 0 ≤ k ∧ k ≤ 7) (hf : 0 ≤ f ∧ f ≤ 9) (h : Q (I (costZ k f))) : vc_Kin_costOf 2 (I k) (I f) Q := by
  rcases (show k = 0 ∨ k = 1 ∨ k = 2 ∨ k = 3 ∨ k = 4 ∨ k = 5 ∨ k = 6 ∨ k = 7 by omega) with rfl | rfl | rfl | rfl | rfl | rfl | rfl | rfl
  all_goals simp only [I0, I1, I2, I3, I4, I5, I6, I7]
  all_goals simp [vc_Kin_costOf]
  all_goals refine q_eq h ?_
  all_goals simp only [costZ]
  all_goals simp
  all_goals simp (disch := (first | omega | (unfold inr; omega))) only [I_lit, I_nI, I_neg, I_add, I_sub, I_mul, I_div, I_le, I_lt, I_eq, I_clamp, I_clampN, I_vin]
  all_goals omega
