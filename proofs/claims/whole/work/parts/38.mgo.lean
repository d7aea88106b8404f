/-! THE MODEL: all go, all come back -/
def awb (a : Int32) (b : Nat) : Bool := decide (((a >>> (I b &&& 31)) &&& 1) = 1)
def ordK (k : Kv) (j : Nat) : Nat := (k 8 j).toNat
def lineL (k : Kv) (a : Int32) : Nat → List Nat
  | 0 => []
  | n + 1 => lineL k a n ++ (if awb a (ordK k n) then [] else [ordK k n])
def lineK (k : Kv) (a : Int32) : List Nat := lineL k a (k 9 1).toNat
/-- ORDER holds BODIES that there are -/
def CO (k : Kv) : Prop := ∀ j : Nat, (j : Int) < k 9 1 → 0 ≤ k 8 j ∧ k 8 j < k 9 1
theorem lineL_len (k : Kv) (a : Int32) : ∀ n, (lineL k a n).length ≤ n := by
  intro n
  induction n with
  | zero => exact Nat.le_refl 0
  | succ n ih =>
    unfold lineL
    rw [List.length_append]
    split <;> simp <;> omega
theorem lineL_in {k : Kv} (ho : CO k) (a : Int32) : ∀ n : Nat, (n : Int) ≤ k 9 1 → ∀ j, j < (lineL k a n).length → (((lineL k a n).getD j 0 : Nat) : Int) < k 9 1 := by
  intro n
  induction n with
  | zero => intro _ j hj; exact absurd hj (Nat.not_lt_zero j)
  | succ n ih =>
    intro hn j hj
    have h0 := ho n (by omega)
    unfold lineL at hj ⊢
    split at hj
    · rename_i z
      rw [if_pos z, List.append_nil]
      rw [List.append_nil] at hj
      exact ih (by omega) j hj
    · rename_i z
      rw [if_neg z]
      by_cases e : j < (lineL k a n).length
      · rw [List.getD_eq_getElem?_getD, List.getElem?_append_left e, ← List.getD_eq_getElem?_getD]
        exact ih (by omega) j e
      · rw [List.length_append] at hj
        simp at hj
        have : j = (lineL k a n).length := by omega
        subst this
        rw [List.getD_eq_getElem?_getD, List.getElem?_append_right (Nat.le_refl _), Nat.sub_self]
        show ((ordK k n : Nat) : Int) < _
        unfold ordK
        omega
theorem sp_lines {s : St} {k : Kv} (hk : CV k) (ho : CO k) (hr : RM s 83 k) {v ta ln : Nat → Int32} {Q : St → Prop} (hQ : ∀ ln', (∀ j, j < (lineK k (v 7)).length → ln' j = I ((lineK k (v 7)).getD j 0 : Nat)) → Q (MS s (upd v 18 (I (lineK k (v 7)).length)) ta ln')) : vc_Mod_lines (MS s v ta ln) Q := by
  obtain ⟨⟨a1, a2, a3, a4⟩, -⟩ := hk
  unfold vc_Mod_lines
  intro s10 hs10
  have h1 : s 83 (Int32.toNatClampNeg 1) = I (k 9 1) := hr.1 1 (by decide)
  refine ⟨fun N x s' => ∃ (i : Nat) (ln' : Nat → Int32), x = I i ∧ (i : Int) ≤ k 9 1 ∧ N = (k 9 1).toNat - i ∧ s' = MS s (upd v 18 (I (lineL k (v 7) i).length)) ta ln' ∧ ∀ j, j < (lineL k (v 7) i).length → ln' j = I ((lineL k (v 7) i).getD j 0 : Nat), ⟨_, 0, ln, rfl, by simpa using a3, rfl, ?_, fun j hj => absurd hj (Nat.not_lt_zero j)⟩, ?_⟩
  · rw [hs10, MS_w82]
    rfl
  rintro N x s' ⟨i, ln', rfl, hi, hN, rfl, hln⟩
  have hlen := lineL_len k (v 7) i
  refine ⟨v_in (a := 1) ⟨by decide, by decide⟩ (by decide) rfl, ?_⟩
  rw [MS_83, h1]
  have e72 : (72 : Int32) + I i = I ((72 + i : Nat) : Int) := by
    simp (disch := (first | omega | (unfold inr; omega))) only [I_lit, I_nI, I_neg, I_add, I_sub, I_mul, I_div, I_le, I_lt, I_eq, I_clamp, I_clampN, I_vin]
    congr 1
  rw [e72]
  constructor
  · intro q
    have q : (k 9 1).toNat = i := by
      revert q
      simp (disch := (first | omega | (unfold inr; omega))) only [I_lit, I_nI, I_neg, I_add, I_sub, I_mul, I_div, I_le, I_lt, I_eq, I_clamp, I_clampN, I_vin]
      omega
    have e : lineK k (v 7) = lineL k (v 7) i := by
      unfold lineK
      rw [q]
    have := hQ ln'
    rw [e] at this
    exact this hln
  · intro q
    have q : (i : Int) < k 9 1 := by
      revert q
      simp (disch := (first | omega | (unfold inr; omega))) only [I_lit, I_nI, I_neg, I_add, I_sub, I_mul, I_div, I_le, I_lt, I_eq, I_clamp, I_clampN, I_vin]
      omega
    have ho2 := ho i q
    have hord : ((ordK k i : Nat) : Int) = k 8 i := by
      unfold ordK
      omega
    refine ⟨I_vinN (by omega) (by decide), ?_⟩
    rw [I_clampN (by omega), MS_83, (hr.2.2 i q).2, ← hord]
    have e7 : (MS s (upd v 18 (I (lineL k (v 7) i).length)) ta ln') 82 7 = v 7 := rfl
    have e18 : (MS s (upd v 18 (I (lineL k (v 7) i).length)) ta ln') 82 18 = I (lineL k (v 7) i).length := rfl
    rw [e7, e18]
    refine ⟨fun s' => ∃ ln' : Nat → Int32, s' = MS s (upd v 18 (I (lineL k (v 7) (i + 1)).length)) ta ln' ∧ ∀ j, j < (lineL k (v 7) (i + 1)).length → ln' j = I ((lineL k (v 7) (i + 1)).getD j 0 : Nat), ?_, ?_, ?_⟩
    · rintro s18 ⟨ln2, rfl, hln2⟩ x20 hx20
      refine ⟨(k 9 1).toNat - (i + 1), by omega, i + 1, ln2, ?_, by omega, rfl, rfl, hln2⟩
      rw [hx20]
      simp (disch := (first | omega | (unfold inr; omega))) only [I_lit, I_nI, I_neg, I_add, I_sub, I_mul, I_div, I_le, I_lt, I_eq, I_clamp, I_clampN, I_vin]
      congr 1
    · intro c
      have hc : ¬ awb (v 7) (ordK k i) = true := by
        unfold awb
        simpa using c
      have eL : lineL k (v 7) (i + 1) = lineL k (v 7) i ++ [ordK k i] := by
        show lineL k (v 7) i ++ (if awb (v 7) (ordK k i) then [] else [ordK k i]) = _
        rw [if_neg hc]
      refine ⟨I_vinN (by omega) (by decide), I_vinN (by omega) (by decide), ?_⟩
      intro s25 hs25 s26 hs26
      rw [MS_w87, I_clampN (by omega)] at hs25
      subst hs25
      refine ⟨upd ln' (lineL k (v 7) i).length (I (ordK k i : Nat)), ?_, ?_⟩
      · rw [hs26, MS_w82, MS_82, upd_at, upd_upd, eL, List.length_append]
        have : I ((lineL k (v 7) i).length : Int) + 1 = I (((lineL k (v 7) i).length + [ordK k i].length : Nat) : Int) := by
          simp (disch := (first | omega | (unfold inr; omega))) only [I_lit, I_nI, I_neg, I_add, I_sub, I_mul, I_div, I_le, I_lt, I_eq, I_clamp, I_clampN, I_vin]
          congr 1
        rw [this]
      · intro j hj
        rw [eL] at hj ⊢
        rw [List.length_append] at hj
        simp at hj
        by_cases e : j < (lineL k (v 7) i).length
        · rw [upd_ne (by omega), List.getD_eq_getElem?_getD, List.getElem?_append_left e, ← List.getD_eq_getElem?_getD]
          exact hln j e
        · have : j = (lineL k (v 7) i).length := by omega
          subst this
          rw [upd_at, List.getD_eq_getElem?_getD, List.getElem?_append_right (Nat.le_refl _), Nat.sub_self]
          rfl
    · intro c
      have hc : awb (v 7) (ordK k i) = true := by
        unfold awb
        simpa using c
      have eL : lineL k (v 7) (i + 1) = lineL k (v 7) i := by
        show lineL k (v 7) i ++ (if awb (v 7) (ordK k i) then [] else [ordK k i]) = _
        rw [if_pos hc, List.append_nil]
      refine ⟨ln', ?_, ?_⟩
      · rw [eL]
      · rw [eL]
        exact hln
theorem maxUp_ub (k : Kv) (l : Nat → Nat) (a : Nat) : ∀ m j, j < m → k 6 (l (a + j)) ≤ maxUp k l a m := by
  intro m
  induction m with
  | zero => intro j hj; exact absurd hj (Nat.not_lt_zero j)
  | succ m ih =>
    intro j hj
    unfold maxUp
    by_cases e : j < m
    · have := ih j e; omega
    · have : j = m := by omega
      subst this
      omega
theorem maxUp_nn (k : Kv) (l : Nat → Nat) (a : Nat) : ∀ m, 0 ≤ maxUp k l a m := by
  intro m
  induction m with
  | zero => exact Int.le_refl 0
  | succ m ih => unfold maxUp; omega
theorem maxUp_lub (k : Kv) (l : Nat → Nat) (a : Nat) {x : Int} (hx : 0 ≤ x) : ∀ m, (∀ j, j < m → k 6 (l (a + j)) ≤ x) → maxUp k l a m ≤ x := by
  intro m
  induction m with
  | zero => intro _; exact hx
  | succ m ih =>
    intro h
    have := ih (fun j hj => h j (by omega))
    have := h m (by omega)
    unfold maxUp
    omega
theorem maxUp_rev (k : Kv) (l : Nat → Nat) {n i : Nat} (h : i ≤ n) : maxUp k l (n - i) i = maxUp k (oat l n true) 0 i := by
  apply Int.le_antisymm
  · refine maxUp_lub k l _ (maxUp_nn _ _ _ _) i (fun j hj => ?_)
    have := maxUp_ub k (oat l n true) 0 i (i - 1 - j) (by omega)
    have e : oat l n true (0 + (i - 1 - j)) = l (n - i + j) := by
      unfold oat
      rw [if_pos rfl]
      congr 1
      omega
    rw [e] at this
    exact this
  · refine maxUp_lub k _ _ (maxUp_nn _ _ _ _) i (fun j hj => ?_)
    have := maxUp_ub k l (n - i) i (i - 1 - j) (by omega)
    have e : oat l n true (0 + j) = l (n - i + (i - 1 - j)) := by
      unfold oat
      rw [if_pos rfl]
      congr 1
      omega
    rw [e]
    exact this
/-- the model's fields that going there and back doesn't touch -/
def KP (v v' : Nat → Int32) : Prop := ∀ j, (j < 4 ∨ j = 7 ∨ j = 16 ∨ j = 17 ∨ 18 < j) → v' j = v j
theorem KP.rf {v : Nat → Int32} : KP v v := fun _ _ => rfl
theorem KP.up {v v' : Nat → Int32} {j : Nat} {x : Int32} (h : KP v v') (hj : j = 4 ∨ j = 5 ∨ j = 6 ∨ (8 ≤ j ∧ j ≤ 15) ∨ j = 18) : KP v (upd v' j x) := fun i hi => by
  rw [upd_ne (by omega)]
  exact h i hi
theorem KP.way {v v' : Nat → Int32} {r : Int × Int × Int} (h : KP v v') : KP v (wayM v' r) := ((h.up (by omega)).up (by omega)).up (by omega)
theorem wayM4 {v : Nat → Int32} {r : Int × Int × Int} : wayM v r 4 = I r.2.1 := rfl
theorem wayM5 {v : Nat → Int32} {r : Int × Int × Int} : wayM v r 5 = I r.2.2 := rfl
theorem wayM6 {v : Nat → Int32} {r : Int × Int × Int} : wayM v r 6 = I r.1 := rfl
theorem wayM_ne {v : Nat → Int32} {r : Int × Int × Int} {j : Nat} (h : j ≠ 4 ∧ j ≠ 5 ∧ j ≠ 6) : wayM v r j = v j := by
  unfold wayM
  rw [upd_ne h.2.2, upd_ne h.2.1, upd_ne h.1]
theorem oat_f (l : Nat → Nat) (n : Nat) : oat l n false = l := rfl
