-- the model reads
def RD (s : St) (d : Nat) (z : Nat → Int) (l : Nat) : Prop := s 82 20 = I (100 * d : Nat) ∧ s 82 21 = I (l : Nat) ∧ (l ≤ 100 ∧ d < 8) ∧ (∀ j, j < 100 → -128 ≤ z j ∧ z j ≤ 127) ∧ ∀ j, j < 100 → s 97 (100 * d + j) = I (z j)
def hereZ (z : Nat → Int) (l a : Nat) : Int := if a < l then (if z a < 0 then z a + 256 else z a) else -1
def FRs (s s' : St) : Prop := ∀ p j, (p ≠ 82 ∨ j ≠ 19) → p ≠ 88 → s' p j = s p j
theorem FRs.rd {s s' : St} {d : Nat} {z : Nat → Int} {l : Nat} (h : FRs s s') (hr : RD s d z l) : RD s' d z l := ⟨(h _ _ (by omega) (by decide)).trans hr.1, (h _ _ (by omega) (by decide)).trans hr.2.1, hr.2.2.1, hr.2.2.2.1, fun j hj => (h _ _ (by omega) (by decide)).trans (hr.2.2.2.2 j hj)⟩
theorem FRs.tr {s t u : St} (h : FRs s t) (g : FRs t u) : FRs s u := fun p j h1 h2 => (g p j h1 h2).trans (h p j h1 h2)
theorem m_here {s : St} {d : Nat} {z : Nat → Int} {l a : Nat} (hr : RD s d z l) (h19 : s 82 19 = I (a : Nat)) (ha : a ≤ 200) {Q : Int32 → Prop} (h : Q (I (hereZ z l a))) : vc_Mod_here s Q := by
  obtain ⟨r1, r2, ⟨r3, r4⟩, r5, r6⟩ := hr
  unfold vc_Mod_here
  rw [h19, r1, r2]
  unfold hereZ at h
  refine ⟨fun q => ?_, fun q => ?_⟩
  · have q : l ≤ a := by
      revert q
      simp (disch := (first | omega | (unfold inr; omega))) only [I_lit, I_nI, I_neg, I_add, I_sub, I_mul, I_div, I_le, I_lt, I_eq, I_clamp, I_clampN, I_vin]
      omega
    rw [if_neg (by omega)] at h
    exact h
  · have q : a < l := by
      revert q
      simp (disch := (first | omega | (unfold inr; omega))) only [I_lit, I_nI, I_neg, I_add, I_sub, I_mul, I_div, I_le, I_lt, I_eq, I_clamp, I_clampN, I_vin]
      omega
    have e : I ((100 * d : Nat) : Int) + I (a : Int) = I ((100 * d + a : Nat) : Int) := by
      simp (disch := (first | omega | (unfold inr; omega))) only [I_lit, I_nI, I_neg, I_add, I_sub, I_mul, I_div, I_le, I_lt, I_eq, I_clamp, I_clampN, I_vin]
      congr 1
    have hz := r5 a (by omega)
    rw [e, I_clampN (by omega), r6 a (by omega)]
    refine ⟨I_vinN (by omega) (by decide), ?_⟩
    rw [if_pos q] at h
    obtain ⟨n, hn⟩ : ∃ n : Nat, (n : Int) = z a + 128 := ⟨(z a + 128).toNat, by omega⟩
    have h255 := and255 n (by omega)
    rw [show (n : Int) - 128 = z a by omega] at h255
    rw [h255]
    by_cases c : z a < 0
    · rw [if_pos c] at h
      rw [if_pos (by omega), show (n : Int) + 128 = z a + 256 by omega]
      exact h
    · rw [if_neg c] at h
      rw [if_neg (by omega)]
      exact h
theorem m_rnum {s : St} {d : Nat} {z : Nat → Int} {l a off k n : Nat} (hr : RD s d z l) (h19 : s 82 19 = I (a + 1 + off : Nat)) (hk : k < 4) (ha : a + 1 + off ≤ l) (hg : ∀ i, i < off → ¬ badD z l a i) {x y : Int32} (hx : x = I (k : Nat)) (hy : y = I (n : Nat)) (hn : n ≤ 3) {Q : Bool → St → Prop}
    (hF : ∀ r, off ≤ r → r < off + n → (∀ i, i < r → ¬ badD z l a i) → badD z l a r → ∀ s' : St, (∀ p j, (p ≠ 82 ∨ j ≠ 19) → (p ≠ 88 ∨ j ≠ k) → s' p j = s p j) → s' 82 19 = I (a + 1 + r : Nat) → Q false s')
    (hT : (∀ i, i < off + n → ¬ badD z l a i) → ∀ s' : St, (∀ p j, (p ≠ 82 ∨ j ≠ 19) → (p ≠ 88 ∨ j ≠ k) → s' p j = s p j) → s' 82 19 = I (a + 1 + (off + n) : Nat) → s' 88 k = I (numF z (a + 1 + off) n) → Q true s') : vc_Mod_readsNumber x y s Q := by
  subst hx hy
  have hin : vp_in (I ((k : Nat) : Int)) 4 := I_vinN hk (by decide)
  have hcl : (I ((k : Nat) : Int)).toNatClampNeg = k := I_clampN (by omega)
  have hl := hr.2.2.1.1
  unfold vc_Mod_readsNumber
  rw [hcl]
  refine ⟨hin, ?_⟩
  intro s11 h11
  refine ⟨fun N t s' => ∃ m : Nat, t = I (m : Nat) ∧ m ≤ n ∧ N = n - m ∧ (∀ p j, (p ≠ 82 ∨ j ≠ 19) → (p ≠ 88 ∨ j ≠ k) → s' p j = s p j) ∧ s' 82 19 = I (a + 1 + (off + m) : Nat) ∧ s' 88 k = I (numF z (a + 1 + off) m) ∧ ∀ i, i < off + m → ¬ badD z l a i, ⟨_, 0, rfl, by omega, rfl, fun p j h1 h2 => ?_, ?_, ?_, hg⟩, ?_⟩
  · rw [h11]
    unfold wr
    repeat' split
    all_goals first | rfl | (exfalso; omega)
  · rw [h11, wr_ne (by decide)]
    exact h19
  · rw [h11, wr_at]
    rfl
  rintro N t s' ⟨m, rfl, hm, hN, f1, f2, f3, f4⟩
  constructor
  · intro q
    have q : m = n := by
      revert q
      simp (disch := (first | omega | (unfold inr; omega))) only [I_lit, I_nI, I_neg, I_add, I_sub, I_mul, I_div, I_le, I_lt, I_eq, I_clamp, I_clampN, I_vin]
      omega
    subst q
    exact hT f4 s' f1 f2 f3
  · intro q
    have q : m < n := by
      revert q
      simp (disch := (first | omega | (unfold inr; omega))) only [I_lit, I_nI, I_neg, I_add, I_sub, I_mul, I_div, I_le, I_lt, I_eq, I_clamp, I_clampN, I_vin]
      omega
    have hal : a + 1 + (off + m) ≤ l := by
      rcases Nat.eq_zero_or_pos (off + m) with w | w
      · omega
      · have := f4 (off + m - 1) (by omega)
        unfold badD at this
        omega
    have hr' : RD s' d z l := ⟨(f1 _ _ (by omega) (by omega)).trans hr.1, (f1 _ _ (by omega) (by omega)).trans hr.2.1, hr.2.2.1, hr.2.2.2.1, fun j hj => (f1 _ _ (by omega) (by omega)).trans (hr.2.2.2.2 j hj)⟩
    refine m_here hr' f2 (by omega) ?_
    have hh : -1 ≤ hereZ z l (a + 1 + (off + m)) ∧ hereZ z l (a + 1 + (off + m)) ≤ 255 := by
      unfold hereZ
      split
      · have := hr.2.2.2.1 (a + 1 + (off + m)) (by omega)
        split <;> omega
      · omega
    rw [show vc_Mod_isIn (I (hereZ z l (a + 1 + (off + m)))) 48 57 = vc_Mod_isIn (I (hereZ z l (a + 1 + (off + m)))) (I 48) (I 57) from rfl]
    refine sp_isIn ⟨by omega, by omega⟩ ⟨by decide, by decide⟩ ⟨by decide, by decide⟩ ?_
    rw [bi_f]
    refine ⟨fun c => ⟨hin, ?_⟩, fun c => ?_⟩
    · have c : 48 ≤ hereZ z l (a + 1 + (off + m)) ∧ hereZ z l (a + 1 + (off + m)) ≤ 57 := by simpa using c
      have c2 : a + 1 + (off + m) < l ∧ hereZ z l (a + 1 + (off + m)) = z (a + 1 + (off + m)) := by
        unfold hereZ at c ⊢
        by_cases u : a + 1 + (off + m) < l
        · have hz := hr.2.2.2.1 (a + 1 + (off + m)) (by omega)
          rw [if_pos u] at c ⊢
          by_cases v : z (a + 1 + (off + m)) < 0
          · rw [if_pos v] at c
            omega
          · rw [if_neg v]
            exact ⟨u, rfl⟩
        · rw [if_neg u] at c
          omega
      have hnb : ¬ badD z l a (off + m) := fun w => w ⟨by omega, by rw [show a + 1 + (off + m) = a + 1 + (off + m) from rfl] at c2; omega, by omega⟩
      refine m_here hr' f2 (by omega) ⟨hin, ?_⟩
      intro s26 h26 s27 h27 x28 h28
      refine ⟨n - (m + 1), by omega, m + 1, ?_, by omega, rfl, fun p j h1 h2 => ?_, ?_, ?_, fun i hi => ?_⟩
      · rw [h28]
        simp (disch := (first | omega | (unfold inr; omega))) only [I_lit, I_nI, I_neg, I_add, I_sub, I_mul, I_div, I_le, I_lt, I_eq, I_clamp, I_clampN, I_vin]
        congr 1
      · have : s27 p j = s' p j := by
          rw [h27, h26]
          unfold wr
          repeat' split
          all_goals first | rfl | (exfalso; omega)
        exact this.trans (f1 p j h1 h2)
      · rw [h27, wr_at, h26, wr_ne (by decide), f2]
        simp (disch := (first | omega | (unfold inr; omega))) only [I_lit, I_nI, I_neg, I_add, I_sub, I_mul, I_div, I_le, I_lt, I_eq, I_clamp, I_clampN, I_vin]
        congr 1
      · rw [h27, wr_ne (by decide), h26, wr_at, f3, c2.2, show (10 : Int32) = I 10 from rfl, show (48 : Int32) = I 48 from rfl, I_mul, I_add, I_sub, numF_s, show a + 1 + off + m = a + 1 + (off + m) by omega]
      · by_cases e : i = off + m
        · rw [e]; exact hnb
        · exact f4 i (by omega)
    · refine hF (off + m) (by omega) (by omega) f4 (fun w => ?_) s' f1 f2
      apply of_decide_eq_false c
      unfold hereZ
      have w1 : a + 1 + (off + m) < l := w.1
      rw [if_pos w1, if_neg (by omega)]
      exact w.2
def NUM (z : Nat → Int) (a : Nat) (s : St) : Prop :=
  (z a = 98 → s 88 0 = I (numF z (a + 1) 2) ∧ s 88 1 = I (numF z (a + 3) 1) ∧ s 88 2 = I (numF z (a + 4) 1) ∧ s 88 3 = I (numF z (a + 5) 1)) ∧
  (z a = 121 → s 88 0 = I (numF z (a + 1) 1) ∧ s 88 1 = I (numF z (a + 2) 1) ∧ s 88 2 = I (numF z (a + 3) 2)) ∧
  (z a = 112 ∨ z a = 120 → s 88 0 = I (numF z (a + 1) 1) ∧ s 88 1 = I (numF z (a + 2) 1)) ∧
  (z a = 114 → s 88 0 = I (numF z (a + 1) 1)) ∧ (z a = 99 ∨ z a = 116 → s 88 0 = I (numF z (a + 1) 2)) ∧ (z a = 108 → s 88 0 = I (numF z (a + 1) 3))
def BADs (s : St) (z : Nat → Int) (l a : Nat) (s' : St) : Prop := FRs s s' ∧ ∃ r, r < digs (z a) ∧ (∀ i, i < r → ¬ badD z l a i) ∧ badD z l a r ∧ s' 82 19 = I (a + 1 + r : Nat)
def GOODs (s : St) (z : Nat → Int) (l a : Nat) (s' : St) : Prop := FRs s s' ∧ (∀ i, i < digs (z a) → ¬ badD z l a i) ∧ s' 82 19 = I (a + 1 + digs (z a) : Nat) ∧ NUM z a s'
def GBs (s : St) (z : Nat → Int) (l a : Nat) (x : Int32) (s' : St) : Prop := (x = 0 ∧ BADs s z l a s') ∨ (x = 1 ∧ GOODs s z l a s')
