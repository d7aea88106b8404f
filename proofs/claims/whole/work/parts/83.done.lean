theorem m_done {s : St} {z : Nat → Int} {l a : Nat} {k : Kv} (hk : CC k) (hr : RM s 83 k) (hz100 : ∀ j, j < 100 → -128 ≤ z j ∧ z j ≤ 127) (hl : l ≤ 100) (hb : (brk z l a).2 = true) (hn : NUM z a s) {x : Int32} (hx : x = I (z a)) {Q : Bool → St → Prop} (h0 : doS k z a = none → ∀ s' : St, (∀ p j, p ≠ 83 → s' p j = s p j) → Q false s') (h1 : ∀ k', doS k z a = some k' → ∀ s' : St, (∀ p j, p ≠ 83 → s' p j = s p j) → RM s' 83 k' → Q true s') : vc_Mod_isDone x s Q := by
  subst hx
  obtain ⟨b1, b2, b3, b4, b5, b6⟩ := brk_t hb
  have g : ∀ i, i < digs (z a) → 0 ≤ z (a + 1 + i) - 48 ∧ z (a + 1 + i) - 48 ≤ 9 := fun i hi => dg (b3 i hi)
  have a1 := hk.1.1
  have a2 := hk.1.2.1
  have hza := hz100 a (by omega)
  have ee : ∀ n : Nat, n < 128 → ((I (z a) = I (n : Nat)) ↔ z a = (n : Nat)) := fun n hn => I_eq ⟨by omega, by omega⟩ ⟨by omega, by omega⟩
  obtain ⟨m98, m121, mp, m114, mct, m108⟩ := hn
  have c0 : Int32.toNatClampNeg 0 = 0 := rfl
  have c1 : Int32.toNatClampNeg 1 = 1 := rfl
  have c2 : Int32.toNatClampNeg 2 = 2 := rfl
  have c3 : Int32.toNatClampNeg 3 = 3 := rfl
  have c4 : Int32.toNatClampNeg 4 = 4 := rfl
  have c5 : Int32.toNatClampNeg 5 = 5 := rfl
  have vv : ∀ n : Nat, n < 78 → vp_in (I (n : Nat)) 78 := fun n hn => I_vinN hn (by decide)
  have v4 : ∀ n : Nat, n < 4 → vp_in (I (n : Nat)) 4 := fun n hn => I_vinN hn (by decide)
  have n11 := num1 z (a + 1)
  have n12 := num1 z (a + 2)
  have n13 := num1 z (a + 3)
  have n14 := num1 z (a + 4)
  have n15 := num1 z (a + 5)
  have g0 : 0 ≤ z (a + 1) - 48 ∧ z (a + 1) - 48 ≤ 9 := g 0 (by omega)
  have g1 : 1 < digs (z a) → 0 ≤ z (a + 2) - 48 ∧ z (a + 2) - 48 ≤ 9 := fun h => g 1 h
  have g2 : 2 < digs (z a) → 0 ≤ z (a + 3) - 48 ∧ z (a + 3) - 48 ≤ 9 := fun h => g 2 h
  have g3 : 3 < digs (z a) → 0 ≤ z (a + 4) - 48 ∧ z (a + 4) - 48 ≤ 9 := fun h => g 3 h
  have g4 : 4 < digs (z a) → 0 ≤ z (a + 5) - 48 ∧ z (a + 5) - 48 ≤ 9 := fun h => g 4 h
  have n2' : numF z (a + 1) 2 = 10 * (z (a + 1) - 48) + (z (a + 2) - 48) := num2 z (a + 1)
  have n23' : numF z (a + 3) 2 = 10 * (z (a + 3) - 48) + (z (a + 4) - 48) := num2 z (a + 3)
  have n3' : numF z (a + 1) 3 = 100 * (z (a + 1) - 48) + 10 * (z (a + 2) - 48) + (z (a + 3) - 48) := num3 z (a + 1)
  have frw : ∀ (j : Nat) (v : Int32) (p q : Nat), p ≠ 83 → wr s 83 j v p q = s p q := fun j v p q hp => wr_ne hp
  unfold vc_Mod_isDone
  rw [show (I (z a) = 98) ↔ z a = 98 from ee 98 (by decide), show (I (z a) = 99) ↔ z a = 99 from ee 99 (by decide), show (I (z a) = 108) ↔ z a = 108 from ee 108 (by decide), show (I (z a) = 112) ↔ z a = 112 from ee 112 (by decide), show (I (z a) = 114) ↔ z a = 114 from ee 114 (by decide), show (I (z a) = 120) ↔ z a = 120 from ee 120 (by decide), show (I (z a) = 121) ↔ z a = 121 from ee 121 (by decide)]
  rw [c0, c1]
  unfold doS at h0 h1
  refine ⟨v4 0 (by decide), ?_⟩
  intro x11 h11
  refine ⟨v4 1 (by decide), ?_⟩
  intro x13 h13
  refine ⟨z a = 116, fun q => ?_, fun q => ?_, fun q1 => ⟨fun q => ?_, fun q2 => ⟨fun q => ?_, fun q3 => ⟨fun q => ?_, fun q4 => ⟨fun q => ?_, fun q5 => ⟨fun q => ?_, fun q7 => ⟨fun q => ?_, fun q8 => ?_⟩⟩⟩⟩⟩⟩⟩
  · -- t
    have hd : digs (z a) = 2 := by rw [q]; rfl
    have k1 := g1 (by omega)
    rw [if_neg (by omega), if_neg (by omega), if_neg (by omega), if_neg (by omega), if_neg (by omega), if_pos q] at h0 h1
    rw [c2]
    rw [mct (Or.inr q)] at h11
    subst h11
    refine ⟨vv 2 (by decide), vv 2 (by decide), ?_⟩
    intro s17 h17
    rw [show s 83 2 = I (k 9 2) from hr.1 2 (by decide), show I (k 9 2) + I (numF z (a + 1) 2) = I (k 9 2 + numF z (a + 1) 2) from by simp (disch := (first | omega | (unfold inr; omega))) only [I_lit, I_nI, I_neg, I_add, I_sub, I_mul, I_div, I_le, I_lt, I_eq, I_clamp, I_clampN, I_vin]] at h17
    have e17 : s17 83 2 = I (k 9 2 + numF z (a + 1) 2) := by rw [h17]; exact wr_at
    rw [e17, show (9999 < I (k 9 2 + numF z (a + 1) 2)) ↔ ¬ k 9 2 + numF z (a + 1) 2 ≤ 9999 from by
      simp (disch := (first | omega | (unfold inr; omega))) only [I_lit, I_nI, I_neg, I_add, I_sub, I_mul, I_div, I_le, I_lt, I_eq, I_clamp, I_clampN, I_vin]
      omega]
    refine ⟨vv 2 (by decide), fun c => h0 (by rw [if_neg c]) s17 (fun p j hp => by rw [h17]; exact wr_ne hp), fun c => ?_⟩
    refine h1 _ (by rw [if_pos (Decidable.not_not.mp c)]) s17 (fun p j hp => by rw [h17]; exact wr_ne hp) ?_
    exact RM_sc hr (i := 2) (by decide) (Or.inl (by decide)) e17 (fun j hj => by rw [h17]; exact wr_off hj)
  · -- b
    have hd : digs (z a) = 5 := by rw [q]; rfl
    have k1 := g1 (by omega)
    have k2 := g2 (by omega)
    have k3 := g3 (by omega)
    have k4 := g4 (by omega)
    rw [if_pos q] at h0 h1
    obtain ⟨w0, w1, w2, w3⟩ := m98 q
    rw [w0] at h11
    subst h11
    rw [show vc_Mod_isIn (I (numF z (a + 1) 2)) 10 50 = vc_Mod_isIn (I (numF z (a + 1) 2)) (I 10) (I 50) from rfl]
    refine sp_isIn ⟨by omega, by omega⟩ ⟨by decide, by decide⟩ ⟨by decide, by decide⟩ ?_
    rw [bi_f]
    refine ⟨fun c => h0 (by rw [if_neg (fun w => (of_decide_eq_false c) w.1)]) s (fun _ _ _ => rfl), fun c => ?_⟩
    have c : 10 ≤ numF z (a + 1) 2 ∧ numF z (a + 1) 2 ≤ 50 := by simpa using c
    obtain ⟨n, en⟩ : ∃ n : Nat, (n : Int) = k 9 1 := ⟨(k 9 1).toNat, by omega⟩
    have m1 : s 83 1 = I (n : Nat) := by rw [en]; exact hr.1 1 (by decide)
    rw [m1, show (I (n : Int) = 6) ↔ n = 6 from by
      simp (disch := (first | omega | (unfold inr; omega))) only [I_lit, I_nI, I_neg, I_add, I_sub, I_mul, I_div, I_le, I_lt, I_eq, I_clamp, I_clampN, I_vin]
      omega]
    refine ⟨vv 1 (by decide), fun c6 => ?_, fun c6 => h0 (by rw [if_neg (fun w => by omega)]) s (fun _ _ _ => rfl)⟩
    have hn6 : n < 6 := by omega
    -- the four numbers
    refine ⟨fun N t s' => ∃ i : Nat, t = I (i : Nat) ∧ i ≤ 4 ∧ N = 4 - i ∧ (∀ p j, p ≠ 83 → s' p j = s p j) ∧ (∀ j, j < i → s' 83 (42 + 5 * n + j) = s 88 j) ∧ ∀ j, (j < 42 + 5 * n ∨ 42 + 5 * n + i ≤ j) → s' 83 j = s 83 j, ⟨_, 0, rfl, by omega, rfl, fun _ _ _ => rfl, fun j hj => absurd hj (Nat.not_lt_zero j), fun _ _ => rfl⟩, ?_⟩
    rintro N t s' ⟨i, rfl, hi, hN, f1, f2, f3⟩
    have e1 : s' 83 1 = I (n : Nat) := (f3 1 (by omega)).trans m1
    rw [e1]
    constructor
    · intro z4
      have z4 : i = 4 := by
        revert z4
        simp (disch := (first | omega | (unfold inr; omega))) only [I_lit, I_nI, I_neg, I_add, I_sub, I_mul, I_div, I_le, I_lt, I_eq, I_clamp, I_clampN, I_vin]
        omega
      subst z4
      refine ⟨vv 1 (by decide), at_body (b := n) (by omega) (w := 4) (by decide) rfl ?_⟩
      rw [I_clampN (by omega)]
      refine ⟨I_vinN (by omega) (by decide), ?_⟩
      intro s35 h35
      have e35 : s35 83 1 = I (n : Nat) := by rw [h35, wr_off (by omega)]; exact e1
      have e72 : (72 : Int32) + I (n : Int) = I ((72 + n : Nat) : Int) := by
        simp (disch := (first | omega | (unfold inr; omega))) only [I_lit, I_nI, I_neg, I_add, I_sub, I_mul, I_div, I_le, I_lt, I_eq, I_clamp, I_clampN, I_vin]
        congr 1
      rw [e35, e72, I_clampN (by omega)]
      refine ⟨vv 1 (by decide), vv 1 (by decide), I_vinN (by omega) (by decide), ?_⟩
      intro s39 h39
      have e39 : s39 83 1 = I (n : Nat) := by rw [h39, wr_off (by omega)]; exact e35
      rw [e39]
      refine ⟨vv 1 (by decide), vv 1 (by decide), ?_⟩
      intro s42 h42
      have o42 : ∀ j, j ≠ 1 → j ≠ 72 + n → (j < 42 + 5 * n ∨ 42 + 5 * n + 5 ≤ j) → s42 83 j = s 83 j := fun j p1 p2 p3 => by
        rw [h42, wr_off p1, h39, wr_off p2, h35, wr_off (by omega)]
        exact f3 j (by omega)
      have b42 : ∀ j, j < 4 → s42 83 (42 + 5 * n + j) = s 88 j := fun j hj => by
        rw [h42, wr_off (by omega), h39, wr_off (by omega), h35, wr_off (by omega)]
        exact f2 j hj
      have p42 : s42 83 (42 + 5 * n + 4) = I 0 := by
        rw [h42, wr_off (by omega), h39, wr_off (by omega), h35, wr_at]
        rfl
      have q42 : s42 83 (72 + n) = I (n : Nat) := by rw [h42, wr_off (by omega), h39, wr_at]
      have r42 : s42 83 1 = I (k 9 1 + 1) := by
        rw [h42, wr_at]
        simp (disch := (first | omega | (unfold inr; omega))) only [I_lit, I_nI, I_neg, I_add, I_sub, I_mul, I_div, I_le, I_lt, I_eq, I_clamp, I_clampN, I_vin]
        rw [en]
      have hif : (10 ≤ numF z (a + 1) 2 ∧ numF z (a + 1) 2 ≤ 50) ∧ k 9 1 < 6 := ⟨c, by omega⟩
      have n9 : ∀ i, i ≠ 1 → addB k (numF z (a + 1) 2) (numF z (a + 3) 1) (numF z (a + 4) 1) (numF z (a + 5) 1) 9 i = k 9 i := fun i hi => addB_ne (by omega) (Or.inr (by omega))
      refine h1 _ (by rw [if_pos hif]) s42 (fun p j hp => by rw [h42, wr_ne hp, h39, wr_ne hp, h35, wr_ne hp]; exact f1 p j hp) ⟨fun i hi => ?_, fun y hy w hw => ?_, fun b hb => ?_⟩
      · by_cases e : i = 1
        · subst e
          rw [addB_9]
          exact r42
        · rw [n9 i e, o42 i e (by omega) (by omega)]
          exact hr.1 i hi
      · rw [n9 0 (by decide)] at hy
        rw [o42 _ (by omega) (by omega) (by omega), addB_ne (by omega) (Or.inr (by omega))]
        exact hr.2.1 y hy w hw
      · rw [addB_9] at hb
        by_cases e : b = n
        · subst e
          refine ⟨fun w hw => ?_, ?_⟩
          · rcases (show w = 0 ∨ w = 1 ∨ w = 2 ∨ w = 3 ∨ w = 4 by omega) with rfl | rfl | rfl | rfl | rfl
            · rw [b42 0 (by decide), w0]; simp [addB, en]
            · rw [b42 1 (by decide), w1]; simp [addB, en]
            · rw [b42 2 (by decide), w2]; simp [addB, en]
            · rw [b42 3 (by decide), w3]; simp [addB, en]
            · rw [p42]; simp [addB, en]
          · rw [q42]; simp [addB, en]
        · have hbk : (b : Int) < k 9 1 := by omega
          refine ⟨fun w hw => ?_, ?_⟩
          · rw [o42 _ (by omega) (by omega) (by omega), addB_ne (by omega) (Or.inl (by omega))]
            exact (hr.2.2 b hbk).1 w hw
          · rw [o42 _ (by omega) (by omega) (by omega), addB_ne (by omega) (Or.inl (by omega))]
            exact (hr.2.2 b hbk).2
    · intro z4
      have z4 : i < 4 := by
        revert z4
        simp (disch := (first | omega | (unfold inr; omega))) only [I_lit, I_nI, I_neg, I_add, I_sub, I_mul, I_div, I_le, I_lt, I_eq, I_clamp, I_clampN, I_vin]
        omega
      refine ⟨vv 1 (by decide), at_body (b := n) (by omega) (w := i) (by omega) rfl ?_⟩
      rw [I_clampN (by omega), I_clampN (by omega)]
      refine ⟨v4 i z4, I_vinN (by omega) (by decide), ?_⟩
      intro s48 h48 x49 h49
      refine ⟨4 - (i + 1), by omega, i + 1, ?_, by omega, rfl, fun p j hp => by rw [h48, wr_ne hp]; exact f1 p j hp, fun j hj => ?_, fun j hj => ?_⟩
      · rw [h49]
        simp (disch := (first | omega | (unfold inr; omega))) only [I_lit, I_nI, I_neg, I_add, I_sub, I_mul, I_div, I_le, I_lt, I_eq, I_clamp, I_clampN, I_vin]
        congr 1
      · rw [h48]
        by_cases e : j = i
        · subst e
          rw [wr_at]
          exact f1 _ _ (by decide)
        · rw [wr_off (by omega)]
          exact f2 j (by omega)
      · rw [h48, wr_off (by omega)]
        exact f3 j (by omega)
  · -- c
    have hd : digs (z a) = 2 := by rw [q]; rfl
    have k1 := g1 (by omega)
    rw [if_neg q1, if_pos q] at h0 h1
    rw [mct (Or.inl q)] at h11
    subst h11
    rw [c4]
    refine ⟨vv 4 (by decide), ?_⟩
    intro s53 h53
    rw [show vc_Mod_isIn (I (numF z (a + 1) 2)) 1 60 = vc_Mod_isIn (I (numF z (a + 1) 2)) (I 1) (I 60) from rfl]
    refine sp_isIn ⟨by omega, by omega⟩ ⟨by decide, by decide⟩ ⟨by decide, by decide⟩ ?_
    have f53 : ∀ p j, p ≠ 83 → s53 p j = s p j := fun p j hp => by rw [h53]; exact wr_ne hp
    by_cases c : 1 ≤ numF z (a + 1) 2 ∧ numF z (a + 1) 2 ≤ 60
    · rw [decide_eq_true c]
      refine h1 _ (by rw [if_pos c]) s53 f53 ?_
      exact RM_sc hr (i := 4) (by decide) (Or.inl (by decide)) (by rw [h53]; exact wr_at) (fun j hj => by rw [h53]; exact wr_off hj)
    · rw [decide_eq_false c]
      exact h0 (by rw [if_neg c]) s53 f53
  · -- l
    rw [if_neg q1, if_neg q2, if_pos q] at h0 h1
    rw [m108 q] at h11
    subst h11
    rw [c5]
    refine ⟨vv 5 (by decide), ?_⟩
    intro s58 h58
    refine h1 _ rfl s58 (fun p j hp => by rw [h58]; exact wr_ne hp) ?_
    exact RM_sc hr (i := 5) (by decide) (Or.inl (by decide)) (by rw [h58]; exact wr_at) (fun j hj => by rw [h58]; exact wr_off hj)
  · -- p
    have hd : digs (z a) = 2 := by rw [q]; rfl
    have k1 := g1 (by omega)
    rw [if_neg q1, if_neg q2, if_neg q3, if_pos q] at h0 h1
    obtain ⟨w0, w1⟩ := mp (Or.inl q)
    rw [w0] at h11
    rw [w1] at h13
    subst h11 h13
    refine isBody_ok hk.1 hr ⟨by omega, by omega⟩ ?_
    rw [bi_f]
    refine ⟨fun c => h0 (by rw [if_neg (fun w => (of_decide_eq_false c) ⟨by omega, w.1⟩)]) s (fun _ _ _ => rfl), fun c => ?_⟩
    have c : 0 ≤ numF z (a + 1) 1 ∧ numF z (a + 1) 1 < k 9 1 := by simpa using c
    rw [show (I (numF z (a + 2) 1) ≤ 3) ↔ numF z (a + 2) 1 ≤ 3 from by simp (disch := (first | omega | (unfold inr; omega))) only [I_lit, I_nI, I_neg, I_add, I_sub, I_mul, I_div, I_le, I_lt, I_eq, I_clamp, I_clampN, I_vin]]
    refine ⟨fun c5 => ?_, fun c5 => h0 (by rw [if_neg (fun w => c5 w.2)]) s (fun _ _ _ => rfl)⟩
    obtain ⟨b, eb, hb1⟩ := nat_of c
    have hh1 := h1 _ (by rw [if_pos ⟨c.2, c5⟩])
    rw [eb, Int.toNat_natCast] at hh1
    rw [eb]
    refine at_body (b := b) (by omega) (w := 4) (by decide) rfl ?_
    rw [I_clampN (by omega)]
    refine ⟨I_vinN (by omega) (by decide), ?_⟩
    intro s67 h67
    refine hh1 s67 (fun p j hp => by rw [h67]; exact wr_ne hp) ?_
    exact RM_put hr ⟨by omega, by omega⟩ (by omega) (by decide) (by rw [h67]; exact wr_at) (fun j hj => by rw [h67]; exact wr_off hj)
  · -- r
    rw [if_neg q1, if_neg q2, if_neg q3, if_neg q4, if_pos q] at h0 h1
    rw [m114 q] at h11
    subst h11
    rw [c3]
    refine ⟨vv 3 (by decide), ?_⟩
    intro s70 h70
    refine h1 _ rfl s70 (fun p j hp => by rw [h70]; exact wr_ne hp) ?_
    exact RM_sc hr (i := 3) (by decide) (Or.inl (by decide)) (by rw [h70]; exact wr_at) (fun j hj => by rw [h70]; exact wr_off hj)
  · -- x
    have hd : digs (z a) = 2 := by rw [q]; rfl
    have k1 := g1 (by omega)
    rw [if_neg q1, if_neg q2, if_neg q3, if_neg q4, if_neg q5, if_neg (by omega), if_pos q] at h0 h1
    obtain ⟨w0, w1⟩ := mp (Or.inr q)
    rw [w0] at h11
    rw [w1] at h13
    subst h11 h13
    refine isBody_ok hk.1 hr ⟨by omega, by omega⟩ ?_
    rw [bi_f]
    refine ⟨fun c => h0 (by rw [if_neg (fun w => (of_decide_eq_false c) ⟨by omega, w.1⟩)]) s (fun _ _ _ => rfl), fun c => ?_⟩
    have c : 0 ≤ numF z (a + 1) 1 ∧ numF z (a + 1) 1 < k 9 1 := by simpa using c
    refine isBody_ok hk.1 hr ⟨by omega, by omega⟩ ?_
    rw [bi_f, show (I (numF z (a + 1) 1) = I (numF z (a + 2) 1)) ↔ numF z (a + 1) 1 = numF z (a + 2) 1 from by simp (disch := (first | omega | (unfold inr; omega))) only [I_lit, I_nI, I_neg, I_add, I_sub, I_mul, I_div, I_le, I_lt, I_eq, I_clamp, I_clampN, I_vin]]
    refine ⟨fun c5 => h0 (by rw [if_neg (fun w => (of_decide_eq_false c5) ⟨by omega, w.2.1⟩)]) s (fun _ _ _ => rfl), fun c5 => ?_⟩
    have c5 : 0 ≤ numF z (a + 2) 1 ∧ numF z (a + 2) 1 < k 9 1 := by simpa using c5
    refine ⟨fun c6 => ?_, fun c6 => h0 (by rw [if_neg (fun w => w.2.2 c6)]) s (fun _ _ _ => rfl)⟩
    have hh1 := h1 _ (by rw [if_pos ⟨c.2, c5.2, c6⟩])
    obtain ⟨u, eu, hu1⟩ := nat_of c
    obtain ⟨v, ev, hv1⟩ := nat_of c5
    rw [eu, ev, Int.toNat_natCast, Int.toNat_natCast] at hh1
    rw [eu, ev]
    exact m_changes hk hr hu1 hv1 (by omega) hh1
  · -- y
    have hd : digs (z a) = 4 := by rw [q]; rfl
    have k1 := g1 (by omega)
    have k2 := g2 (by omega)
    have k3 := g3 (by omega)
    rw [if_neg q1, if_neg q2, if_neg q3, if_neg q4, if_neg q5, if_neg (by omega), if_neg q7] at h0 h1
    obtain ⟨w0, w1, w2⟩ := m121 q
    rw [w0] at h11
    rw [w1] at h13
    subst h11 h13
    rw [c2, w2, show (8 ≤ I (numF z (a + 1) 1)) ↔ 8 ≤ numF z (a + 1) 1 from by simp (disch := (first | omega | (unfold inr; omega))) only [I_lit, I_nI, I_neg, I_add, I_sub, I_mul, I_div, I_le, I_lt, I_eq, I_clamp, I_clampN, I_vin]]
    refine ⟨fun c => h0 (by rw [if_neg (fun w => by omega)]) s (fun _ _ _ => rfl), fun c => ⟨v4 2 (by decide), ?_⟩⟩
    rw [show vc_Mod_isIn (I (numF z (a + 3) 2)) 6 40 = vc_Mod_isIn (I (numF z (a + 3) 2)) (I 6) (I 40) from rfl]
    refine sp_isIn ⟨by omega, by omega⟩ ⟨by decide, by decide⟩ ⟨by decide, by decide⟩ ?_
    rw [bi_f]
    refine ⟨fun c5 => h0 (by rw [if_neg (fun w => (of_decide_eq_false c5) w.2.1)]) s (fun _ _ _ => rfl), fun c5 => ⟨vv 0 (by decide), ?_⟩⟩
    have c5 : 6 ≤ numF z (a + 3) 2 ∧ numF z (a + 3) 2 ≤ 40 := by simpa using c5
    rw [show s 83 0 = I (k 9 0) from hr.1 0 (by decide), show (I (k 9 0) = 12) ↔ k 9 0 = 12 from by simp (disch := (first | omega | (unfold inr; omega))) only [I_lit, I_nI, I_neg, I_add, I_sub, I_mul, I_div, I_le, I_lt, I_eq, I_clamp, I_clampN, I_vin]]
    refine ⟨fun c6 => ⟨v4 2 (by decide), ?_⟩, fun c6 => h0 (by rw [if_neg (fun w => by omega)]) s (fun _ _ _ => rfl)⟩
    have hif : numF z (a + 1) 1 ≤ 7 ∧ (6 ≤ numF z (a + 3) 2 ∧ numF z (a + 3) 2 ≤ 40) ∧ k 9 0 < 12 := ⟨by omega, c5, by omega⟩
    exact m_addsYard hk hr (by omega) rfl rfl rfl (h1 _ (by rw [if_pos hif]))
  · rcases digs_of (z a) with e | e | e | e | e | e | e | e | e
    · exact absurd e b2
    · exact absurd e q1
    · exact absurd e q2
    · exact absurd e q3
    · exact absurd e q4
    · exact absurd e q5
    · exact e
    · exact absurd e q7
    · exact absurd e q8
