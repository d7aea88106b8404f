-- stays
theorem getD_l {l t : List Nat} {j : Nat} (h : j < l.length) : (l ++ t).getD j 0 = l.getD j 0 := by
  rw [List.getD_eq_getElem?_getD, List.getElem?_append_left h, ← List.getD_eq_getElem?_getD]
theorem getD_r {l : List Nat} {x : Nat} : (l ++ [x]).getD l.length 0 = x := by
  rw [List.getD_eq_getElem?_getD, List.getElem?_append_right (Nat.le_refl _), Nat.sub_self]
  rfl
theorem lineL_s (k : Kv) (a : Int32) (n : Nat) : lineL k a (n + 1) = lineL k a n ++ (if awb a (ordK k n) then [] else [ordK k n]) := rfl
theorem lineL_of (k : Kv) (a : Int32) : ∀ n j, j < (lineL k a n).length → ∃ t, t < n ∧ (lineL k a n).getD j 0 = ordK k t := by
  intro n
  induction n with
  | zero => intro j hj; exact absurd hj (Nat.not_lt_zero j)
  | succ n ih =>
    intro j hj
    rw [lineL_s] at hj ⊢
    by_cases z : awb a (ordK k n) = true
    · rw [if_pos z, List.append_nil] at hj ⊢
      obtain ⟨t, h1, h2⟩ := ih j hj
      exact ⟨t, by omega, h2⟩
    · rw [if_neg z] at hj ⊢
      rw [List.length_append] at hj
      have hj : j < (lineL k a n).length + 1 := hj
      by_cases e : j < (lineL k a n).length
      · obtain ⟨t, h1, h2⟩ := ih j e
        exact ⟨t, by omega, by rw [getD_l e]; exact h2⟩
      · have ej : j = (lineL k a n).length := by omega
        exact ⟨n, by omega, by rw [ej, getD_r]⟩
theorem lineL_inj {k : Kv} (hi : ∀ i j, i < nB k → j < nB k → ordK k i = ordK k j → i = j) (a : Int32) : ∀ n, n ≤ nB k → ∀ i j, i < (lineL k a n).length → j < (lineL k a n).length → (lineL k a n).getD i 0 = (lineL k a n).getD j 0 → i = j := by
  intro n
  induction n with
  | zero => intro _ i j h; exact absurd h (Nat.not_lt_zero i)
  | succ n ih =>
    intro hn i j h1 h2 e
    rw [lineL_s] at h1 h2 e
    by_cases z : awb a (ordK k n) = true
    · rw [if_pos z, List.append_nil] at h1 h2 e
      exact ih (by omega) i j h1 h2 e
    · rw [if_neg z] at h1 h2 e
      rw [List.length_append] at h1 h2
      have h1 : i < (lineL k a n).length + 1 := h1
      have h2 : j < (lineL k a n).length + 1 := h2
      by_cases e1 : i < (lineL k a n).length
      · by_cases e2 : j < (lineL k a n).length
        · rw [getD_l e1, getD_l e2] at e
          exact ih (by omega) i j e1 e2 e
        · have ej : j = (lineL k a n).length := by omega
          subst ej
          obtain ⟨t, t1, t2⟩ := lineL_of k a n i e1
          rw [getD_l e1, getD_r, t2] at e
          have := hi t n (by omega) (by omega) e
          omega
      · have ei : i = (lineL k a n).length := by omega
        by_cases e2 : j < (lineL k a n).length
        · subst ei
          obtain ⟨t, t1, t2⟩ := lineL_of k a n j e2
          rw [getD_l e2, getD_r, t2] at e
          have := hi n t (by omega) (by omega) e
          omega
        · omega
theorem LI_lnf {k : Kv} (hk : CC k) (a : Int32) : LI (lnf k a) (lnn k a) := by
  have h := LI_ord hk
  have a1 := hk.1.1
  refine ⟨lnn_le hk.1 a, fun i hi => ?_, fun i j hi hj e => ?_⟩
  · have := lnf_in hk.1 hk.2.2.1 a i hi
    omega
  · exact lineL_inj h.2.2 a _ (Nat.le_refl _) i j hi hj e
/-- without those of the set a all are back -/
def okS (k : Kv) (a : Int32) : Bool := okZ (thereZ k (lnf k a) (lnn k a) (k 9 2) zt) (homeZ k (lnf k a) (lnn k a) (thereZ k (lnf k a) (lnn k a) (k 9 2) zt) zt)
theorem and1 (x : Int32) : x &&& 1 = 0 ∨ x &&& 1 = 1 := by
  obtain ⟨z, h1, h2, h3⟩ := and_in x 1 1 (by decide) (by decide)
  rw [h3]
  rcases (show z = 0 ∨ z = 1 by omega) with rfl | rfl
  · exact Or.inl rfl
  · exact Or.inr rfl
theorem awb_0 {a : Int32} {b : Nat} : ((a >>> (I (b : Nat) &&& 31)) &&& 1 = 0) ↔ awb a b = false := by
  unfold awb
  rcases and1 (a >>> (I (b : Nat) &&& 31)) with h | h
  · rw [h]; exact ⟨fun _ => rfl, fun _ => rfl⟩
  · rw [h]; exact ⟨fun q => absurd q (by decide), fun q => absurd q (by decide)⟩
theorem awb_1 {a : Int32} {b : Nat} : ((a >>> (I (b : Nat) &&& 31)) &&& 1 = 1) ↔ awb a b = true := by
  unfold awb
  rw [decide_eq_true_iff]
theorem c_others {s : St} {k : Kv} (hk : CV k) (ho : CO k) (hr : RC s 1 k) {a : Int32} {Q : Bool → St → Prop} (hQ : ∀ s', KC s s' → Q (okS k a) s') : vc_Brt_othersAreBack a s Q := by
  have a1 := hk.1
  have a2 := hk.2.1
  have hn := nB_le hk
  have en : ((nB k : Nat) : Int) = k 9 1 := by unfold nB; omega
  unfold vc_Brt_othersAreBack
  refine ⟨fun N x t s' => ∃ i : Nat, t = I (i : Nat) ∧ i ≤ nB k ∧ N = nB k - i ∧ x = I ((lineL k a i).length : Nat) ∧ (∀ p j, p ≠ 64 → s' p j = s p j) ∧ ∀ j, j < (lineL k a i).length → s' 64 j = I ((lineL k a i).getD j 0 : Nat), ⟨_, 0, rfl, by omega, rfl, rfl, fun _ _ _ => rfl, fun j hj => absurd hj (Nat.not_lt_zero j)⟩, ?_⟩
  rintro N x t s' ⟨i, rfl, hi, hN, rfl, f1, f2⟩
  have hr' : RC s' 1 k := RC_ext (fun q j hq => f1 _ _ (by omega)) hr
  have hlen := lineL_len k a i
  rw [show s' 11 0 = I (nB k : Nat) from by rw [show s' 11 0 = I (k 9 1) from hr'.1.2.1, en], show s' 1 5 = I (k 9 2) from hr'.1.2.2.1]
  constructor
  · intro z
    have z : i = nB k := by
      revert z
      simp (disch := (first | omega | (unfold inr; omega))) only [I_lit, I_nI, I_neg, I_add, I_sub, I_mul, I_div, I_le, I_lt, I_eq, I_clamp, I_clampN, I_vin]
      omega
    subst z
    refine c_tabL hk hr' (by decide) (by omega) (lnn_le hk a) (lnn_le hk a) (by decide) (l := lnf k a) (fun j hj => ⟨f2 j hj, lnf_in hk ho a j hj⟩) ⟨by omega, by omega⟩ ?_
    intro s2 hkl _ _
    refine hQ s2 (KC.tr (fun p j hp => f1 p j (by omega)) hkl.kc)
  · intro z
    have z : i < nB k := by
      revert z
      simp (disch := (first | omega | (unfold inr; omega))) only [I_lit, I_nI, I_neg, I_add, I_sub, I_mul, I_div, I_le, I_lt, I_eq, I_clamp, I_clampN, I_vin]
      omega
    have ho2 := ho i (by omega)
    have e17 : s' 17 i = I (ordK k i : Nat) := by
      rw [show s' 17 i = I (k 8 i) from (hr'.2.2 i (by omega)).2.2.2.2.2]
      unfold ordK
      congr 1
      omega
    have ho3 : ordK k i < 6 := by unfold ordK; omega
    rw [I_clampN (by omega), e17]
    refine ⟨I_vinN (by omega) (by decide), ?_⟩
    intro x19 h19
    subst h19
    have nx : ∀ s2 : St, (∀ p j, p ≠ 64 → s2 p j = s p j) → (∀ j, j < (lineL k a (i + 1)).length → s2 64 j = I ((lineL k a (i + 1)).getD j 0 : Nat)) → ∀ x23 : Int32, x23 = I (i : Int) + 1 → ∃ m24, m24 < N ∧ ∃ i' : Nat, x23 = I (i' : Nat) ∧ i' ≤ nB k ∧ m24 = nB k - i' ∧ I ((lineL k a (i + 1)).length : Nat) = I ((lineL k a i').length : Nat) ∧ (∀ p j, p ≠ 64 → s2 p j = s p j) ∧ ∀ j, j < (lineL k a i').length → s2 64 j = I ((lineL k a i').getD j 0 : Nat) := by
      intro s2 g1 g2 x23 h23
      refine ⟨nB k - (i + 1), by omega, i + 1, ?_, by omega, rfl, rfl, g1, g2⟩
      rw [h23]
      simp (disch := (first | omega | (unfold inr; omega))) only [I_lit, I_nI, I_neg, I_add, I_sub, I_mul, I_div, I_le, I_lt, I_eq, I_clamp, I_clampN, I_vin]
      congr 1
    rw [awb_0]
    refine ⟨fun x s2 => x = I ((lineL k a (i + 1)).length : Nat) ∧ (∀ p j, p ≠ 64 → s2 p j = s p j) ∧ (∀ j, j < (lineL k a (i + 1)).length → s2 64 j = I ((lineL k a (i + 1)).getD j 0 : Nat)), ?_, fun c => ?_, fun c => ⟨I_vinN (by omega) (by decide), ?_⟩⟩
    · rintro x s2 ⟨rfl, g1, g2⟩
      exact nx s2 g1 g2
    · have c : awb a (ordK k i) = true := by simpa using c
      rw [lineL_s, if_pos c, List.append_nil]
      exact ⟨rfl, f1, f2⟩
    · intro s27 h27 x28 h28
      have c2 : ¬ awb a (ordK k i) = true := by rw [c]; decide
      rw [lineL_s, if_neg c2, List.length_append]
      rw [I_clampN (by omega)] at h27
      refine ⟨?_, fun p j hp => by rw [h27, wr_ne hp]; exact f1 p j hp, fun j hj => ?_⟩
      · rw [h28]
        show I _ + 1 = I (((lineL k a i).length + 1 : Nat) : Int)
        simp (disch := (first | omega | (unfold inr; omega))) only [I_lit, I_nI, I_neg, I_add, I_sub, I_mul, I_div, I_le, I_lt, I_eq, I_clamp, I_clampN, I_vin]
        congr 1
      · have hj : j < (lineL k a i).length + 1 := hj
        rw [h27]
        by_cases e : j < (lineL k a i).length
        · rw [wr_off (by omega), getD_l e]
          exact f2 j e
        · have ej : j = (lineL k a i).length := by omega
          subst ej
          rw [wr_at, getD_r]
theorem m_others {s : St} {k : Kv} (hk : CC k) (hr : RM s 83 k) {Q : Bool → St → Prop} (hQ : ∀ s', KG s s' → Q (okS k (s 82 7)) s') : vc_Mod_areAllBack s Q := by
  have hv := hk.1
  have ho := hk.2.2.1
  have a5 := hv.2.1
  have hl := LI_lnf hk (s 82 7)
  have hs : s = MS s (s 82) (s 86) (s 87) := (MS_self s).symm
  unfold vc_Mod_areAllBack
  rw [hs]
  refine sp_gtab hv ho hr ?_
  intro v' ln' hT
  have hg := thereZ_ge (k := k) (l := lnf k (s 82 7)) (l' := lnf k (s 82 7)) (n := lnn k (s 82 7)) (fun _ _ => rfl) (k 9 2) (s 86) zt
  have hh := homeZ_ge (k := k) (l := lnf k (s 82 7)) (l' := lnf k (s 82 7)) (n := lnn k (s 82 7)) (fun _ _ => rfl) hg zt zt
  have hall := ok_all (k := k) (l := lnf k (s 82 7)) (n := lnn k (s 82 7)) (k 9 2) zt zt
  have hpop := pop_home (k := k) hl (thereZ k (lnf k (s 82 7)) (lnn k (s 82 7)) (k 9 2) zt) zt
  have hti := goZ_in hv hl.1 (oat_in (lnf_in hv ho (s 82 7)) false) false (c := k 9 2) ⟨by omega, by omega⟩ zt
  have hti2 := hti.2.2.2.1
  have hin : 0 ≤ (homeZ k (lnf k (s 82 7)) (lnn k (s 82 7)) (thereZ k (lnf k (s 82 7)) (lnn k (s 82 7)) (k 9 2) zt) zt).2.1 ∧ (homeZ k (lnf k (s 82 7)) (lnn k (s 82 7)) (thereZ k (lnf k (s 82 7)) (lnn k (s 82 7)) (k 9 2) zt) zt).2.1 ≤ (lnn k (s 82 7) : Nat) := by
    have et : goZ k (oat (lnf k (s 82 7)) (lnn k (s 82 7)) false) (lnn k (s 82 7)) false (k 9 2) zt = thereZ k (lnf k (s 82 7)) (lnn k (s 82 7)) (k 9 2) zt := rfl
    rw [et] at hti2
    unfold homeZ
    split
    · have h := goZ_in hv hl.1 (oat_in (lnf_in hv ho (s 82 7)) true) true (c := (thereZ k (lnf k (s 82 7)) (lnn k (s 82 7)) (k 9 2) zt).2.2.2.2.1) ⟨by omega, by omega⟩ zt
      exact h.2.2.1
    · exact ⟨Int.le_refl 0, Int.natCast_nonneg _⟩
  have hl6 := hl.1
  obtain ⟨t0, t8, t9, t10, t13, t14, t18, t11, t12, t15⟩ := hT
  rw [hh.1] at t11
  refine sp_bits ?_
  rw [MS_82, MS_82, t11, t18, hpop, I_eq ⟨by omega, by omega⟩ ⟨by omega, by omega⟩]
  have hq := hQ (MS s v' (thereZ k (lnf k (s 82 7)) (lnn k (s 82 7)) (k 9 2) (s 86)).2.2.2.2.2.2 ln') ⟨fun p j h1 h2 h3 => MS_ne ⟨h1, h2, h3⟩, t0⟩
  have eok : okS k (s 82 7) = decide ((homeZ k (lnf k (s 82 7)) (lnn k (s 82 7)) (thereZ k (lnf k (s 82 7)) (lnn k (s 82 7)) (k 9 2) zt) zt).2.1 = (lnn k (s 82 7) : Nat)) := hall
  rw [eok] at hq
  refine ⟨fun c => ?_, fun c => ?_⟩
  · rw [decide_eq_false c] at hq; exact hq
  · rw [decide_eq_true c] at hq; exact hq
def pcN (m : Nat) : Nat := m % 2 + m / 2 % 2 + m / 4 % 2 + m / 8 % 2 + m / 16 % 2 + m / 32 % 2
def bcI (x : Int32) : Int32 :=
  let a := x - (((Int32.toUInt32 x >>> (Int32.toUInt32 1 &&& Int32.toUInt32 31)).toInt32) &&& 1431655765)
  let b := (a &&& 858993459) + (((Int32.toUInt32 a >>> (Int32.toUInt32 2 &&& Int32.toUInt32 31)).toInt32) &&& 858993459)
  let c := (b + ((Int32.toUInt32 b >>> (Int32.toUInt32 4 &&& Int32.toUInt32 31)).toInt32)) &&& 252645135
  let d := c + ((Int32.toUInt32 c >>> (Int32.toUInt32 8 &&& Int32.toUInt32 31)).toInt32)
  let e := d + ((Int32.toUInt32 d >>> (Int32.toUInt32 16 &&& Int32.toUInt32 31)).toInt32)
  e &&& 63
theorem sp_bc {x : Int32} {Q : Int32 → Prop} (h : Q (bcI x)) : vc_Int_bitCount x Q := by
  unfold vc_Int_bitCount
  intro x10 h10 x11 h11 x12 h12 x13 h13 x14 h14
  subst h10 h11 h12 h13 h14
  exact h
theorem pc_ok : ∀ m, m < 64 → (bcI (I (m : Nat)) = I (pcN m : Nat) ∧ popF (I (m : Nat)) 6 = I (pcN m : Nat) ∧ pcN m ≤ 6) := by decide +kernel
theorem shl_1 : ∀ n, n < 7 → ((1 : Int32) <<< (I (n : Nat) &&& 31) = I (2 ^ n : Nat) ∧ 2 ^ n ≤ 64) := by decide +kernel
/-- of so many sets: the found one, its size (7: none) -/
def stF (k : Kv) : Nat → Int × Nat
  | 0 => (-4, 7)
  | i + 1 => if pcN i < (stF k i).2 ∧ okS k (I (i : Nat)) = true then ((i : Int), pcN i) else stF k i
theorem stF_s (k : Kv) (i : Nat) : stF k (i + 1) = if pcN i < (stF k i).2 ∧ okS k (I (i : Nat)) = true then ((i : Int), pcN i) else stF k i := rfl
theorem stF_in (k : Kv) : ∀ i, stF k i = (-4, 7) ∨ ∃ e : Nat, e < i ∧ stF k i = ((e : Int), pcN e) := by
  intro i
  induction i with
  | zero => exact Or.inl rfl
  | succ i ih =>
    rw [stF_s]
    split
    · exact Or.inr ⟨i, by omega, rfl⟩
    · rcases ih with h | ⟨e, h1, h2⟩
      · exact Or.inl h
      · exact Or.inr ⟨e, by omega, h2⟩
theorem e_stays {s : St} {A : Ab} (hR : RR s A) : vc_Brt_stays s (fun r s1 => vc_Mod_stays s1 (fun r' s2 => r = r' ∧ RR s2 A)) := by
  have hC := hR.2.2.1
  have hk := hC.1
  have ho := hC.2.2.1
  have a := hk.1
  have hn := nB_le hk
  have en : ((nB A.1 : Nat) : Int) = A.1 9 1 := by unfold nB; omega
  obtain ⟨es, e64⟩ := shl_1 (nB A.1) (by omega)
  have vi : vp_in (1 : Int32) 78 := v_in (a := 1) ⟨by decide, by decide⟩ (by decide) rfl
  have mod : ∀ s1 : St, RR s1 A → vc_Mod_stays s1 (fun r' s2 => I (stF A.1 (2 ^ nB A.1)).1 = r' ∧ RR s2 A) := by
    intro s1 hR1
    unfold vc_Mod_stays
    refine ⟨fun N x t s' => ∃ i : Nat, t = I (i : Nat) ∧ i ≤ 2 ^ nB A.1 ∧ N = 2 ^ nB A.1 - i ∧ x = I (stF A.1 i).1 ∧ RR s' A, ⟨_, 0, rfl, Nat.zero_le _, rfl, rfl, hR1⟩, ?_⟩
    rintro N x t s' ⟨i, rfl, hi, hN, rfl, hR2⟩
    rw [show s' 83 (Int32.toNatClampNeg 1) = I (nB A.1 : Nat) from (hR2.2.1.1.1 1 (by decide)).trans (by rw [en]), es]
    refine ⟨vi, fun z => ?_, fun z => ?_⟩
    · have z : i = 2 ^ nB A.1 := by
        revert z
        simp (disch := (first | omega | (unfold inr; omega))) only [I_lit, I_nI, I_neg, I_add, I_sub, I_mul, I_div, I_le, I_lt, I_eq, I_clamp, I_clampN, I_vin]
        omega
      intro s17 h17
      exact ⟨by rw [z], RR_KM (by rw [h17]; exact KM_w82 (by decide)) hR2⟩
    · have z : i < 2 ^ nB A.1 := by
        revert z
        simp (disch := (first | omega | (unfold inr; omega))) only [I_lit, I_nI, I_neg, I_add, I_sub, I_mul, I_div, I_le, I_lt, I_eq, I_clamp, I_clampN, I_vin]
        omega
      obtain ⟨p1, p2, p3⟩ := pc_ok i (by omega)
      refine ⟨fun v s2 => v = I (stF A.1 (i + 1)).1 ∧ RR s2 A, ?_, pcN i < (stF A.1 i).2, fun hlt => ?_, fun c => ?_, fun c => ?_⟩
      · rintro v s2 ⟨rfl, hR3⟩ x21 h21
        refine ⟨2 ^ nB A.1 - (i + 1), by omega, i + 1, ?_, by omega, rfl, rfl, hR3⟩
        rw [h21]
        simp (disch := (first | omega | (unfold inr; omega))) only [I_lit, I_nI, I_neg, I_add, I_sub, I_mul, I_div, I_le, I_lt, I_eq, I_clamp, I_clampN, I_vin]
        congr 1
      · intro s24 h24
        have hR24 : RR s24 A := RR_KM (by rw [h24]; exact KM_w82 (by decide)) hR2
        refine m_others hC hR24.2.1.1 ?_
        intro s26 hkg
        have hR26 := RR_KM hkg.km hR24
        rw [show s24 82 7 = I (i : Nat) from by rw [h24]; exact wr_at, bi_f]
        refine ⟨fun c => ⟨?_, hR26⟩, fun c => ⟨?_, hR26⟩⟩
        · rw [stF_s, if_neg (fun q => by rw [q.2] at c; cases c)]
        · rw [stF_s, if_pos ⟨hlt, by simpa using c⟩]
      · rcases stF_in A.1 i with h | ⟨e, h1, h2⟩
        · rw [h]
          show pcN i < 7
          omega
        · exfalso
          rw [h2] at c
          revert c
          simp (disch := (first | omega | (unfold inr; omega))) only [I_lit, I_nI, I_neg, I_add, I_sub, I_mul, I_div, I_le, I_lt, I_eq, I_clamp, I_clampN, I_vin]
          omega
      · rcases stF_in A.1 i with h | ⟨e, h1, h2⟩
        · exfalso
          rw [h] at c
          exact c (by decide)
        · obtain ⟨q1, q2, q3⟩ := pc_ok e (by omega)
          refine sp_bits ?_
          refine sp_bits ?_
          have e1 : popF (I (stF A.1 i).1) 6 = I (pcN e : Nat) := by rw [h2]; exact q2
          rw [p2, e1, show (I (pcN i : Nat) < I (pcN e : Nat)) ↔ pcN i < pcN e from by
            simp (disch := (first | omega | (unfold inr; omega))) only [I_lit, I_nI, I_neg, I_add, I_sub, I_mul, I_div, I_le, I_lt, I_eq, I_clamp, I_clampN, I_vin]
            omega]
          have e2 : (stF A.1 i).2 = pcN e := by rw [h2]
          rw [e2]
          refine ⟨fun c2 => c2, fun c2 => ⟨?_, hR2⟩⟩
          rw [stF_s, if_neg (fun q => c2 (by rw [← e2]; exact q.1))]
  unfold vc_Brt_stays
  intro x10 h10
  rw [show s 11 0 = I (nB A.1 : Nat) from by rw [show s 11 0 = I (A.1 9 1) from hR.1.1.1.2.1, en], es] at h10
  subst h10
  refine ⟨fun N x y t s' => ∃ i : Nat, t = I (i : Nat) ∧ i ≤ 2 ^ nB A.1 ∧ N = 2 ^ nB A.1 - i ∧ x = I (stF A.1 i).1 ∧ y = I ((stF A.1 i).2 : Nat) ∧ KC s s', ⟨_, 0, rfl, Nat.zero_le _, rfl, rfl, rfl, KC.rf⟩, ?_⟩
  rintro N x y t s' ⟨i, rfl, hi, hN, rfl, rfl, hkc⟩
  have hR2 := RR_KC hkc hR
  constructor
  · intro z
    have z : i = 2 ^ nB A.1 := by
      revert z
      simp (disch := (first | omega | (unfold inr; omega))) only [I_lit, I_nI, I_neg, I_add, I_sub, I_mul, I_div, I_le, I_lt, I_eq, I_clamp, I_clampN, I_vin]
      omega
    rw [z]
    exact mod s' hR2
  · intro z
    have z : i < 2 ^ nB A.1 := by
      revert z
      simp (disch := (first | omega | (unfold inr; omega))) only [I_lit, I_nI, I_neg, I_add, I_sub, I_mul, I_div, I_le, I_lt, I_eq, I_clamp, I_clampN, I_vin]
      omega
    obtain ⟨p1, p2, p3⟩ := pc_ok i (by omega)
    have h7 : (stF A.1 i).2 ≤ 7 := by
      rcases stF_in A.1 i with h | ⟨e, h1, h2⟩
      · rw [h]; exact Nat.le_refl 7
      · have := (pc_ok e (by omega)).2.2
        rw [h2]
        show pcN e ≤ 7
        omega
    refine sp_bc ?_
    rw [p1, show (I ((stF A.1 i).2 : Nat) ≤ I (pcN i : Nat)) ↔ ¬ pcN i < (stF A.1 i).2 from by
      simp (disch := (first | omega | (unfold inr; omega))) only [I_lit, I_nI, I_neg, I_add, I_sub, I_mul, I_div, I_le, I_lt, I_eq, I_clamp, I_clampN, I_vin]
      omega]
    refine ⟨fun u v s2 => u = I (stF A.1 (i + 1)).1 ∧ v = I ((stF A.1 (i + 1)).2 : Nat) ∧ KC s s2, ?_, fun c => ⟨?_, ?_, hkc⟩, fun c => c_others hk ho hR2.1.1 ?_⟩
    · rintro u v s2 ⟨rfl, rfl, hkc2⟩ x24 h24
      refine ⟨2 ^ nB A.1 - (i + 1), by omega, i + 1, ?_, by omega, rfl, rfl, rfl, hkc2⟩
      rw [h24]
      simp (disch := (first | omega | (unfold inr; omega))) only [I_lit, I_nI, I_neg, I_add, I_sub, I_mul, I_div, I_le, I_lt, I_eq, I_clamp, I_clampN, I_vin]
      congr 1
    · rw [stF_s, if_neg (fun q => c q.1)]
    · rw [stF_s, if_neg (fun q => c q.1)]
    · intro s2 hkc2
      have c : pcN i < (stF A.1 i).2 := Decidable.not_not.mp c
      rw [bi_f]
      refine ⟨fun c2 => ⟨?_, ?_, hkc.tr hkc2⟩, fun c2 => ⟨?_, ?_, hkc.tr hkc2⟩⟩
      · rw [stF_s, if_neg (fun q => by rw [q.2] at c2; cases c2)]
      · rw [stF_s, if_neg (fun q => by rw [q.2] at c2; cases c2)]
      · rw [stF_s, if_pos ⟨c, by simpa using c2⟩]
      · rw [stF_s, if_pos ⟨c, by simpa using c2⟩]
