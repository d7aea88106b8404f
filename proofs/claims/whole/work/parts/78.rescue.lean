def stF2 (k : Kv) (b : Nat) : Nat → Int
  | 0 => 0
  | i + 1 => if i = b then stF2 k b i else max (stF2 k b i) (k 6 i)
def wkF (k : Kv) (b : Nat) : Nat → Int
  | 0 => 9
  | i + 1 => if i = b then wkF k b i else min (wkF k b i) (k 6 i)
theorem stF2_s (k : Kv) (b i : Nat) : stF2 k b (i + 1) = if i = b then stF2 k b i else max (stF2 k b i) (k 6 i) := rfl
theorem wkF_s (k : Kv) (b i : Nat) : wkF k b (i + 1) = if i = b then wkF k b i else min (wkF k b i) (k 6 i) := rfl
theorem swk_in {k : Kv} (hk : CV k) (b : Nat) : ∀ i : Nat, (i : Int) ≤ k 9 1 → (0 ≤ stF2 k b i ∧ stF2 k b i ≤ 9) ∧ (0 ≤ wkF k b i ∧ wkF k b i ≤ 9) := by
  intro i
  induction i with
  | zero => intro _; exact ⟨⟨(by decide : (0 : Int) ≤ 0), (by decide : (0 : Int) ≤ 9)⟩, ⟨(by decide : (0 : Int) ≤ 9), (by decide : (9 : Int) ≤ 9)⟩⟩
  | succ i ih =>
    intro h
    obtain ⟨-, -, -, -, -, -, h7, h8, -⟩ := hk.2.2.2 i (by omega)
    have := ih (by omega)
    rw [stF2_s, wkF_s]
    split <;> omega
def wkZ (k : Kv) (b : Nat) : Int := if nB k ≤ 1 then 0 else wkF k b (nB k)
theorem sp_strong {s : St} {c : Nat} {k : Kv} (hk : CV k) (hr : RC s c k) {b : Nat} (hb : b < 6) {Q : Int32 → Prop} (hQ : Q (I (stF2 k b (nB k)))) : vc_Bod_strongestPullBut (c + 10) (I (b : Nat)) s Q := by
  have a := hk.1
  have hn := nB_le hk
  have en : ((nB k : Nat) : Int) = k 9 1 := by unfold nB; omega
  unfold vc_Bod_strongestPullBut
  refine ⟨fun N x t => ∃ i : Nat, t = I (i : Nat) ∧ i ≤ nB k ∧ N = nB k - i ∧ x = I (stF2 k b i), ⟨_, 0, rfl, by omega, rfl, rfl⟩, ?_⟩
  rintro N x t ⟨i, rfl, hi, hN, rfl⟩
  have hs := (swk_in hk b i (by omega)).1
  rw [show s (c + 10) 0 = I (nB k : Nat) from by rw [en]; exact hr.1.2.1]
  constructor
  · intro z
    have z : i = nB k := by
      revert z
      simp (disch := (first | omega | (unfold inr; omega))) only [I_lit, I_nI, I_neg, I_add, I_sub, I_mul, I_div, I_le, I_lt, I_eq, I_clamp, I_clampN, I_vin]
      omega
    subst z
    exact hQ
  · intro z
    have z : i < nB k := by
      revert z
      simp (disch := (first | omega | (unfold inr; omega))) only [I_lit, I_nI, I_neg, I_add, I_sub, I_mul, I_div, I_le, I_lt, I_eq, I_clamp, I_clampN, I_vin]
      omega
    obtain ⟨-, -, -, -, -, -, h7, h8, -⟩ := hk.2.2.2 i (by omega)
    have e14 : s (c + 10 + 4) i = I (k 6 i) := (hr.2.2 i (by omega)).2.2.2.1
    rw [I_clampN (by omega), e14, show (I (i : Int) = I (b : Nat)) ↔ i = b from by
      simp (disch := (first | omega | (unfold inr; omega))) only [I_lit, I_nI, I_neg, I_add, I_sub, I_mul, I_div, I_le, I_lt, I_eq, I_clamp, I_clampN, I_vin]
      omega]
    refine ⟨fun v => v = I (stF2 k b (i + 1)), ?_, fun c2 => ?_, fun c2 => ⟨I_vinN (by omega) (by decide), ?_⟩⟩
    · rintro v rfl x17 h17
      refine ⟨nB k - (i + 1), by omega, i + 1, ?_, by omega, rfl, rfl⟩
      rw [h17]
      simp (disch := (first | omega | (unfold inr; omega))) only [I_lit, I_nI, I_neg, I_add, I_sub, I_mul, I_div, I_le, I_lt, I_eq, I_clamp, I_clampN, I_vin]
      congr 1
    · rw [stF2_s, if_pos c2]
    · intro x21 h21
      rw [imax_I ⟨by omega, by omega⟩ ⟨by omega, by omega⟩] at h21
      rw [h21, stF2_s, if_neg c2]
theorem sp_weak {s : St} {c : Nat} {k : Kv} (hk : CV k) (hr : RC s c k) {b : Nat} (hb : b < 6) {Q : Int32 → Prop} (hQ : Q (I (wkZ k b))) : vc_Bod_weakestPullBut (c + 10) (I (b : Nat)) s Q := by
  have a := hk.1
  have hn := nB_le hk
  have en : ((nB k : Nat) : Int) = k 9 1 := by unfold nB; omega
  unfold vc_Bod_weakestPullBut
  refine ⟨fun N x t => ∃ i : Nat, t = I (i : Nat) ∧ i ≤ nB k ∧ N = nB k - i ∧ x = I (wkF k b i), ⟨_, 0, rfl, by omega, rfl, rfl⟩, ?_⟩
  rintro N x t ⟨i, rfl, hi, hN, rfl⟩
  have hs := (swk_in hk b i (by omega)).2
  rw [show s (c + 10) 0 = I (nB k : Nat) from by rw [en]; exact hr.1.2.1]
  constructor
  · intro z
    have z : i = nB k := by
      revert z
      simp (disch := (first | omega | (unfold inr; omega))) only [I_lit, I_nI, I_neg, I_add, I_sub, I_mul, I_div, I_le, I_lt, I_eq, I_clamp, I_clampN, I_vin]
      omega
    subst z
    unfold wkZ at hQ
    refine ⟨fun c2 => ?_, fun c2 => ?_⟩
    · have c2 : nB k ≤ 1 := by
        revert c2
        simp (disch := (first | omega | (unfold inr; omega))) only [I_lit, I_nI, I_neg, I_add, I_sub, I_mul, I_div, I_le, I_lt, I_eq, I_clamp, I_clampN, I_vin]
        omega
      rw [if_pos c2] at hQ
      exact hQ
    · have c2 : ¬ nB k ≤ 1 := by
        revert c2
        simp (disch := (first | omega | (unfold inr; omega))) only [I_lit, I_nI, I_neg, I_add, I_sub, I_mul, I_div, I_le, I_lt, I_eq, I_clamp, I_clampN, I_vin]
        omega
      rw [if_neg c2] at hQ
      exact hQ
  · intro z
    have z : i < nB k := by
      revert z
      simp (disch := (first | omega | (unfold inr; omega))) only [I_lit, I_nI, I_neg, I_add, I_sub, I_mul, I_div, I_le, I_lt, I_eq, I_clamp, I_clampN, I_vin]
      omega
    obtain ⟨-, -, -, -, -, -, h7, h8, -⟩ := hk.2.2.2 i (by omega)
    have e14 : s (c + 10 + 4) i = I (k 6 i) := (hr.2.2 i (by omega)).2.2.2.1
    rw [I_clampN (by omega), e14, show (I (i : Int) = I (b : Nat)) ↔ i = b from by
      simp (disch := (first | omega | (unfold inr; omega))) only [I_lit, I_nI, I_neg, I_add, I_sub, I_mul, I_div, I_le, I_lt, I_eq, I_clamp, I_clampN, I_vin]
      omega]
    refine ⟨fun v => v = I (wkF k b (i + 1)), ?_, fun c2 => ?_, fun c2 => ⟨I_vinN (by omega) (by decide), ?_⟩⟩
    · rintro v rfl x17 h17
      refine ⟨nB k - (i + 1), by omega, i + 1, ?_, by omega, rfl, rfl⟩
      rw [h17]
      simp (disch := (first | omega | (unfold inr; omega))) only [I_lit, I_nI, I_neg, I_add, I_sub, I_mul, I_div, I_le, I_lt, I_eq, I_clamp, I_clampN, I_vin]
      congr 1
    · rw [wkF_s, if_pos c2]
    · intro x21 h21
      rw [imin_I ⟨by omega, by omega⟩ ⟨by omega, by omega⟩] at h21
      rw [h21, wkF_s, if_neg c2]
/-- the best deeds -/
def resB (k : Kv) (b y n : Nat) : Bst := mdF (lackZ k b y (k 9 2) - k 5 b / 3) (stF2 k b (nB k) / 3) (wkZ k b / 3) (k 9 4) n (k 5 b) 0 0 [] none
theorem wkZ_in {k : Kv} (hk : CV k) (b : Nat) : 0 ≤ wkZ k b ∧ wkZ k b ≤ 9 := by
  have a := hk.1
  have := (swk_in hk b (nB k) (by unfold nB; omega)).2
  unfold wkZ
  split <;> omega
theorem c_rescue {s : St} {k : Kv} (hk : CC k) (hr : RC s 1 k) {b y n : Nat} (hb : (b : Int) < k 9 1) (hy : (y : Int) < k 9 0) (hn : n ≤ 6) {Q : St → Prop} (hQ : ∀ s', KC s s' → CBs s' (resB k b y n) → bOK (resB k b y n) → Q s') : vc_Res_find 61 1 (I (b : Nat)) (I (y : Nat)) (I (n : Nat)) s Q := by
  have hv := hk.1
  have a := hv.1
  have a5 := hv.2.1
  obtain ⟨-, -, -, -, h5, h6, -⟩ := hv.2.2.2 b hb
  have hl := lack_in (hv.2.2.2 b hb) (hv.2.2.1 y hy) (c := k 9 2) ⟨by omega, by omega⟩ (by omega)
  have hs := (swk_in hv b (nB k) (by unfold nB; omega)).1
  have hw := wkZ_in hv b
  unfold vc_Res_find
  rw [I_clampN (by omega), show s (1 + 10 + 3) b = I (k 5 b) from (hr.2.2 b hb).2.2.1]
  refine ⟨I_vinN (by omega) (by decide), ?_⟩
  intro x11 h11
  subst h11
  intro s12 h12
  have e12 : imin (I (n : Nat)) 6 = I (n : Nat) := by
    have := imin_I (a := ((n : Nat) : Int)) (b := 6) ⟨by omega, by omega⟩ ⟨by decide, by decide⟩
    rw [Int.min_eq_left (by omega)] at this
    exact this
  rw [e12] at h12
  have hr12 : RC s12 1 k := RC_ext (fun q j hq => by rw [h12]; exact wr_ne (by omega)) hr
  refine sp_lack hv hr12 hb hy ?_
  rw [show I (k 5 b) / 3 = I (k 5 b / 3) from by simp (disch := (first | omega | (unfold inr; omega))) only [I_lit, I_nI, I_neg, I_add, I_sub, I_mul, I_div, I_le, I_lt, I_eq, I_clamp, I_clampN, I_vin], I_sub]
  intro s15 h15
  have hr15 : RC s15 1 k := RC_ext (fun q j hq => by rw [h15]; exact wr_ne (by omega)) hr12
  refine sp_strong (c := 1) hv hr15 (by omega) ?_
  intro s18 h18
  rw [show I (stF2 k b (nB k)) / 3 = I (stF2 k b (nB k) / 3) from by simp (disch := (first | omega | (unfold inr; omega))) only [I_lit, I_nI, I_neg, I_add, I_sub, I_mul, I_div, I_le, I_lt, I_eq, I_clamp, I_clampN, I_vin]] at h18
  have hr18 : RC s18 1 k := RC_ext (fun q j hq => by rw [h18]; exact wr_ne (by omega)) hr15
  refine sp_weak (c := 1) hv hr18 (by omega) ?_
  intro s21 h21
  rw [show I (wkZ k b) / 3 = I (wkZ k b / 3) from by simp (disch := (first | omega | (unfold inr; omega))) only [I_lit, I_nI, I_neg, I_add, I_sub, I_mul, I_div, I_le, I_lt, I_eq, I_clamp, I_clampN, I_vin]] at h21
  have hr21 : RC s21 1 k := RC_ext (fun q j hq => by rw [h21]; exact wr_ne (by omega)) hr18
  rw [show s21 1 3 = I (k 9 4) from hr21.1.2.2.2.2.1]
  intro s22 h22 s23 h23 s24 h24 s25 h25
  refine c_search (s0 := s) (n := n) hn (L := lackZ k b y (k 9 2) - k 5 b / 3) (P := stF2 k b (nB k) / 3) (U := wkZ k b / 3) (c := k 9 4) ⟨by omega, by omega⟩ ⟨by omega, by omega⟩ ⟨by omega, by omega⟩ ⟨by omega, by omega⟩ n 8 [] (k 5 b) 0 0 s25 none (by omega) (by simp) ⟨h5, h6⟩ ⟨by decide, by simp⟩ ⟨by decide, by simp⟩ ⟨fun p j p1 p2 p3 => by rw [h25, wr_ne p1, h24, wr_ne p1, h23, wr_ne p1, h22, wr_ne p1, h21, wr_ne p1, h18, wr_ne p1, h15, wr_ne p1, h12, wr_ne p1], ?_, ?_, ?_, ?_, ?_⟩ (fun j hj => absurd hj (Nat.not_lt_zero j)) ⟨?_, ?_, ?_⟩ (fun q hq => by cases hq) _ ?_
  · rw [h25, wr_off (by decide), h24, wr_off (by decide), h23, wr_off (by decide), h22, wr_off (by decide), h21, wr_off (by decide), h18, wr_off (by decide), h15, wr_off (by decide), h12, wr_at]
  · rw [h25, wr_off (by decide), h24, wr_off (by decide), h23, wr_off (by decide), h22, wr_off (by decide), h21, wr_off (by decide), h18, wr_off (by decide), h15, wr_at]
  · rw [h25, wr_off (by decide), h24, wr_off (by decide), h23, wr_off (by decide), h22, wr_off (by decide), h21, wr_off (by decide), h18, wr_at]
  · rw [h25, wr_off (by decide), h24, wr_off (by decide), h23, wr_off (by decide), h22, wr_off (by decide), h21, wr_at]
  · rw [h25, wr_off (by decide), h24, wr_off (by decide), h23, wr_off (by decide), h22, wr_at]
  · rw [h25, wr_off (by decide), h24, wr_off (by decide), h23, wr_at]
  · rw [h25, wr_at]
  · rw [h25, wr_off (by decide), h24, wr_at]
  · intro s' g1 _ g3 g4
    exact hQ s' (fun p j hp => g1.1 p j (by omega) (by omega) (by omega)) g3 g4
/-- the answers of rescue -/
def rescA (bs : Bst) (i : Int) : Int := match bs with
  | none => -4
  | some q => if i = -1 then q.1 else if i < (q.2.length : Nat) then ((q.2.getD i.toNat 0 : Nat) : Int) else -4
theorem e_rescue {s : St} {A : Ab} (hR : RR s A) (x y z u : Int32) : vc_Brt_rescue x y z u s (fun r s1 => vc_Mod_rescue x y z u s1 (fun r' s2 => r = r' ∧ RR s2 A)) := by
  obtain ⟨b, hb, rfl⟩ := I_of x
  obtain ⟨y, hy, rfl⟩ := I_of y
  obtain ⟨n, hn, rfl⟩ := I_of z
  obtain ⟨i, hi, rfl⟩ := I_of u
  obtain ⟨hi1, hi2⟩ := id hi
  have hC := hR.2.2.1
  have hk := hC.1
  have a := hk.1
  have a5 := hk.2.1
  have hnb := nB_le hk
  have en : ((nB A.1 : Nat) : Int) = A.1 9 1 := by unfold nB; omega
  have b1 : vc_Brt_within (I n) 0 6 = vc_Brt_within (I n) (I 0) (I 6) := rfl
  have n1 : vc_Mod_isIn (I n) 0 6 = vc_Mod_isIn (I n) (I 0) (I 6) := rfl
  have em1 : (-1 : Int32) ≤ I i ↔ -1 ≤ i := by simp (disch := (first | omega | (unfold inr; omega))) only [I_lit, I_nI, I_neg, I_add, I_sub, I_mul, I_div, I_le, I_lt, I_eq, I_clamp, I_clampN, I_vin]
  have e0 : (0 : Int32) ≤ I i ↔ 0 ≤ i := by simp (disch := (first | omega | (unfold inr; omega))) only [I_lit, I_nI, I_neg, I_add, I_sub, I_mul, I_div, I_le, I_lt, I_eq, I_clamp, I_clampN, I_vin]
  have en1 : (I i = -1) ↔ i = -1 := by simp (disch := (first | omega | (unfold inr; omega))) only [I_lit, I_nI, I_neg, I_add, I_sub, I_mul, I_div, I_le, I_lt, I_eq, I_clamp, I_clampN, I_vin]
  have vi1 : vp_in (1 : Int32) 78 := v_in (a := 1) ⟨by decide, by decide⟩ (by decide) rfl
  have mod : ∀ (s1 : St) (r : Int32), RR s1 A → (¬ (((0 ≤ b ∧ b < A.1 9 1) ∧ (0 ≤ y ∧ y < A.1 9 0)) ∧ (0 ≤ n ∧ n ≤ 6) ∧ -1 ≤ i) → r = -1) → ((((0 ≤ b ∧ b < A.1 9 1) ∧ (0 ≤ y ∧ y < A.1 9 0)) ∧ (0 ≤ n ∧ n ≤ 6) ∧ -1 ≤ i) → ¬ fitZ A.1 b.toNat y.toNat (A.1 9 2) = 2 → r = -3) → ((((0 ≤ b ∧ b < A.1 9 1) ∧ (0 ≤ y ∧ y < A.1 9 0)) ∧ (0 ≤ n ∧ n ≤ 6) ∧ -1 ≤ i) → fitZ A.1 b.toNat y.toNat (A.1 9 2) = 2 → r = I (rescA (resB A.1 b.toNat y.toNat n.toNat) i)) → vc_Mod_rescue (I b) (I y) (I n) (I i) s1 (fun r' s2 => r = r' ∧ RR s2 A) := by
    intro s1 r hR1 h1 h2 h3
    unfold vc_Mod_rescue
    rw [n1]
    refine isBody_ok hk hR1.2.1.1 hb ?_
    rw [bi_f]
    refine ⟨fun q => ⟨h1 (fun q2 => (of_decide_eq_false q) q2.1.1), hR1⟩, fun q => ?_⟩
    have qb : 0 ≤ b ∧ b < A.1 9 1 := by simpa using q
    refine isYard_ok hk hR1.2.1.1 hy ?_
    rw [bi_f]
    refine ⟨fun q => ⟨h1 (fun q2 => (of_decide_eq_false q) q2.1.2), hR1⟩, fun q => ?_⟩
    have qy : 0 ≤ y ∧ y < A.1 9 0 := by simpa using q
    refine sp_isIn hn ⟨by decide, by decide⟩ ⟨by decide, by decide⟩ ?_
    rw [bi_f, em1]
    refine ⟨fun q => ⟨h1 (fun q2 => (of_decide_eq_false q) q2.2.1), hR1⟩, fun q => ?_⟩
    have qn : 0 ≤ n ∧ n ≤ 6 := by simpa using q
    refine ⟨fun qi => ?_, fun qi => ⟨h1 (fun q2 => qi q2.2.2), hR1⟩⟩
    have g2 := h2 ⟨⟨qb, qy⟩, qn, qi⟩
    have g3' := h3 ⟨⟨qb, qy⟩, qn, qi⟩
    clear h1 h2 h3
    obtain ⟨b, rfl, hb1⟩ := nat_of qb
    obtain ⟨y, rfl, hy1⟩ := nat_of qy
    obtain ⟨n, rfl⟩ : ∃ n' : Nat, n = n' := ⟨n.toNat, by omega⟩
    simp only [Int.toNat_natCast] at g2 g3'
    have hcb := hk.2.2.2 b hb1
    have hcy := hk.2.2.1 y hy1
    obtain ⟨-, -, -, -, h5, h6, -⟩ := id hcb
    refine hour_ok hk hR1.2.1.1 ?_
    refine sp_mfits hR1.2.1.1 hb1 (by omega) hy1 (by omega) hcy hcb (by omega) ⟨by omega, by omega⟩ ?_
    rw [fitH_eq]
    have hfi : 0 ≤ fitZ A.1 b y (A.1 9 2) ∧ fitZ A.1 b y (A.1 9 2) ≤ 2 := by
      unfold fitZ
      repeat' split
      all_goals omega
    rw [show (2 ≤ I (fitZ A.1 b y (A.1 9 2))) ↔ fitZ A.1 b y (A.1 9 2) = 2 from by
      simp (disch := (first | omega | (unfold inr; omega))) only [I_lit, I_nI, I_neg, I_add, I_sub, I_mul, I_div, I_le, I_lt, I_eq, I_clamp, I_clampN, I_vin]
      omega]
    refine ⟨fun c => ?_, fun c => ⟨g2 c, hR1⟩⟩
    have h3 := g3' c
    intro s25 h25
    have hR25 : RR s25 A := RR_KM (by rw [h25]; exact KM_w82 (by decide)) hR1
    have e25 : s25 83 (Int32.toNatClampNeg 1) = I (nB A.1 : Nat) := (hR25.2.1.1.1 1 (by decide)).trans (by rw [en])
    have hswk := swk_in hk b
    rw [e25, e0]
    refine ⟨vi1, fun v => v = I (if nB A.1 ≤ 1 then 0 else 9), ?_, fun c2 => ?_, fun c2 => ?_⟩
    · rintro v rfl s29 h29
      refine ⟨fun N t s' => ∃ j : Nat, t = I (j : Nat) ∧ j ≤ nB A.1 ∧ N = nB A.1 - j ∧ KM s25 s' ∧ s' 82 30 = I (stF2 A.1 b j) ∧ s' 82 31 = I (if nB A.1 ≤ 1 then 0 else wkF A.1 b j), ⟨_, 0, rfl, by omega, rfl, by rw [h29]; exact KM_w82 (by decide), ?_, ?_⟩, ?_⟩
      · rw [h29, wr_off (by decide), h25, wr_at]
        rfl
      · rw [h29, wr_at]
        rfl
      rintro N t s' ⟨j, rfl, hj, hN, hkm, q30, q31⟩
      have hR' := RR_KM hkm hR25
      have hsj := hswk j (by omega)
      rw [show s' 83 (Int32.toNatClampNeg 1) = I (nB A.1 : Nat) from (hR'.2.1.1.1 1 (by decide)).trans (by rw [en])]
      refine ⟨vi1, fun z => ?_, fun z => ?_⟩
      · have z : j = nB A.1 := by
          revert z
          simp (disch := (first | omega | (unfold inr; omega))) only [I_lit, I_nI, I_neg, I_add, I_sub, I_mul, I_div, I_le, I_lt, I_eq, I_clamp, I_clampN, I_vin]
          omega
        subst z
        intro s36 h36 s37 h37
        have f37 : ∀ p j, (p ≠ 82 ∨ (j ≠ 28 ∧ j ≠ 29)) → s37 p j = s' p j := by
          intro p j hpj
          rw [h37, h36]
          unfold wr
          repeat' split
          all_goals first | rfl | (exfalso; omega)
        have hw := wkZ_in hk b
        have hm37 : RM s37 83 (ku A.1 5 b (A.1 5 b)) := by
          rw [ku_self]
          exact RM_ext (fun j => f37 _ _ (by omega)) hR'.2.1.1
        refine m_deed (s0 := s37) hC hb1 hy1 (n := n) (by omega) (sz := stF2 A.1 b (nB A.1)) (wk := wkZ A.1 b) hsj.1 hw n 8 [] (A.1 5 b) 0 0 s37 none (by omega) (by simp) ⟨h5, h6⟩ ⟨by decide, by simp⟩ ⟨by decide, by simp⟩ ⟨fun _ _ _ => rfl, rfl, hm37, (f37 _ _ (by omega)).trans q30, (f37 _ _ (by omega)).trans q31⟩ (fun j hj => absurd hj (Nat.not_lt_zero j)) ⟨by rw [h37, wr_off (by decide), h36, wr_at], by rw [h37, wr_at]⟩ (fun q hq => by cases hq) _ ?_
        intro s38 g1 _ g3 g4
        have hR38 : RR s38 A := by
          obtain ⟨d1, d2, d3, -, -⟩ := g1
          rw [ku_self] at d3
          exact RR_m hR' (fun p j hp => (d1 p j hp).trans (f37 p j (by omega))) (d2.trans (f37 _ _ (by omega))) d3
        have eb : mdF (lackZ A.1 b y (A.1 9 2) - A.1 5 b / 3) (stF2 A.1 b (nB A.1) / 3) (wkZ A.1 b / 3) (A.1 9 4) n (A.1 5 b) 0 0 [] none = resB A.1 b y n := rfl
        rw [eb] at g3 g4
        cases hbs : resB A.1 b y n with
        | none =>
          rw [hbs] at g3 h3
          refine ⟨fun q => absurd g3.1 q, fun _ => ⟨h3, hR38⟩⟩
        | some q =>
          rw [hbs] at g3 h3
          have hq := g4 q hbs
          obtain ⟨k1, k2, k3⟩ := g3
          have h3 : r = I (if i = -1 then q.1 else if i < (q.2.length : Nat) then ((q.2.getD i.toNat 0 : Nat) : Int) else -4) := h3
          rw [k1, k2]
          refine ⟨fun _ => ⟨fun c3 => ⟨fun c4 => ⟨?_, hR38⟩, fun c4 => ?_⟩, fun c3 => ⟨?_, hR38⟩⟩, fun c3 => ?_⟩
          · have c4 : ((q.2.length : Nat) : Int) ≤ i := by
              revert c4
              simp (disch := (first | omega | (unfold inr; omega))) only [I_lit, I_nI, I_neg, I_add, I_sub, I_mul, I_div, I_le, I_lt, I_eq, I_clamp, I_clampN, I_vin]
              exact id
            rw [h3, if_neg (by omega), if_neg (by omega)]
            rfl
          · have c4 : i < ((q.2.length : Nat) : Int) := by
              revert c4
              simp (disch := (first | omega | (unfold inr; omega))) only [I_lit, I_nI, I_neg, I_add, I_sub, I_mul, I_div, I_le, I_lt, I_eq, I_clamp, I_clampN, I_vin]
              omega
            rw [I_clamp (by omega) (by omega), k3 _ (by omega)]
            refine ⟨(I_vin hi).mpr ⟨by omega, by omega⟩, ?_, hR38⟩
            rw [h3, if_neg (by omega), if_pos c4]
          · rw [h3, if_pos (by omega)]
          · exfalso
            revert c3
            simp (disch := (first | omega | (unfold inr; omega))) only [I_lit, I_nI, I_neg, I_add, I_sub, I_mul, I_div, I_le, I_lt, I_eq, I_clamp, I_clampN, I_vin]
            omega
      · have z : j < nB A.1 := by
          revert z
          simp (disch := (first | omega | (unfold inr; omega))) only [I_lit, I_nI, I_neg, I_add, I_sub, I_mul, I_div, I_le, I_lt, I_eq, I_clamp, I_clampN, I_vin]
          omega
        obtain ⟨-, -, -, -, -, -, h7, h8, -⟩ := hk.2.2.2 j (by omega)
        have hsj1 := hswk (j + 1) (by omega)
        rw [show (I (j : Int) = I (b : Nat)) ↔ j = b from by
          simp (disch := (first | omega | (unfold inr; omega))) only [I_lit, I_nI, I_neg, I_add, I_sub, I_mul, I_div, I_le, I_lt, I_eq, I_clamp, I_clampN, I_vin]
          omega]
        refine ⟨fun s43 => KM s25 s43 ∧ s43 82 30 = I (stF2 A.1 b (j + 1)) ∧ s43 82 31 = I (if nB A.1 ≤ 1 then 0 else wkF A.1 b (j + 1)), ?_, fun c2 => ?_, fun c2 => ⟨hkm, ?_, ?_⟩⟩
        · rintro s43 ⟨r1, r2, r3⟩ x45 h45
          refine ⟨nB A.1 - (j + 1), by omega, j + 1, ?_, by omega, rfl, r1, r2, r3⟩
          rw [h45]
          simp (disch := (first | omega | (unfold inr; omega))) only [I_lit, I_nI, I_neg, I_add, I_sub, I_mul, I_div, I_le, I_lt, I_eq, I_clamp, I_clampN, I_vin]
          congr 1
        · refine sp_of hR'.2.1.1 (b := j) (by omega) (by omega) (w := 3) (by decide) rfl ?_
          rw [q30, show A.1 (3 + 3) j = A.1 6 j from rfl]
          refine sp_mmost ⟨by omega, by omega⟩ ⟨by omega, by omega⟩ ?_
          intro s52 h52
          have hk52 : KM s25 s52 := hkm.tr (by rw [h52]; exact KM_w82 (by decide))
          refine sp_of (RR_KM hk52 hR25).2.1.1 (b := j) (by omega) (by omega) (w := 3) (by decide) rfl ?_
          rw [show s52 82 31 = I (if nB A.1 ≤ 1 then 0 else wkF A.1 b j) from by rw [h52, wr_off (by decide)]; exact q31]
          have hnb1 : ¬ nB A.1 ≤ 1 := by omega
          rw [if_neg hnb1, show A.1 (3 + 3) j = A.1 6 j from rfl]
          refine sp_mleast ⟨by omega, by omega⟩ ⟨by omega, by omega⟩ ?_
          intro s57 h57
          refine ⟨hk52.tr (by rw [h57]; exact KM_w82 (by decide)), ?_, ?_⟩
          · rw [h57, wr_off (by decide), h52, wr_at, stF2_s, if_neg c2]
          · rw [h57, wr_at, if_neg hnb1, wkF_s, if_neg c2]
        · rw [stF2_s, if_pos c2]
          exact q30
        · rw [wkF_s, if_pos c2]
          exact q31
    · have c2 : nB A.1 ≤ 1 := by
        revert c2
        simp (disch := (first | omega | (unfold inr; omega))) only [I_lit, I_nI, I_neg, I_add, I_sub, I_mul, I_div, I_le, I_lt, I_eq, I_clamp, I_clampN, I_vin]
        omega
      show (0 : Int32) = I (if nB A.1 ≤ 1 then 0 else 9)
      rw [if_pos c2]
      rfl
    · have c2 : ¬ nB A.1 ≤ 1 := by
        revert c2
        simp (disch := (first | omega | (unfold inr; omega))) only [I_lit, I_nI, I_neg, I_add, I_sub, I_mul, I_div, I_le, I_lt, I_eq, I_clamp, I_clampN, I_vin]
        omega
      show (9 : Int32) = I (if nB A.1 ≤ 1 then 0 else 9)
      rw [if_neg c2]
      rfl
  unfold vc_Brt_rescue
  rw [b1]
  refine both_ok hk hR.1.1 hb hy ?_
  rw [bi_f]
  refine ⟨fun q => mod s _ hR (fun _ => rfl) (fun q2 => absurd q2.1 (of_decide_eq_false q)) (fun q2 => absurd q2.1 (of_decide_eq_false q)), fun q => ?_⟩
  have qby : (0 ≤ b ∧ b < A.1 9 1) ∧ (0 ≤ y ∧ y < A.1 9 0) := of_decide_eq_true (by simpa only [Bool.not_eq_false] using q)
  refine sp_within hn ⟨by decide, by decide⟩ ⟨by decide, by decide⟩ ?_
  rw [bi_f, em1]
  refine ⟨fun q => mod s _ hR (fun _ => rfl) (fun q2 => absurd q2.2.1 (of_decide_eq_false q)) (fun q2 => absurd q2.2.1 (of_decide_eq_false q)), fun q => ?_⟩
  have qn : 0 ≤ n ∧ n ≤ 6 := by simpa using q
  refine ⟨fun qi => ?_, fun qi => mod s _ hR (fun _ => rfl) (fun q2 => absurd q2.2.2 qi) (fun q2 => absurd q2.2.2 qi)⟩
  obtain ⟨qb, qy⟩ := id qby
  obtain ⟨b, rfl, hb1⟩ := nat_of qb
  obtain ⟨y, rfl, hy1⟩ := nat_of qy
  obtain ⟨n, rfl⟩ : ∃ n' : Nat, n = n' := ⟨n.toNat, by omega⟩
  simp only [Int.toNat_natCast] at mod
  refine sp_fit hk hR.1.1 hb1 hy1 ?_
  have hfi : 0 ≤ fitZ A.1 b y (A.1 9 2) ∧ fitZ A.1 b y (A.1 9 2) ≤ 2 := by
    unfold fitZ
    repeat' split
    all_goals omega
  rw [show (I (fitZ A.1 b y (A.1 9 2)) = 2) ↔ fitZ A.1 b y (A.1 9 2) = 2 from by simp (disch := (first | omega | (unfold inr; omega))) only [I_lit, I_nI, I_neg, I_add, I_sub, I_mul, I_div, I_le, I_lt, I_eq, I_clamp, I_clampN, I_vin]]
  refine ⟨fun c => ?_, fun c => mod s _ hR (fun q2 => absurd ⟨qby, qn, qi⟩ q2) (fun _ _ => rfl) (fun _ q2 => absurd q2 c)⟩
  refine c_rescue hC hR.1.1 hb1 hy1 (by omega) ?_
  intro s20 hkc g3 g4
  have hR20 := RR_KC hkc hR
  have fin : ∀ r : Int32, r = I (rescA (resB A.1 b y n) i) → vc_Mod_rescue (I (b : Int)) (I (y : Int)) (I (n : Int)) (I i) s20 (fun r' s2 => r = r' ∧ RR s2 A) := fun r hr => mod s20 r hR20 (fun q2 => absurd ⟨qby, qn, qi⟩ q2) (fun _ q2 => absurd c q2) (fun _ _ => hr)
  cases hbs : resB A.1 b y n with
  | none =>
    rw [hbs] at g3 fin
    rw [g3.1]
    exact ⟨fun _ => fin _ rfl, fun q => absurd rfl q⟩
  | some q =>
    rw [hbs] at g3 fin
    have hq := g4 q hbs
    obtain ⟨k0, k1, k2, k3⟩ := g3
    rw [k0, k1, k2, en1, show (I i < I ((q.2.length : Nat) : Int)) ↔ i < ((q.2.length : Nat) : Int) from by simp (disch := (first | omega | (unfold inr; omega))) only [I_lit, I_nI, I_neg, I_add, I_sub, I_mul, I_div, I_le, I_lt, I_eq, I_clamp, I_clampN, I_vin]]
    refine ⟨fun c3 => absurd c3 (by decide), fun _ => ⟨fun c3 => ⟨fun c4 => ?_, fun c4 => fin _ ?_⟩, fun c3 => fin _ ?_⟩⟩
    · rw [I_clamp (by omega) (by omega), k3 _ (by omega)]
      refine ⟨(I_vin hi).mpr ⟨by omega, by omega⟩, fin _ ?_⟩
      show _ = I (if i = -1 then q.1 else if i < (q.2.length : Nat) then ((q.2.getD i.toNat 0 : Nat) : Int) else -4)
      rw [if_neg c4, if_pos c3]
    · show _ = I (if i = -1 then q.1 else if i < (q.2.length : Nat) then ((q.2.getD i.toNat 0 : Nat) : Int) else -4)
      rw [if_pos c4]
    · show _ = I (if i = -1 then q.1 else if i < (q.2.length : Nat) then ((q.2.getD i.toNat 0 : Nat) : Int) else -4)
      rw [if_neg (by omega), if_neg c3]
      rfl
