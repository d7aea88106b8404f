-- parties
def nxt (z : Int32) : Int32 := z * 1103515245 + 12345
def drI (z : Int32) : Int32 := ((z &&& 2147483647) / 65536) - ((z &&& 2147483647) / 65536) / 10 * 10
theorem dr_in (z : Int32) : 0 ≤ (drI z).toInt ∧ (drI z).toInt ≤ 9 := by
  obtain ⟨v, h1, h2, h3⟩ := and_in z 2147483647 2147483647 (by decide) (by decide)
  unfold drI
  rw [h3, show (I v / 65536 - I v / 65536 / 10 * 10 : Int32) = I (v / 65536 - v / 65536 / 10 * 10) from by simp (disch := (first | omega | (unfold inr; omega))) only [I_lit, I_nI, I_neg, I_add, I_sub, I_mul, I_div, I_le, I_lt, I_eq, I_clamp, I_clampN, I_vin], I_in ⟨by omega, by omega⟩]
  omega
def seedF (z : Int32) : Nat → Int32
  | 0 => z
  | i + 1 => nxt (seedF z i)
def kdr (k : Kv) (z : Int32) : Kv := kst k 5 (fun b => (drI (seedF z (b + 1))).toInt)
theorem CC_kdr {k : Kv} (h : CC k) (z : Int32) : CC (kdr k z) := CC_kst h (Or.inl rfl) (fun b _ => Or.inl ⟨rfl, (dr_in _).1, (dr_in _).2⟩)
/-- after so many parties: the seed, THROUGH in all, back in all -/
def parF (k : Kv) (z : Int32) : Nat → Int32 × Int32 × Int32
  | 0 => (z, 0, 0)
  | i + 1 => (seedF (parF k z i).1 (nB k), (parF k z i).2.1 + I (TK (kdr k (parF k z i).1)).2.1, (parF k z i).2.2 + I (HK (kdr k (parF k z i).1)).2.1)
theorem m_draws {s s0 : St} {k : Kv} (hk : CC k) {f : Nat → Int} {z : Int32} (hmt : MT s0 s) (hz : s 82 32 = z) (hr : RM s 83 (kst k 5 f)) {P : St → Prop} (hP : ∀ s', MT s0 s' → s' 82 32 = seedF z (nB k) → RM s' 83 (kdr k z) → P s') : (∃ I28 : Nat → Int32 → St → Prop, (∃ n29, I28 n29 0 s) ∧ ∀ (nI28 : Nat) (x26 : Int32) (s27 : St), I28 nI28 x26 s27 → (vp_in 1 78 ∧ (((s27 83 (Int32.toNatClampNeg 1)) ≤ x26 → P s27) ∧ (¬ (s27 83 (Int32.toNatClampNeg 1)) ≤ x26 → vc_Mod_atBody x26 2 (fun x41 => vc_Mod_drawn 10 s27 (fun x43 s44 => (vp_in x41 78 ∧ (∀ s46 : St, s46 = wr s44 83 (Int32.toNatClampNeg x41) x43 → (∀ x47 : Int32, x47 = x26 + 1 → ∃ m48, m48 < nI28 ∧ I28 m48 x47 s46))))))))) := by
  have a := hk.1.1
  have hn := nB_le hk.1
  have en : ((nB k : Nat) : Int) = k 9 1 := by unfold nB; omega
  have vi : vp_in (1 : Int32) 78 := v_in (a := 1) ⟨by decide, by decide⟩ (by decide) rfl
  refine ⟨fun N t s' => ∃ i : Nat, t = I (i : Nat) ∧ i ≤ nB k ∧ N = nB k - i ∧ s' 82 32 = seedF z i ∧ MT s0 s' ∧ RM s' 83 (kst k 5 (fun b => if b < i then (drI (seedF z (b + 1))).toInt else f b)), ⟨_, 0, rfl, by omega, rfl, hz, hmt, RM_kc (by decide) (fun b _ => by simp) hr⟩, ?_⟩
  rintro N t s' ⟨i, rfl, hi, hN, hsd, hks, hrs⟩
  have e1 : s' 83 (Int32.toNatClampNeg 1) = I (nB k : Nat) := (hrs.1 1 (by decide)).trans (by rw [kst_ne (by decide), en])
  rw [e1]
  refine ⟨vi, fun q => ?_, fun q => ?_⟩
  · have q : i = nB k := by
      revert q
      simp (disch := (first | omega | (unfold inr; omega))) only [I_lit, I_nI, I_neg, I_add, I_sub, I_mul, I_div, I_le, I_lt, I_eq, I_clamp, I_clampN, I_vin]
      omega
    subst q
    exact hP s' hks hsd (RM_kc (by decide) (fun b hb => by rw [if_pos (by omega)]) hrs)
  · have q : i < nB k := by
      revert q
      simp (disch := (first | omega | (unfold inr; omega))) only [I_lit, I_nI, I_neg, I_add, I_sub, I_mul, I_div, I_le, I_lt, I_eq, I_clamp, I_clampN, I_vin]
      omega
    refine at_body (b := i) (by omega) (w := 2) (by decide) rfl ?_
    rw [I_clampN (by omega)]
    unfold vc_Mod_drawn
    intro s10 h10
    have e10 : s10 82 32 = seedF z (i + 1) := by rw [h10, wr_at, hsd]; rfl
    rw [e10]
    refine ⟨by decide, I_vinN (by omega) (by decide), ?_⟩
    intro s46 h46 x47 h47
    have hmt10 : MT s0 s10 := by
      rw [h10]
      exact ⟨fun p j hp => (wr_ne (by omega)).trans (hks.1 p j hp), (wr_off (by decide)).trans hks.2.1, fun j hj => (wr_ne (by decide)).trans (hks.2.2.1 j hj), (wr_off (by decide)).trans hks.2.2.2⟩
    have hrs10 := RM_ext (s' := s10) (fun j => by rw [h10]; exact wr_ne (by decide)) hrs
    refine ⟨nB k - (i + 1), by omega, i + 1, ?_, by omega, rfl, ?_, by rw [h46]; exact hmt10.put, ?_⟩
    · rw [h47]
      simp (disch := (first | omega | (unfold inr; omega))) only [I_lit, I_nI, I_neg, I_add, I_sub, I_mul, I_div, I_le, I_lt, I_eq, I_clamp, I_clampN, I_vin]
      congr 1
    · rw [h46, wr_ne (by decide)]; exact e10
    · have := RM_put hrs10 (s' := s46) (by rw [kst_ne (by decide), kst_ne (by decide)]; omega) (a := 5) (b := i) (v := (drI (seedF z (i + 1))).toInt) (by omega) (by decide) (by rw [I_toInt, h46]; exact wr_at) (fun j hj => by rw [h46]; exact wr_off hj)
      rw [kst_ku] at this
      refine RM_kc (by decide) (fun b _ => ?_) this
      by_cases e : b = i
      · rw [if_pos e, if_pos (by omega), e]
      · rw [if_neg e]
        by_cases e2 : b < i
        · rw [if_pos e2, if_pos (by omega)]
        · rw [if_neg e2, if_neg (by omega)]
theorem c_draws {s s0 : St} {k : Kv} (hk : CC k) {f : Nat → Int} {z : Int32} (hkc : KC s0 s) (hr : RC s 35 (kst k 5 f)) {P : Int32 → St → Prop} (hP : ∀ s', KC s0 s' → RC s' 35 (kdr k z) → P (seedF z (nB k)) s') : (∃ I29 : Nat → Int32 → Int32 → St → Prop, (∃ n30, I29 n30 z 0 s) ∧ ∀ (nI29 : Nat) (x26 : Int32) (x27 : Int32) (s28 : St), I29 nI29 x26 x27 s28 → (((s28 45 0) ≤ x27 → P x26 s28) ∧ (¬ (s28 45 0) ≤ x27 → (∀ x38 : Int32, x38 = (x26 * 1103515245) + 12345 → (vp_in x27 6 ∧ (∀ s40 : St, s40 = wr s28 48 (Int32.toNatClampNeg x27) (((x38 &&& 2147483647) / 65536) - ((x38 &&& 2147483647) / 65536) / 10 * 10) → (∀ x41 : Int32, x41 = x27 + 1 → ∃ m42, m42 < nI29 ∧ I29 m42 x38 x41 s40))))))) := by
  have a := hk.1.1
  have hn := nB_le hk.1
  have en : ((nB k : Nat) : Int) = k 9 1 := by unfold nB; omega
  refine ⟨fun N x t s' => ∃ i : Nat, t = I (i : Nat) ∧ i ≤ nB k ∧ N = nB k - i ∧ x = seedF z i ∧ KC s0 s' ∧ RC s' 35 (kst k 5 (fun b => if b < i then (drI (seedF z (b + 1))).toInt else f b)), ⟨_, 0, rfl, by omega, rfl, rfl, hkc, RC_kc (by decide) (fun b _ => by simp) hr⟩, ?_⟩
  rintro N x t s' ⟨i, rfl, hi, hN, rfl, hks, hrs⟩
  have e1 : s' 45 0 = I (nB k : Nat) := (show s' 45 0 = _ from hrs.1.2.1).trans (by rw [kst_ne (by decide), en])
  rw [e1]
  refine ⟨fun q => ?_, fun q => ?_⟩
  · have q : i = nB k := by
      revert q
      simp (disch := (first | omega | (unfold inr; omega))) only [I_lit, I_nI, I_neg, I_add, I_sub, I_mul, I_div, I_le, I_lt, I_eq, I_clamp, I_clampN, I_vin]
      omega
    subst q
    exact hP s' hks (RC_kc (by decide) (fun b hb => by rw [if_pos (by omega)]) hrs)
  · have q : i < nB k := by
      revert q
      simp (disch := (first | omega | (unfold inr; omega))) only [I_lit, I_nI, I_neg, I_add, I_sub, I_mul, I_div, I_le, I_lt, I_eq, I_clamp, I_clampN, I_vin]
      omega
    intro x38 h38
    have e38 : x38 = seedF z (i + 1) := h38
    rw [I_clampN (by omega)]
    refine ⟨I_vinN (by omega) (by decide), ?_⟩
    intro s40 h40 x41 h41
    refine ⟨nB k - (i + 1), by omega, i + 1, ?_, by omega, rfl, e38, by rw [h40]; exact hks.tr (KC.wr (by omega)), ?_⟩
    · rw [h41]
      simp (disch := (first | omega | (unfold inr; omega))) only [I_lit, I_nI, I_neg, I_add, I_sub, I_mul, I_div, I_le, I_lt, I_eq, I_clamp, I_clampN, I_vin]
      congr 1
    · have := RC_put hrs (a := 5) (b := i) (v := (drI (seedF z (i + 1))).toInt) (by decide)
      rw [I_toInt, ← e38, kst_ku] at this
      rw [h40]
      refine RC_kc (by decide) (fun b _ => ?_) this
      by_cases e : b = i
      · rw [if_pos e, if_pos (by omega), e38, e]
      · rw [if_neg e]
        by_cases e2 : b < i
        · rw [if_pos e2, if_pos (by omega)]
        · rw [if_neg e2, if_neg (by omega)]
theorem e_parties {s : St} {A : Ab} (hR : RR s A) (x z y : Int32) : vc_Brt_parties x z y s (fun r s1 => vc_Mod_parties x z y s1 (fun r' s2 => r = r' ∧ RR s2 A)) := by
  obtain ⟨n, hn, rfl⟩ := I_of x
  obtain ⟨w, hw, rfl⟩ := I_of y
  have hC := hR.2.2.1
  have hk := hC.1
  have a := hk.1
  have b0 : vc_Brt_within (I n) 1 20 = vc_Brt_within (I n) (I 1) (I 20) := rfl
  have b1 : vc_Brt_within (I w) 0 1 = vc_Brt_within (I w) (I 0) (I 1) := rfl
  have n0 : vc_Mod_isIn (I n) 1 20 = vc_Mod_isIn (I n) (I 1) (I 20) := rfl
  have n1 : vc_Mod_isIn (I w) 0 1 = vc_Mod_isIn (I w) (I 0) (I 1) := rfl
  have ew : (I w = 0) ↔ w = 0 := by simp (disch := (first | omega | (unfold inr; omega))) only [I_lit, I_nI, I_neg, I_add, I_sub, I_mul, I_div, I_le, I_lt, I_eq, I_clamp, I_clampN, I_vin]
  have mod : ∀ (s1 : St) (r : Int32), RR s1 A → (¬ ((1 ≤ n ∧ n ≤ 20) ∧ (0 ≤ w ∧ w ≤ 1)) → r = -1) → (((1 ≤ n ∧ n ≤ 20) ∧ (0 ≤ w ∧ w ≤ 1)) → r = if w = 0 then (parF A.1 z n.toNat).2.1 else (parF A.1 z n.toNat).2.2) → vc_Mod_parties (I n) z (I w) s1 (fun r' s2 => r = r' ∧ RR s2 A) := by
    intro s1 r hR1 h1 h2
    unfold vc_Mod_parties
    rw [n0, n1]
    refine sp_isIn hn ⟨by decide, by decide⟩ ⟨by decide, by decide⟩ ?_
    rw [bi_f]
    refine ⟨fun q => ⟨h1 (fun q2 => (of_decide_eq_false q) q2.1), hR1⟩, fun q => ?_⟩
    have q : 1 ≤ n ∧ n ≤ 20 := by simpa using q
    refine sp_isIn hw ⟨by decide, by decide⟩ ⟨by decide, by decide⟩ ?_
    rw [bi_f, ew]
    refine ⟨fun q2 => ?_, fun q2 => ⟨h1 (fun q3 => (of_decide_eq_false q2) q3.2), hR1⟩⟩
    have q2 : 0 ≤ w ∧ w ≤ 1 := by simpa using q2
    have h2 := h2 ⟨q, q2⟩
    obtain ⟨n, rfl⟩ : ∃ n' : Nat, n = n' := ⟨n.toNat, by omega⟩
    rw [Int.toNat_natCast] at h2
    intro s16 h16
    have hR16 : RR s16 A := RR_KM (by rw [h16]; exact KM_w82 (by decide)) hR1
    refine sp_copies (by decide) ?_
    intro s17 g1 g2 s18 h18
    obtain ⟨mt18, hm18⟩ := MT_begin g1 g2 h18 hR16.2.1.1
    have e18 : s18 82 32 = z := by rw [h18, wr_off (by decide), g1 _ _ (by decide), h16, wr_at]
    refine ⟨fun N x19 x20 s' => ∃ i : Nat, x20 = I (i : Nat) ∧ i ≤ n ∧ N = n - i ∧ (x19 = if w = 0 then (parF A.1 z i).2.1 else (parF A.1 z i).2.2) ∧ s' 82 32 = (parF A.1 z i).1 ∧ MT s16 s' ∧ ∃ f, RM s' 83 (kst A.1 5 f), ⟨_, 0, rfl, by omega, rfl, by unfold parF; split <;> rfl, e18, mt18, A.1 5, by rw [kst_self]; exact hm18⟩, ?_⟩
    rintro N x19 x20 s' ⟨i, rfl, hi, hN, hx, hsd, hmt, f, hrm⟩
    constructor
    · intro c
      have c : i = n := by
        revert c
        simp (disch := (first | omega | (unfold inr; omega))) only [I_lit, I_nI, I_neg, I_add, I_sub, I_mul, I_div, I_le, I_lt, I_eq, I_clamp, I_clampN, I_vin]
        omega
      subst c
      refine hmt.end hR16 ?_
      intro s25 hR25 _
      exact ⟨by rw [h2, hx], hR25⟩
    · intro c
      have c : i < n := by
        revert c
        simp (disch := (first | omega | (unfold inr; omega))) only [I_lit, I_nI, I_neg, I_add, I_sub, I_mul, I_div, I_le, I_lt, I_eq, I_clamp, I_clampN, I_vin]
        omega
      refine m_draws hC hmt hsd hrm ?_
      intro s27 hmt27 hsd27 hm27
      have hC5 := CC_kdr hC (parF A.1 z i).1
      refine m_tab hC5.1 hC5.2.2.1 hm27 hmt27.2.2.2 ?_
      intro s32 hkg ht hh h18'
      have hm32 : RM s32 83 (kdr A.1 (parF A.1 z i).1) := RM_ext (fun j => hkg.1 83 j (by decide) (by decide) (by decide)) hm27
      refine ⟨fun v => popF v 6 = if w = 0 then I (TK (kdr A.1 (parF A.1 z i).1)).2.1 else I (HK (kdr A.1 (parF A.1 z i).1)).2.1, ?_, fun c2 => ?_, fun c2 => ?_⟩
      · intro v hv
        refine sp_bits ?_
        intro x37 h37 x38 h38
        refine ⟨n - (i + 1), by omega, i + 1, ?_, by omega, rfl, ?_, ?_, hmt27.kg hkg, _, hm32⟩
        · rw [h38]
          simp (disch := (first | omega | (unfold inr; omega))) only [I_lit, I_nI, I_neg, I_add, I_sub, I_mul, I_div, I_le, I_lt, I_eq, I_clamp, I_clampN, I_vin]
          congr 1
        · rw [h37, hv, hx]
          split <;> rfl
        · rw [hkg.2 32 (by omega), hsd27]; rfl
      · rw [if_neg c2, hh.1]; exact pop_HK hC5
      · rw [if_pos c2, ht.1]; exact pop_TK hC5
  unfold vc_Brt_parties
  rw [b0, b1]
  refine sp_within hn ⟨by decide, by decide⟩ ⟨by decide, by decide⟩ ?_
  rw [bi_f]
  refine ⟨fun q => mod s _ hR (fun _ => rfl) (fun q2 => absurd q2.1 (of_decide_eq_false q)), fun q => ?_⟩
  have q : 1 ≤ n ∧ n ≤ 20 := by simpa using q
  refine sp_within hw ⟨by decide, by decide⟩ ⟨by decide, by decide⟩ ?_
  rw [bi_f, ew]
  refine ⟨fun q2 => ?_, fun q2 => mod s _ hR (fun _ => rfl) (fun q3 => absurd q3.2 (of_decide_eq_false q2))⟩
  have q2 : 0 ≤ w ∧ w ≤ 1 := by simpa using q2
  obtain ⟨n, rfl⟩ : ∃ n' : Nat, n = n' := ⟨n.toNat, by omega⟩
  rw [Int.toNat_natCast] at mod
  refine sp_become hk hR.1.1 (by omega) ?_
  intro s16 f16 hr16
  refine ⟨fun N x17 x18 x19 x20 s' => ∃ i : Nat, x20 = I (i : Nat) ∧ i ≤ n ∧ N = n - i ∧ x17 = (parF A.1 z i).1 ∧ x18 = (parF A.1 z i).2.1 ∧ x19 = (parF A.1 z i).2.2 ∧ KC s s' ∧ ∃ f, RC s' 35 (kst A.1 5 f), ⟨_, 0, rfl, by omega, rfl, rfl, rfl, rfl, KC_become f16, A.1 5, by rw [kst_self]; exact hr16⟩, ?_⟩
  rintro N x17 x18 x19 x20 s' ⟨i, rfl, hi, hN, rfl, rfl, rfl, hkc, f, hrc⟩
  constructor
  · intro c
    have c : i = n := by
      revert c
      simp (disch := (first | omega | (unfold inr; omega))) only [I_lit, I_nI, I_neg, I_add, I_sub, I_mul, I_div, I_le, I_lt, I_eq, I_clamp, I_clampN, I_vin]
      omega
    subst c
    refine ⟨fun c2 => mod s' _ (RR_KC hkc hR) (fun q3 => absurd ⟨q, q2⟩ q3) (fun _ => by rw [if_neg c2]), fun c2 => mod s' _ (RR_KC hkc hR) (fun q3 => absurd ⟨q, q2⟩ q3) (fun _ => by rw [if_pos c2])⟩
  · intro c
    have c : i < n := by
      revert c
      simp (disch := (first | omega | (unfold inr; omega))) only [I_lit, I_nI, I_neg, I_add, I_sub, I_mul, I_div, I_le, I_lt, I_eq, I_clamp, I_clampN, I_vin]
      omega
    refine c_draws hC hkc hrc ?_
    intro s28 hkc28 hr28
    have hC5 := CC_kdr hC (parF A.1 z i).1
    refine c_allReturn hC5.1 hC5.2.2.1 hr28 (by decide) ?_
    intro s33 hkl ht hh x34 h34 x35 h35 x36 h36
    have hr33 : RC s33 35 (kdr A.1 (parF A.1 z i).1) := RC_ext (fun q j hq => hkl _ _ (by omega)) hr28
    refine ⟨n - (i + 1), by omega, i + 1, ?_, by omega, rfl, rfl, ?_, ?_, hkc28.tr hkl.kc, _, hr33⟩
    · rw [h36]
      simp (disch := (first | omega | (unfold inr; omega))) only [I_lit, I_nI, I_neg, I_add, I_sub, I_mul, I_div, I_le, I_lt, I_eq, I_clamp, I_clampN, I_vin]
      congr 1
    · rw [h34, show s33 53 1 = _ from ht.2.1]; rfl
    · rw [h35, show s33 55 1 = _ from hh.2.1]; rfl
