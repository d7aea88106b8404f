-- firstWays
theorem and_in (x m : Int32) (n : Nat) (h : m.toBitVec.toNat = n) (hn : n < 2147483648) : ∃ z : Int, 0 ≤ z ∧ z ≤ n ∧ x &&& m = I z := by
  have e : (x &&& m).toInt = ((x &&& m).toBitVec.toNat : Int) := by
    show (x &&& m).toBitVec.toInt = _
    apply BitVec.toInt_eq_toNat_of_lt
    rw [Int32.toBitVec_and, BitVec.toNat_and]
    have := Nat.and_le_right (n := x.toBitVec.toNat) (m := m.toBitVec.toNat)
    omega
  have e2 : (x &&& m).toBitVec.toNat ≤ n := by
    rw [Int32.toBitVec_and, BitVec.toNat_and]
    have := Nat.and_le_right (n := x.toBitVec.toNat) (m := m.toBitVec.toNat)
    omega
  refine ⟨(x &&& m).toInt, by omega, by omega, (I_toInt _).symm⟩
def posI (n b : Nat) (c : Int32) : Int32 := (c >>> ((2 * ((I (n : Nat) - 1) - I (b : Nat))) &&& 31)) &&& 3
theorem pos_in (n b : Nat) (c : Int32) : 0 ≤ (posI n b c).toInt ∧ (posI n b c).toInt ≤ 3 := by
  obtain ⟨z, h1, h2, h3⟩ := and_in (c >>> ((2 * ((I (n : Nat) - 1) - I (b : Nat))) &&& 31)) 3 3 (by decide) (by decide)
  unfold posI
  rw [h3, I_in ⟨by omega, by omega⟩]
  exact ⟨h1, h2⟩
def digF (n : Nat) (c : Int32) : Nat → Int32
  | 0 => 0
  | i + 1 => digF n c i * 10 + posI n i c
def kpo (k : Kv) (n : Nat) (c : Int32) : Kv := kst k 7 (fun b => (posI n b c).toInt)
theorem CC_kpo {k : Kv} (h : CC k) (n : Nat) (c : Int32) : CC (kpo k n c) := CC_kst h (Or.inr rfl) (fun b _ => Or.inr ⟨rfl, (pos_in n b c).1, (pos_in n b c).2⟩)
def fwF (k : Kv) (n : Nat) : Nat → Int × Int32
  | 0 => (-1, 0)
  | i + 1 => if (fwF k n i).1 < (HK (kpo k n (I (i : Nat)))).2.1 then ((HK (kpo k n (I (i : Nat)))).2.1, digF n (I (i : Nat)) n) else fwF k n i
theorem fwF_s (k : Kv) (n i : Nat) : fwF k n (i + 1) = if (fwF k n i).1 < (HK (kpo k n (I (i : Nat)))).2.1 then ((HK (kpo k n (I (i : Nat)))).2.1, digF n (I (i : Nat)) n) else fwF k n i := rfl
theorem nB_kst {k : Kv} {a : Nat} {f : Nat → Int} (h : a ≠ 9) : nB (kst k a f) = nB k := by
  unfold nB
  rw [kst_ne (Ne.symm h)]
theorem fw_in {k : Kv} (hk : CC k) (n : Nat) : ∀ i, -1 ≤ (fwF k n i).1 ∧ (fwF k n i).1 ≤ 6 := by
  intro i
  induction i with
  | zero => exact ⟨(by decide : (-1 : Int) ≤ -1), (by decide : (-1 : Int) ≤ 6)⟩
  | succ i ih =>
    rw [fwF_s]
    split
    · have hc := CC_kpo hk n (I (i : Nat))
      have h := HK_in hc.1 hc.2.2.1
      have hb := nB_le hc.1
      show -1 ≤ (HK (kpo k n (I (i : Nat)))).2.1 ∧ (HK (kpo k n (I (i : Nat)))).2.1 ≤ 6
      omega
    · exact ih
theorem MT_begin {s s12 s13 : St} {k : Kv} (g1 : ∀ r j, r ≠ 85 → s12 r j = s r j) (g2 : ∀ j, j < 78 → s12 85 j = s 83 j) (h13 : s13 = wr s12 82 7 0) (hm : RM s 83 k) : MT s s13 ∧ RM s13 83 k := by
  refine ⟨⟨fun p j hp => ?_, ?_, fun j hj => ?_, ?_⟩, RM_ext (fun j => ?_) hm⟩
  · rw [h13, wr_ne (by omega)]; exact g1 p j (by omega)
  · rw [h13, wr_off (by decide)]; exact g1 _ _ (by decide)
  · rw [h13, wr_ne (by decide)]; exact g2 j hj
  · rw [h13, wr_at]
  · rw [h13, wr_ne (by decide)]; exact g1 _ _ (by decide)
theorem shl_4 : ∀ n, n < 5 → ((1 : Int32) <<< ((2 * I (n : Nat)) &&& 31) = I (4 ^ n : Nat) ∧ 4 ^ n ≤ 256) := by decide +kernel
theorem c_pose {s s0 : St} {k : Kv} (hk : CC k) {f : Nat → Int} {C : Int32} (hkc : KC s0 s) (hr : RC s 35 (kst k 7 f)) {Q : Int32 → St → Prop} (hQ : ∀ s', KC s0 s' → RC s' 35 (kpo k (nB k) C) → Q (digF (nB k) C (nB k)) s') : vc_Brt_pose C (I (nB k : Nat)) s Q := by
  have a := hk.1.1
  have hn := nB_le hk.1
  have en : ((nB k : Nat) : Int) = k 9 1 := by unfold nB; omega
  unfold vc_Brt_pose
  refine ⟨fun N x t s' => ∃ i : Nat, t = I (i : Nat) ∧ i ≤ nB k ∧ N = nB k - i ∧ x = digF (nB k) C i ∧ KC s0 s' ∧ RC s' 35 (kst k 7 (fun b => if b < i then (posI (nB k) b C).toInt else f b)), ⟨_, 0, rfl, by omega, rfl, rfl, hkc, RC_kc (by decide) (fun b _ => by simp) hr⟩, ?_⟩
  rintro N x t s' ⟨i, rfl, hi, hN, rfl, hks, hrs⟩
  constructor
  · intro z
    have z : i = nB k := by
      revert z
      simp (disch := (first | omega | (unfold inr; omega))) only [I_lit, I_nI, I_neg, I_add, I_sub, I_mul, I_div, I_le, I_lt, I_eq, I_clamp, I_clampN, I_vin]
      omega
    subst z
    exact hQ s' hks (RC_kc (by decide) (fun b hb => by rw [if_pos (by omega)]) hrs)
  · intro z
    have z : i < nB k := by
      revert z
      simp (disch := (first | omega | (unfold inr; omega))) only [I_lit, I_nI, I_neg, I_add, I_sub, I_mul, I_div, I_le, I_lt, I_eq, I_clamp, I_clampN, I_vin]
      omega
    intro x16 h16
    rw [I_clampN (by omega)]
    refine ⟨I_vinN (by omega) (by decide), ?_⟩
    intro s18 h18 x19 h19 x20 h20
    have e16 : x16 = posI (nB k) i C := h16
    refine ⟨nB k - (i + 1), by omega, i + 1, ?_, by omega, rfl, ?_, by rw [h18]; exact hks.tr (KC.wr (by omega)), ?_⟩
    · rw [h20]
      simp (disch := (first | omega | (unfold inr; omega))) only [I_lit, I_nI, I_neg, I_add, I_sub, I_mul, I_div, I_le, I_lt, I_eq, I_clamp, I_clampN, I_vin]
      congr 1
    · rw [h19, e16]; rfl
    · have := RC_put hrs (a := 7) (b := i) (v := (posI (nB k) i C).toInt) (by decide)
      rw [I_toInt, ← e16, kst_ku] at this
      rw [h18]
      refine RC_kc (by decide) (fun b _ => ?_) this
      by_cases e : b = i
      · rw [if_pos e, if_pos (by omega), e16, e]
      · rw [if_neg e]
        by_cases e2 : b < i
        · rw [if_pos e2, if_pos (by omega)]
        · rw [if_neg e2, if_neg (by omega)]
theorem m_pose {s s0 : St} {k : Kv} (hk : CC k) {f : Nat → Int} {C : Int32} (hmt : MT s0 s) (hr : RM s 83 (kst k 7 f)) {P : Int32 → St → Prop} (hP : ∀ s', MT s0 s' → RM s' 83 (kpo k (nB k) C) → P (digF (nB k) C (nB k)) s') : (∃ I26 : Nat → Int32 → Int32 → St → Prop, (∃ n27, I26 n27 0 0 s) ∧ ∀ (nI26 : Nat) (x23 : Int32) (x24 : Int32) (s25 : St), I26 nI26 x23 x24 s25 → (vp_in 1 78 ∧ (((s25 83 (Int32.toNatClampNeg 1)) ≤ x24 → P x23 s25) ∧ (¬ (s25 83 (Int32.toNatClampNeg 1)) ≤ x24 → (vp_in 1 78 ∧ (∀ x42 : Int32, x42 = (C >>> ((2 * (((s25 83 (Int32.toNatClampNeg 1)) - 1) - x24)) &&& 31)) &&& 3 → vc_Mod_atBody x24 4 (fun x43 => (vp_in x43 78 ∧ (∀ s46 : St, s46 = wr s25 83 (Int32.toNatClampNeg x43) x42 → (∀ x47 : Int32, x47 = (10 * x23) + x42 → (∀ x48 : Int32, x48 = x24 + 1 → ∃ m49, m49 < nI26 ∧ I26 m49 x47 x48 s46))))))))))) := by
  have a := hk.1.1
  have hn := nB_le hk.1
  have en : ((nB k : Nat) : Int) = k 9 1 := by unfold nB; omega
  have vi : vp_in (1 : Int32) 78 := v_in (a := 1) ⟨by decide, by decide⟩ (by decide) rfl
  refine ⟨fun N x t s' => ∃ i : Nat, t = I (i : Nat) ∧ i ≤ nB k ∧ N = nB k - i ∧ x = digF (nB k) C i ∧ MT s0 s' ∧ RM s' 83 (kst k 7 (fun b => if b < i then (posI (nB k) b C).toInt else f b)), ⟨_, 0, rfl, by omega, rfl, rfl, hmt, RM_kc (by decide) (fun b _ => by simp) hr⟩, ?_⟩
  rintro N x t s' ⟨i, rfl, hi, hN, rfl, hks, hrs⟩
  have e1 : s' 83 (Int32.toNatClampNeg 1) = I (nB k : Nat) := (hrs.1 1 (by decide)).trans (by rw [kst_ne (by decide), en])
  rw [e1]
  refine ⟨vi, fun z => ?_, fun z => ⟨vi, ?_⟩⟩
  · have z : i = nB k := by
      revert z
      simp (disch := (first | omega | (unfold inr; omega))) only [I_lit, I_nI, I_neg, I_add, I_sub, I_mul, I_div, I_le, I_lt, I_eq, I_clamp, I_clampN, I_vin]
      omega
    subst z
    exact hP s' hks (RM_kc (by decide) (fun b hb => by rw [if_pos (by omega)]) hrs)
  · have z : i < nB k := by
      revert z
      simp (disch := (first | omega | (unfold inr; omega))) only [I_lit, I_nI, I_neg, I_add, I_sub, I_mul, I_div, I_le, I_lt, I_eq, I_clamp, I_clampN, I_vin]
      omega
    intro x42 h42
    refine at_body (b := i) (by omega) (w := 4) (by decide) rfl ⟨I_vinN (by omega) (by decide), ?_⟩
    rw [I_clampN (by omega)]
    intro s46 h46 x47 h47 x48 h48
    have e42 : x42 = posI (nB k) i C := h42
    refine ⟨nB k - (i + 1), by omega, i + 1, ?_, by omega, rfl, ?_, by rw [h46]; exact hks.put, ?_⟩
    · rw [h48]
      simp (disch := (first | omega | (unfold inr; omega))) only [I_lit, I_nI, I_neg, I_add, I_sub, I_mul, I_div, I_le, I_lt, I_eq, I_clamp, I_clampN, I_vin]
      congr 1
    · rw [h47, e42, Int32.mul_comm]; rfl
    · have := RM_put hrs (s' := s46) (by rw [kst_ne (by decide), kst_ne (by decide)]; omega) (a := 7) (b := i) (v := (posI (nB k) i C).toInt) (by omega) (by decide) (by rw [I_toInt, h46, ← e42]; exact wr_at) (fun j hj => by rw [h46]; exact wr_off hj)
      rw [kst_ku] at this
      refine RM_kc (by decide) (fun b _ => ?_) this
      by_cases e : b = i
      · rw [if_pos e, if_pos (by omega), e]
      · rw [if_neg e]
        by_cases e2 : b < i
        · rw [if_pos e2, if_pos (by omega)]
        · rw [if_neg e2, if_neg (by omega)]
theorem e_firstWays {s : St} {A : Ab} (hR : RR s A) : vc_Brt_firstWays s (fun r s1 => vc_Mod_firstWays s1 (fun r' s2 => r = r' ∧ RR s2 A)) := by
  have hC := hR.2.2.1
  have hk := hC.1
  have a := hk.1
  have hn := nB_le hk
  have en : ((nB A.1 : Nat) : Int) = A.1 9 1 := by unfold nB; omega
  have e4 : (I (nB A.1 : Nat) ≤ 4) ↔ nB A.1 ≤ 4 := by
    simp (disch := (first | omega | (unfold inr; omega))) only [I_lit, I_nI, I_neg, I_add, I_sub, I_mul, I_div, I_le, I_lt, I_eq, I_clamp, I_clampN, I_vin]
    omega
  have vi : vp_in (1 : Int32) 78 := v_in (a := 1) ⟨by decide, by decide⟩ (by decide) rfl
  have mod : ∀ (s1 : St) (r : Int32), RR s1 A → (¬ nB A.1 ≤ 4 → r = -3) → (nB A.1 ≤ 4 → r = (fwF A.1 (nB A.1) (4 ^ nB A.1)).2) → vc_Mod_firstWays s1 (fun r' s2 => r = r' ∧ RR s2 A) := by
    intro s1 r hR1 h1 h2
    unfold vc_Mod_firstWays
    have e1 : s1 83 (Int32.toNatClampNeg 1) = I (nB A.1 : Nat) := (hR1.2.1.1.1 1 (by decide)).trans (by rw [en])
    rw [e1, e4]
    refine ⟨vi, fun z => ?_, fun z => ⟨h1 z, hR1⟩⟩
    obtain ⟨es, e256⟩ := shl_4 (nB A.1) (by omega)
    refine sp_copies (by decide) ?_
    intro s12 g1 g2 s13 h13
    obtain ⟨mt13, hm13⟩ := MT_begin g1 g2 h13 hR1.2.1.1
    refine ⟨fun N x14 x15 x16 s' => ∃ i : Nat, x16 = I (i : Nat) ∧ i ≤ 4 ^ nB A.1 ∧ N = 4 ^ nB A.1 - i ∧ x14 = (fwF A.1 (nB A.1) i).2 ∧ x15 = I (fwF A.1 (nB A.1) i).1 ∧ MT s1 s' ∧ ∃ f, RM s' 83 (kst A.1 7 f), ⟨_, 0, rfl, Nat.zero_le _, rfl, rfl, rfl, mt13, A.1 7, by rw [kst_self]; exact hm13⟩, ?_⟩
    rintro N x14 x15 x16 s' ⟨i, rfl, hi, hN, rfl, rfl, hmt, f, hrm⟩
    have hfi := fw_in hC (nB A.1) i
    have e2 : s' 83 (Int32.toNatClampNeg 1) = I (nB A.1 : Nat) := (hrm.1 1 (by decide)).trans (by rw [kst_ne (by decide), en])
    rw [e2, es]
    refine ⟨vi, fun q => ?_, fun q => ?_⟩
    · have q : i = 4 ^ nB A.1 := by
        revert q
        simp (disch := (first | omega | (unfold inr; omega))) only [I_lit, I_nI, I_neg, I_add, I_sub, I_mul, I_div, I_le, I_lt, I_eq, I_clamp, I_clampN, I_vin]
        omega
      refine hmt.end hR1 ?_
      intro s22 hR22 _
      exact ⟨by rw [h2 z, q], hR22⟩
    · have q : i < 4 ^ nB A.1 := by
        revert q
        simp (disch := (first | omega | (unfold inr; omega))) only [I_lit, I_nI, I_neg, I_add, I_sub, I_mul, I_div, I_le, I_lt, I_eq, I_clamp, I_clampN, I_vin]
        omega
      refine m_pose hC hmt hrm ?_
      intro s25 hmt25 hm25
      have hC5 := CC_kpo hC (nB A.1) (I (i : Nat))
      have hin5 := HK_in hC5.1 hC5.2.2.1
      have hn5 := nB_le hC5.1
      refine m_tab hC5.1 hC5.2.2.1 hm25 hmt25.2.2.2 ?_
      intro s30 hkg ht hh h18
      have hm30 : RM s30 83 (kpo A.1 (nB A.1) (I (i : Nat))) := RM_ext (fun j => hkg.1 83 j (by decide) (by decide) (by decide)) hm25
      refine sp_bits ?_
      rw [hh.1, pop_HK hC5, show (I (fwF A.1 (nB A.1) i).1 < I (HK (kpo A.1 (nB A.1) (I (i : Nat)))).2.1) ↔ (fwF A.1 (nB A.1) i).1 < (HK (kpo A.1 (nB A.1) (I (i : Nat)))).2.1 from by simp (disch := (first | omega | (unfold inr; omega))) only [I_lit, I_nI, I_neg, I_add, I_sub, I_mul, I_div, I_le, I_lt, I_eq, I_clamp, I_clampN, I_vin]]
      refine ⟨fun u v => u = (fwF A.1 (nB A.1) (i + 1)).2 ∧ v = I (fwF A.1 (nB A.1) (i + 1)).1, ?_, fun c => sp_bits ⟨?_, ?_⟩, fun c => ⟨?_, ?_⟩⟩
      · rintro u v ⟨rfl, rfl⟩ x36 h36
        refine ⟨4 ^ nB A.1 - (i + 1), by omega, i + 1, ?_, by omega, rfl, rfl, rfl, hmt25.kg hkg, _, hm30⟩
        rw [h36]
        simp (disch := (first | omega | (unfold inr; omega))) only [I_lit, I_nI, I_neg, I_add, I_sub, I_mul, I_div, I_le, I_lt, I_eq, I_clamp, I_clampN, I_vin]
        congr 1
      · rw [fwF_s, if_pos c]
      · rw [fwF_s, if_pos c]; exact pop_HK hC5
      · rw [fwF_s, if_neg c]
      · rw [fwF_s, if_neg c]
  unfold vc_Brt_firstWays
  intro x10 h10
  rw [show s 11 0 = I (A.1 9 1) from hR.1.1.1.2.1, ← en] at h10
  subst h10
  rw [e4]
  refine ⟨fun z => ?_, fun z => mod s _ hR (fun _ => rfl) (fun q => absurd q z)⟩
  obtain ⟨es, e256⟩ := shl_4 (nB A.1) (by omega)
  refine sp_become hk hR.1.1 (by omega) ?_
  intro s12 f12 hr12 x13 h13
  rw [es] at h13
  subst h13
  refine ⟨fun N x14 x15 x16 s' => ∃ i : Nat, x16 = I (i : Nat) ∧ i ≤ 4 ^ nB A.1 ∧ N = 4 ^ nB A.1 - i ∧ x15 = (fwF A.1 (nB A.1) i).2 ∧ x14 = I (fwF A.1 (nB A.1) i).1 ∧ KC s s' ∧ ∃ f, RC s' 35 (kst A.1 7 f), ⟨_, 0, rfl, Nat.zero_le _, rfl, rfl, rfl, KC_become f12, A.1 7, by rw [kst_self]; exact hr12⟩, ?_⟩
  rintro N x14 x15 x16 s' ⟨i, rfl, hi, hN, rfl, rfl, hkc, f, hrc⟩
  have hfi := fw_in hC (nB A.1) i
  constructor
  · intro q
    have q : i = 4 ^ nB A.1 := by
      revert q
      simp (disch := (first | omega | (unfold inr; omega))) only [I_lit, I_nI, I_neg, I_add, I_sub, I_mul, I_div, I_le, I_lt, I_eq, I_clamp, I_clampN, I_vin]
      omega
    exact mod s' _ (RR_KC hkc hR) (fun q2 => absurd z q2) (fun _ => by rw [q])
  · intro q
    have q : i < 4 ^ nB A.1 := by
      revert q
      simp (disch := (first | omega | (unfold inr; omega))) only [I_lit, I_nI, I_neg, I_add, I_sub, I_mul, I_div, I_le, I_lt, I_eq, I_clamp, I_clampN, I_vin]
      omega
    refine c_pose hC hkc hrc ?_
    intro s22 hkc22 hr22
    have hC5 := CC_kpo hC (nB A.1) (I (i : Nat))
    have hin5 := HK_in hC5.1 hC5.2.2.1
    have hn5 := nB_le hC5.1
    refine c_allReturn hC5.1 hC5.2.2.1 hr22 (by decide) ?_
    intro s24 hkl ht hh
    have hr24 : RC s24 35 (kpo A.1 (nB A.1) (I (i : Nat))) := RC_ext (fun q j hq => hkl _ _ (by omega)) hr22
    rw [show s24 55 1 = _ from hh.2.1, show (I (HK (kpo A.1 (nB A.1) (I (i : Nat)))).2.1 ≤ I (fwF A.1 (nB A.1) i).1) ↔ ¬ (fwF A.1 (nB A.1) i).1 < (HK (kpo A.1 (nB A.1) (I (i : Nat)))).2.1 from by
      simp (disch := (first | omega | (unfold inr; omega))) only [I_lit, I_nI, I_neg, I_add, I_sub, I_mul, I_div, I_le, I_lt, I_eq, I_clamp, I_clampN, I_vin]
      omega]
    refine ⟨fun u v => v = (fwF A.1 (nB A.1) (i + 1)).2 ∧ u = I (fwF A.1 (nB A.1) (i + 1)).1, ?_, fun c => ⟨?_, ?_⟩, fun c x31 h31 => ⟨?_, ?_⟩⟩
    · rintro u v ⟨rfl, rfl⟩ x28 h28
      refine ⟨4 ^ nB A.1 - (i + 1), by omega, i + 1, ?_, by omega, rfl, rfl, rfl, hkc22.tr hkl.kc, _, hr24⟩
      rw [h28]
      simp (disch := (first | omega | (unfold inr; omega))) only [I_lit, I_nI, I_neg, I_add, I_sub, I_mul, I_div, I_le, I_lt, I_eq, I_clamp, I_clampN, I_vin]
      congr 1
    · rw [fwF_s, if_neg c]
    · rw [fwF_s, if_neg c]
    · rw [fwF_s, if_pos (Decidable.not_not.mp c)]
    · rw [h31, fwF_s, if_pos (Decidable.not_not.mp c)]
