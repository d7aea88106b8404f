-- set
theorem sp_setting {s : St} {k : Kv} (hr : RC s 1 k) {w : Int} (hw : inr w) {Q : Int32 → Prop} (h : ∀ x, (∀ j : Nat, (j : Int) = 3 + w → 3 ≤ j → j < 6 → x = I (k 9 j)) → Q x) : vc_Cav_settingOf 1 (I w) s Q := by
  have e0 : (I w = 0) ↔ w = 0 := by simp (disch := (first | omega | (unfold inr; omega))) only [I_lit, I_nI, I_neg, I_add, I_sub, I_mul, I_div, I_le, I_lt, I_eq, I_clamp, I_clampN, I_vin]
  have e1 : (I w = 1) ↔ w = 1 := by simp (disch := (first | omega | (unfold inr; omega))) only [I_lit, I_nI, I_neg, I_add, I_sub, I_mul, I_div, I_le, I_lt, I_eq, I_clamp, I_clampN, I_vin]
  have e2 : (I w = 2) ↔ w = 2 := by simp (disch := (first | omega | (unfold inr; omega))) only [I_lit, I_nI, I_neg, I_add, I_sub, I_mul, I_div, I_le, I_lt, I_eq, I_clamp, I_clampN, I_vin]
  unfold vc_Cav_settingOf
  rw [e0, e1, e2]
  obtain ⟨r1, r2, r3, r4, r5, r6⟩ := hr.1
  refine ⟨fun z => h _ (fun j hj h3 h6 => ?_), fun z0 => ⟨fun z => h _ (fun j hj h3 h6 => ?_), fun z1 => ⟨fun z => h _ (fun j hj h3 h6 => ?_), fun z2 => h _ (fun j hj h3 h6 => ?_)⟩⟩⟩
  · have : j = 3 := by omega
    subst this; exact r4
  · have : j = 4 := by omega
    subst this; exact r5
  · have : j = 5 := by omega
    subst this; exact r6
  · exfalso
    omega
theorem m_set {s : St} {k : Kv} (hr : RM s 83 k) {w v : Int} (hw : inr w) (hv : inr v) {Q : Int32 → St → Prop} (hno : ¬ adjOk w v → Q (-1) s) (hyes : adjOk w v → ∀ j : Nat, (j : Int) = 3 + w → j < 6 → Q (I (k 9 j)) (wr s 83 j (I v))) : vc_Mod_set (I w) (I v) s Q := by
  have e0 : (I w = 0) ↔ w = 0 := by simp (disch := (first | omega | (unfold inr; omega))) only [I_lit, I_nI, I_neg, I_add, I_sub, I_mul, I_div, I_le, I_lt, I_eq, I_clamp, I_clampN, I_vin]
  have e1 : (I w = 1) ↔ w = 1 := by simp (disch := (first | omega | (unfold inr; omega))) only [I_lit, I_nI, I_neg, I_add, I_sub, I_mul, I_div, I_le, I_lt, I_eq, I_clamp, I_clampN, I_vin]
  unfold vc_Mod_set
  rw [show vc_Mod_isIn (I w) 0 2 = vc_Mod_isIn (I w) (I 0) (I 2) from rfl]
  refine sp_isIn hw ⟨by decide, by decide⟩ ⟨by decide, by decide⟩ ?_
  rw [bi_f, e0, e1]
  refine ⟨fun z => hno (fun q => ?_), fun z => ?_⟩
  · have z := of_decide_eq_false z
    unfold adjOk at q
    omega
  · have z : 0 ≤ w ∧ w ≤ 2 := by simpa using z
    have key : ∀ lo hi : Int, inr lo → inr hi → (adjOk w v ↔ lo ≤ v ∧ v ≤ hi) → vc_Mod_isIn (I v) (I lo) (I hi) (fun b17 => ((¬ (bi b17) = 0 → (vp_in (3 + I w) 78 ∧ (∀ x21 : Int32, x21 = s 83 (Int32.toNatClampNeg (3 + I w)) → (vp_in (3 + I w) 78 ∧ (∀ s23 : St, s23 = wr s 83 (Int32.toNatClampNeg (3 + I w)) (I v) → Q x21 s23))))) ∧ ((bi b17) = 0 → Q (-1) s))) := by
      intro lo hi h1 h2 h3
      refine sp_isIn hv h1 h2 ?_
      rw [bi_f]
      refine ⟨fun q => ?_, fun q => hno (fun q2 => (of_decide_eq_false q) (h3.mp q2))⟩
      have q : lo ≤ v ∧ v ≤ hi := by simpa using q
      obtain ⟨j, hj⟩ : ∃ j : Nat, (j : Int) = 3 + w := ⟨(3 + w).toNat, by omega⟩
      have ej : (3 : Int32) + I w = I (j : Int) := by
        rw [hj]
        simp (disch := (first | omega | (unfold inr; omega))) only [I_lit, I_nI, I_neg, I_add, I_sub, I_mul, I_div, I_le, I_lt, I_eq, I_clamp, I_clampN, I_vin]
      have hin : vp_in (I (j : Int)) 78 := I_vinN (by omega) (by decide)
      rw [ej, I_clampN (by omega)]
      refine ⟨hin, ?_⟩
      intro x21 hx21
      refine ⟨hin, ?_⟩
      intro s23 hs23
      rw [hx21, hs23, hr.1 j (by omega)]
      exact hyes (h3.mpr q) j hj (by omega)
    rcases (show w = 0 ∨ w = 1 ∨ w = 2 by omega) with rfl | rfl | rfl
    · refine ⟨fun x => x = 0, ?_, fun _ => rfl, fun c => absurd c (by decide)⟩
      rintro x rfl
      refine ⟨fun x => x = 9, ?_, fun c => absurd rfl c, fun _ => rfl⟩
      rintro x rfl
      exact key 0 9 ⟨by decide, by decide⟩ ⟨by decide, by decide⟩ (by unfold adjOk; omega)
    · refine ⟨fun x => x = 1, ?_, fun c => absurd rfl c, fun _ => rfl⟩
      rintro x rfl
      refine ⟨fun x => x = 60, ?_, fun _ => ⟨fun c => absurd rfl c, fun _ => rfl⟩, fun c => absurd c (by decide)⟩
      rintro x rfl
      exact key 1 60 ⟨by decide, by decide⟩ ⟨by decide, by decide⟩ (by unfold adjOk; omega)
    · refine ⟨fun x => x = 0, ?_, fun _ => rfl, fun c => absurd c (by decide)⟩
      rintro x rfl
      refine ⟨fun x => x = 999, ?_, fun _ => ⟨fun _ => rfl, fun c => absurd c (by decide)⟩, fun c => absurd c (by decide)⟩
      rintro x rfl
      exact key 0 999 ⟨by decide, by decide⟩ ⟨by decide, by decide⟩ (by unfold adjOk; omega)
theorem e_set {s : St} {A : Ab} (hR : RR s A) (x y : Int32) : vc_Brt_set x y s (fun r s1 => vc_Mod_set x y s1 (fun r' s2 => r = r' ∧ ∃ A', RR s2 A')) := by
  obtain ⟨w, hw, rfl⟩ := I_of x
  obtain ⟨v, hv, rfl⟩ := I_of y
  have hC := hR.2.2.1
  have hrc := hR.1.1
  have hrm := hR.2.1.1
  unfold vc_Brt_set
  refine sp_setting hrc hw ?_
  intro x10 hx10
  refine op_adjust hw hv (fun hno => ?_) (fun hyes j hj => ?_)
  · refine ⟨fun q => absurd rfl q, fun _ => ?_⟩
    exact m_set hrm hw hv (fun _ => ⟨rfl, A, hR⟩) (fun q => absurd q hno)
  · refine ⟨fun _ => ?_, fun q => absurd q (by decide)⟩
    unfold vc_Best_forget
    intro s1 hs1
    have f1 : ∀ p j, p ≠ 1 → p ≠ 58 → s1 p j = s p j := fun p j h1 h2 => by rw [hs1, wr_ne h2, wr_ne h1]
    have hw2 : 0 ≤ w ∧ w ≤ 2 := by unfold adjOk at hyes; omega
    have hc1 : RC s1 1 (ku A.1 9 (j + 1) v) := by
      have := RC_sc hrc (i := j + 1) (j := j) (by omega) (v := v)
      exact RC_ext (fun q i hq => by rw [hs1]; exact wr_ne (by omega)) this
    have hm1 : RM s1 83 A.1 := RM_ext (fun j => f1 83 j (by decide) (by decide)) hrm
    refine m_set hm1 hw hv (fun q => absurd hyes q) (fun _ i hi h6 => ?_)
    have ei : i = j + 1 := by omega
    subst ei
    refine ⟨hx10 _ hi (by omega) h6, _, RR_new hR (CC_sc hC (i := j + 1) (v := v) ?_) (fun p i hp => f1 p i (by omega) (by omega)) (by rw [hs1]; exact wr_at) hc1 (fun p i hp => wr_ne (by omega)) (wr_ne (by decide)) ?_⟩
    · unfold adjOk at hyes
      omega
    · exact RM_sc hm1 h6 (Or.inl (by omega)) wr_at (fun i hi => by simp [wr, hi])
-- waits
theorem e_waits {s : St} {A : Ab} (hR : RR s A) (x : Int32) : vc_Brt_waits x s (fun r s1 => vc_Mod_waits x s1 (fun r' s2 => r = r' ∧ ∃ A', RR s2 A')) := by
  obtain ⟨n, hn, rfl⟩ := I_of x
  have hC := hR.2.2.1
  have hrc := hR.1.1
  have hrm := hR.2.1.1
  have a2 := hC.1.2.1
  have a9 := hC.2.1
  have c2 : Int32.toNatClampNeg 2 = 2 := rfl
  have vi : vp_in (2 : Int32) 78 := v_in (a := 2) ⟨by decide, by decide⟩ (by decide) rfl
  have w0 : vc_Brt_within (I n) 0 99 = vc_Brt_within (I n) (I 0) (I 99) := rfl
  have w1 : vc_Mod_isIn (I n) 0 99 = vc_Mod_isIn (I n) (I 0) (I 99) := rfl
  have es : s 1 5 = I (A.1 9 2) := hrc.1.2.2.1
  have em : s 83 2 = I (A.1 9 2) := hrm.1 2 (by decide)
  unfold vc_Brt_waits
  rw [w0]
  refine sp_within hn ⟨by decide, by decide⟩ ⟨by decide, by decide⟩ ?_
  rw [bi_f]
  constructor
  · intro z
    have z : 0 ≤ n ∧ n ≤ 99 := by simpa using z
    have ea : I (A.1 9 2) + I n = I (A.1 9 2 + n) := by simp (disch := (first | omega | (unfold inr; omega))) only [I_lit, I_nI, I_neg, I_add, I_sub, I_mul, I_div, I_le, I_lt, I_eq, I_clamp, I_clampN, I_vin]
    have el : (I (A.1 9 2 + n) ≤ 9999) ↔ A.1 9 2 + n ≤ 9999 := by simp (disch := (first | omega | (unfold inr; omega))) only [I_lit, I_nI, I_neg, I_add, I_sub, I_mul, I_div, I_le, I_lt, I_eq, I_clamp, I_clampN, I_vin]
    have mod : ∀ (s1 : St) (r : Int32), s1 83 2 = I (A.1 9 2) → (¬ A.1 9 2 + n ≤ 9999 → r = -3 ∧ ∃ A', RR s1 A') → (A.1 9 2 + n ≤ 9999 → r = I (A.1 9 2 + n) ∧ ∃ A', RR (wr s1 83 2 (I (A.1 9 2 + n))) A') → vc_Mod_waits (I n) s1 (fun r' s2 => r = r' ∧ ∃ A', RR s2 A') := by
      intro s1 r h1 h2 h3
      unfold vc_Mod_waits
      rw [w1]
      refine sp_isIn hn ⟨by decide, by decide⟩ ⟨by decide, by decide⟩ ?_
      rw [bi_f, c2, h1, ea, el]
      refine ⟨fun _ => ⟨vi, fun q => ⟨vi, vi, fun s17 hs17 => ⟨vi, ?_⟩⟩, h2⟩, fun q => by simp at q; omega⟩
      rw [hs17]
      exact ⟨(h3 q).1.trans wr_at.symm, (h3 q).2⟩
    unfold vc_Cav_goOn
    rw [es, ea, el]
    refine ⟨fun q s11 hs11 => ⟨fun _ => ?_, fun q => absurd q (by decide)⟩, fun q => ⟨fun q2 => absurd rfl q2, fun _ => ?_⟩⟩
    · unfold vc_Best_forget
      intro s1 hs1
      have f1 : ∀ p j, p ≠ 1 → p ≠ 58 → s1 p j = s p j := fun p j h1 h2 => by rw [hs1, wr_ne h2, hs11, wr_ne h1]
      have hc1 : RC s1 1 (ku A.1 9 2 (A.1 9 2 + n)) := by
        have := RC_sc hrc (i := 2) (j := 5) (by omega) (v := A.1 9 2 + n)
        exact RC_ext (fun q i hq => by rw [hs1, hs11]; exact wr_ne (by omega)) this
      have hm1 : RM s1 83 A.1 := RM_ext (fun j => f1 83 j (by decide) (by decide)) hrm
      refine mod s1 _ (hm1.1 2 (by decide)) (fun q2 => absurd q q2) (fun _ => ⟨?_, _, RR_new hR (CC_sc hC (i := 2) (v := A.1 9 2 + n) (by omega)) (fun p i hp => f1 p i (by omega) (by omega)) (by rw [hs1]; exact wr_at) hc1 (fun p i hp => wr_ne (by omega)) (wr_ne (by decide)) ?_⟩)
      · rw [hs1, wr_ne (by decide), hs11, wr_at]
      · exact RM_sc hm1 (by decide) (Or.inl (by omega)) wr_at (fun i hi => by simp [wr, hi])
    · exact mod s _ em (fun _ => ⟨rfl, A, hR⟩) (fun q2 => absurd q2 q)
  · intro z
    unfold vc_Mod_waits
    rw [w1]
    refine sp_isIn hn ⟨by decide, by decide⟩ ⟨by decide, by decide⟩ ?_
    rw [bi_f]
    exact ⟨fun q => absurd z q, fun _ => ⟨rfl, A, hR⟩⟩
