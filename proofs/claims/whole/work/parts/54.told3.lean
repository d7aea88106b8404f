-- makes
theorem sp_trait {s : St} {p : Nat} {k : Kv} (hk : CV k) (e : s p 0 = I (k 9 1)) (hb : ∀ b : Nat, (b : Int) < k 9 1 → s (p + 1) b = I (k 3 b) ∧ s (p + 3) b = I (k 5 b) ∧ s (p + 5) b = I (k 7 b)) {b w : Int} (hb2 : inr b) (hw : inr w) {Q : Int32 → Prop} (h : ∀ x, ((0 ≤ b ∧ b < k 9 1) → 0 ≤ w → w ≤ 2 → x = I (k (altA w) b.toNat)) → Q x) : vc_Bod_traitOf p (I b) (I w) s Q := by
  have a := hk.1
  have e0 : (I w = 0) ↔ w = 0 := by simp (disch := (first | omega | (unfold inr; omega))) only [I_lit, I_nI, I_neg, I_add, I_sub, I_mul, I_div, I_le, I_lt, I_eq, I_clamp, I_clampN, I_vin]
  have e1 : (I w = 1) ↔ w = 1 := by simp (disch := (first | omega | (unfold inr; omega))) only [I_lit, I_nI, I_neg, I_add, I_sub, I_mul, I_div, I_le, I_lt, I_eq, I_clamp, I_clampN, I_vin]
  have e2 : (I w = 2) ↔ w = 2 := by simp (disch := (first | omega | (unfold inr; omega))) only [I_lit, I_nI, I_neg, I_add, I_sub, I_mul, I_div, I_le, I_lt, I_eq, I_clamp, I_clampN, I_vin]
  unfold vc_Bod_traitOf
  refine has_ok (n := k 9 1) ⟨by omega, by omega⟩ e hb2 ?_
  rw [bi_f]
  constructor
  · intro z
    have z : 0 ≤ b ∧ b < k 9 1 := by simpa using z
    have hin : vp_in (I b) 6 := (I_vin hb2).mpr ⟨by omega, by omega⟩
    have hcl : (I b).toNatClampNeg = b.toNat := I_clamp (by omega) (by omega)
    obtain ⟨q1, q2, q3⟩ := hb b.toNat (by omega)
    rw [e0, e1, e2, hcl]
    refine ⟨fun c => ⟨hin, h _ (fun _ _ _ => ?_)⟩, fun c0 => ⟨fun c => ⟨hin, h _ (fun _ _ _ => ?_)⟩, fun c1 => ⟨fun c => ⟨hin, h _ (fun _ _ _ => ?_)⟩, fun c2 => h _ (fun _ _ _ => by omega)⟩⟩⟩
    · subst c; exact q2
    · subst c; exact q3
    · subst c; exact q1
  · intro z
    exact h _ (fun q => absurd q (of_decide_eq_false z))
theorem m_makes {s : St} {k : Kv} (hk : CV k) (hr : RM s 83 k) {b w v : Int} (hb : inr b) (hw : inr w) (hv : inr v) {Q : Int32 → St → Prop} (hno : ¬ ((0 ≤ b ∧ b < k 9 1) ∧ altOk w v) → Q (-1) s) (hyes : ((0 ≤ b ∧ b < k 9 1) ∧ altOk w v) → Q (I (k (altA w) b.toNat)) (wr s 83 (42 + 5 * b.toNat + (altA w - 3)) (I v))) : vc_Mod_makes (I b) (I w) (I v) s Q := by
  have a := hk.1
  have e0 : (I w = 0) ↔ w = 0 := by simp (disch := (first | omega | (unfold inr; omega))) only [I_lit, I_nI, I_neg, I_add, I_sub, I_mul, I_div, I_le, I_lt, I_eq, I_clamp, I_clampN, I_vin]
  have e1 : (I w = 1) ↔ w = 1 := by simp (disch := (first | omega | (unfold inr; omega))) only [I_lit, I_nI, I_neg, I_add, I_sub, I_mul, I_div, I_le, I_lt, I_eq, I_clamp, I_clampN, I_vin]
  have e2 : (I w = 2) ↔ w = 2 := by simp (disch := (first | omega | (unfold inr; omega))) only [I_lit, I_nI, I_neg, I_add, I_sub, I_mul, I_div, I_le, I_lt, I_eq, I_clamp, I_clampN, I_vin]
  unfold vc_Mod_makes
  refine isBody_ok hk hr hb ?_
  rw [bi_f]
  refine ⟨fun z => hno (fun q => (of_decide_eq_false z) q.1), fun z => ?_⟩
  have zb : 0 ≤ b ∧ b < k 9 1 := by simpa using z
  rw [show vc_Mod_isIn (I w) 0 2 = vc_Mod_isIn (I w) (I 0) (I 2) from rfl]
  refine sp_isIn hw ⟨by decide, by decide⟩ ⟨by decide, by decide⟩ ?_
  rw [bi_f, e0, e1, e2]
  refine ⟨fun z => hno (fun q => ?_), fun z => ?_⟩
  · have z := of_decide_eq_false z
    have := q.2
    unfold altOk at this
    omega
  · have z : 0 ≤ w ∧ w ≤ 2 := by simpa using z
    obtain ⟨b, rfl, hbn⟩ := nat_of zb
    have key : ∀ (lo hi : Int) (e : Nat), inr lo → inr hi → (altOk w v ↔ lo ≤ v ∧ v ≤ hi) → e = altA w - 3 → e < 5 → 3 ≤ altA w → ∀ J24 : Int32 → Prop, (∀ x23, J24 x23 → x23 = I (e : Int)) → ∀ P : Prop, (P ↔ ∀ x23, J24 x23 → vc_Mod_atBody (I (b : Int)) x23 (fun x25 => (vp_in x25 78 ∧ (∀ x28 : Int32, x28 = s 83 (Int32.toNatClampNeg x25) → (vp_in x25 78 ∧ (∀ s30 : St, s30 = wr s 83 (Int32.toNatClampNeg x25) (I v) → Q x28 s30)))))) → altOk w v → P := by
      intro lo hi e h1 h2 h3 he he5 hA J24 hJ P hP hok
      rw [hP]
      intro x23 hx23
      refine at_body (b := b) (by omega) he5 (hJ _ hx23) ?_
      have hin : vp_in (I ((42 + 5 * b + e : Nat) : Int)) 78 := I_vinN (by omega) (by decide)
      rw [I_clampN (by omega)]
      refine ⟨hin, fun x28 hx28 => ⟨hin, fun s30 hs30 => ?_⟩⟩
      rw [hx28, hs30, (hr.2.2 b hbn).1 e he5, he]
      have hh := hyes ⟨zb, hok⟩
      rw [Int.toNat_natCast] at hh
      rw [show 3 + (altA w - 3) = altA w by omega]
      exact hh
    have low : ∀ lo hi : Int, inr lo → inr hi → (altOk w v ↔ lo ≤ v ∧ v ≤ hi) → ∀ P : Prop, (altOk w v → P) → vc_Mod_isIn (I v) (I lo) (I hi) (fun b20 => ((¬ (bi b20) = 0 → P) ∧ ((bi b20) = 0 → Q (-1) s))) := by
      intro lo hi h1 h2 h3 P hP
      refine sp_isIn hv h1 h2 ?_
      rw [bi_f]
      refine ⟨fun q => hP (h3.mpr (by simpa using q)), fun q => hno (fun q2 => (of_decide_eq_false q) (h3.mp q2.2))⟩
    rcases (show w = 0 ∨ w = 1 ∨ w = 2 by omega) with rfl | rfl | rfl
    · refine ⟨fun x => x = 0, ?_, fun _ => rfl, fun c => absurd c (by decide)⟩
      rintro x rfl
      refine ⟨fun x => x = 9, ?_, fun c => absurd rfl c, fun _ => rfl⟩
      rintro x rfl
      refine low 0 9 ⟨by decide, by decide⟩ ⟨by decide, by decide⟩ (by unfold altOk; omega) _ (fun hok => ?_)
      refine ⟨fun x => x = 2, ?_, fun c => absurd rfl c, fun _ => rfl⟩
      exact key 0 9 2 ⟨by decide, by decide⟩ ⟨by decide, by decide⟩ (by unfold altOk; omega) (by decide) (by decide) (by decide) (fun x => x = 2) (fun x hx => hx) _ Iff.rfl hok
    · refine ⟨fun x => x = 0, ?_, fun _ => rfl, fun c => absurd c (by decide)⟩
      rintro x rfl
      refine ⟨fun x => x = 3, ?_, fun _ => ⟨fun c => absurd rfl c, fun _ => rfl⟩, fun c => absurd c (by decide)⟩
      rintro x rfl
      refine low 0 3 ⟨by decide, by decide⟩ ⟨by decide, by decide⟩ (by unfold altOk; omega) _ (fun hok => ?_)
      refine ⟨fun x => x = 4, ?_, fun _ => ⟨fun c => absurd rfl c, fun _ => rfl⟩, fun c => absurd c (by decide)⟩
      exact key 0 3 4 ⟨by decide, by decide⟩ ⟨by decide, by decide⟩ (by unfold altOk; omega) (by decide) (by decide) (by decide) (fun x => x = 4) (fun x hx => hx) _ Iff.rfl hok
    · refine ⟨fun x => x = 10, ?_, fun c => absurd rfl c, fun _ => rfl⟩
      rintro x rfl
      refine ⟨fun x => x = 50, ?_, fun _ => ⟨fun _ => rfl, fun c => absurd c (by decide)⟩, fun c => absurd c (by decide)⟩
      rintro x rfl
      refine low 10 50 ⟨by decide, by decide⟩ ⟨by decide, by decide⟩ (by unfold altOk; omega) _ (fun hok => ?_)
      refine ⟨fun x => x = 0, ?_, fun _ => ⟨fun _ => rfl, fun c => absurd c (by decide)⟩, fun c => absurd c (by decide)⟩
      exact key 10 50 0 ⟨by decide, by decide⟩ ⟨by decide, by decide⟩ (by unfold altOk; omega) (by decide) (by decide) (by decide) (fun x => x = 0) (fun x hx => hx) _ Iff.rfl hok
theorem e_makes {s : St} {A : Ab} (hR : RR s A) (x y z : Int32) : vc_Brt_makes x y z s (fun r s1 => vc_Mod_makes x y z s1 (fun r' s2 => r = r' ∧ ∃ A', RR s2 A')) := by
  obtain ⟨b, hb, rfl⟩ := I_of x
  obtain ⟨w, hw, rfl⟩ := I_of y
  obtain ⟨v, hv, rfl⟩ := I_of z
  have hC := hR.2.2.1
  have hrc := hR.1.1
  have hrm := hR.2.1.1
  have a := hC.1.1
  have e11 : s 11 0 = I (A.1 9 1) := hrc.1.2.1
  unfold vc_Brt_makes
  refine sp_trait hC.1 e11 (fun b hb => ⟨(hrc.2.2 b hb).1, (hrc.2.2 b hb).2.2.1, (hrc.2.2 b hb).2.2.2.2.1⟩) hb hw ?_
  intro x10 hx10
  refine op_alter (n := A.1 9 1) ⟨by omega, by omega⟩ e11 hb hw hv (fun hno => ?_) (fun hyes => ?_)
  · refine ⟨fun q => absurd rfl q, fun _ => ?_⟩
    exact m_makes hC.1 hrm hb hw hv (fun _ => ⟨rfl, A, hR⟩) (fun q => absurd q hno)
  · refine ⟨fun _ => ?_, fun q => absurd q (by decide)⟩
    unfold vc_Best_forget
    intro s1 hs1
    have hA : altA w = 3 ∨ altA w = 5 ∨ altA w = 7 := by unfold altA; repeat' split
                                                         all_goals omega
    have f1 : ∀ p j, (p < 12 ∨ 17 < p) → p ≠ 58 → s1 p j = s p j := fun p j h1 h2 => by rw [hs1, wr_ne h2, wr_ne (by omega)]
    have hc1 : RC s1 1 (ku A.1 (altA w) b.toNat v) := by
      have := RC_put hrc (a := altA w) (b := b.toNat) (by omega) (v := v)
      refine RC_ext (fun q i hq => ?_) this
      rw [hs1, wr_ne (by omega), show 11 + (altA w - 2) = 1 + 8 + altA w by omega]
    have hm1 : RM s1 83 A.1 := RM_ext (fun j => f1 83 j (by decide) (by decide)) hrm
    have hok2 := hyes.2
    refine m_makes hC.1 hm1 hb hw hv (fun q => absurd hyes q) (fun _ => ?_)
    refine ⟨hx10 hyes.1 (by unfold altOk at hok2; omega) (by unfold altOk at hok2; omega), _, RR_new hR (CC_put hC (a := altA w) (b := b.toNat) (v := v) ?_) (fun p i hp => f1 p i (by omega) (by omega)) (by rw [hs1]; exact wr_at) hc1 (fun p i hp => wr_ne (by omega)) (wr_ne (by decide)) ?_⟩
    · unfold altOk at hok2
      unfold altA
      rcases hok2 with q | q | q
      · rw [if_pos q.1]; omega
      · rw [if_neg (by omega), if_pos q.1]; omega
      · rw [if_neg (by omega), if_neg (by omega)]; omega
    · exact RM_put hm1 ⟨by omega, by omega⟩ (by omega) (by omega) wr_at (fun i hi => by simp [wr, hi])
-- change
theorem m_changes {s : St} {k : Kv} (hk : CC k) (hr : RM s 83 k) {a b : Nat} (ha : (a : Int) < k 9 1) (hb : (b : Int) < k 9 1) (hab : a ≠ b) {Q : St → Prop} (hQ : ∀ s', (∀ p j, p ≠ 83 → s' p j = s p j) → RM s' 83 (swapK k a b) → Q s') : vc_Mod_changes (I a) (I b) s Q := by
  have a1 := hk.1.1
  obtain ⟨i, hi, ei⟩ := hk.2.2.2.2 a ha
  obtain ⟨j, hj, ej⟩ := hk.2.2.2.2 b hb
  have hij : i ≠ j := by
    intro e
    subst e
    omega
  unfold vc_Mod_changes
  refine m_place hk.1 hk.2.2.1 hk.2.2.2.1 hr ha hi ei ?_
  refine m_place hk.1 hk.2.2.1 hk.2.2.2.1 hr hb hj ej ?_
  have e72 : ∀ i : Nat, (72 : Int32) + I i = I ((72 + i : Nat) : Int) := fun i => by
    simp (disch := (first | omega | (unfold inr; omega))) only [I_lit, I_nI, I_neg, I_add, I_sub, I_mul, I_div, I_le, I_lt, I_eq, I_clamp, I_clampN, I_vin]
    congr 1
  rw [e72, e72, I_clampN (by omega), I_clampN (by omega)]
  refine ⟨I_vinN (by omega) (by decide), ?_⟩
  intro s15 hs15
  refine ⟨I_vinN (by omega) (by decide), ?_⟩
  intro s17 hs17
  have w0 : ∀ n, n ≠ 72 + i → n ≠ 72 + j → s17 83 n = s 83 n := by
    intro n h1 h2
    rw [hs17, hs15]
    simp [wr, h1, h2]
  have wi : s17 83 (72 + i) = I (b : Int) := by
    rw [hs17, hs15]
    simp [wr, hij]
  have wj : s17 83 (72 + j) = I (a : Int) := by
    rw [hs17]
    exact wr_at
  refine hQ s17 (fun p n hp => by rw [hs17, wr_ne hp, hs15, wr_ne hp]) ⟨fun x hx => ?_, fun y hy w hw => ?_, fun d hd => ⟨fun w hw => ?_, ?_⟩⟩
  · rw [w0 _ (by omega) (by omega), swapK_ne (by decide)]; exact hr.1 x hx
  · rw [swapK_ne (by decide)] at hy
    rw [w0 _ (by omega) (by omega), swapK_ne (by omega)]; exact hr.2.1 y hy w hw
  · rw [swapK_ne (by decide)] at hd
    rw [w0 _ (by omega) (by omega), swapK_ne (by omega)]; exact (hr.2.2 d hd).1 w hw
  · rw [swapK_ne (by decide)] at hd
    rw [swapK_8 hd]
    by_cases c1 : d = i
    · subst c1
      rw [wi, if_pos ei]
    · by_cases c2 : d = j
      · subst c2
        rw [wj, if_neg (by omega), if_pos ej]
      · rw [w0 _ (by omega) (by omega), if_neg (fun q => c1 (hk.2.2.2.1 d i hd hi (q.trans ei.symm))), if_neg (fun q => c2 (hk.2.2.2.1 d j hd hj (q.trans ej.symm)))]
        exact (hr.2.2 d hd).2
theorem e_change {s : St} {A : Ab} (hR : RR s A) (x y : Int32) : vc_Brt_change x y s (fun r s1 => vc_Mod_change x y s1 (fun r' s2 => r = r' ∧ ∃ A', RR s2 A')) := by
  obtain ⟨a, ha, rfl⟩ := I_of x
  obtain ⟨b, hb, rfl⟩ := I_of y
  have hC := hR.2.2.1
  have hrc := hR.1.1
  have hrm := hR.2.1.1
  have a1 := hC.1.1
  have mod : ∀ (s1 : St) (Q : Int32 → St → Prop), RM s1 83 A.1 → (¬ ((0 ≤ a ∧ a < A.1 9 1) ∧ (0 ≤ b ∧ b < A.1 9 1) ∧ a ≠ b) → Q (-1) s1) → (((0 ≤ a ∧ a < A.1 9 1) ∧ (0 ≤ b ∧ b < A.1 9 1) ∧ a ≠ b) → vc_Mod_changes (I a) (I b) s1 (fun s17 => vc_Mod_placeOf (I a) s17 (fun x18 => Q x18 s17))) → vc_Mod_change (I a) (I b) s1 Q := by
    intro s1 Q hm hno hyes
    unfold vc_Mod_change
    refine isBody_ok hC.1 hm ha ?_
    rw [bi_f]
    refine ⟨fun z => hno (fun q => (of_decide_eq_false z) q.1), fun z => ?_⟩
    have z : 0 ≤ a ∧ a < A.1 9 1 := by simpa using z
    refine isBody_ok hC.1 hm hb ?_
    rw [bi_f, I_eq ha hb]
    refine ⟨fun z => hno (fun q => (of_decide_eq_false z) q.2.1), fun z2 => ?_⟩
    have z2 : 0 ≤ b ∧ b < A.1 9 1 := by simpa using z2
    exact ⟨fun c => hyes ⟨z, z2, c⟩, fun c => hno (fun q => q.2.2 c)⟩
  unfold vc_Brt_change
  refine op_swap (c := 1) hC hrc ha hb (fun hno => ?_) (fun hyes s1 f1 hc1 => ?_)
  · refine ⟨fun q => absurd rfl q, fun _ => ?_⟩
    exact mod s _ hrm (fun _ => ⟨rfl, A, hR⟩) (fun q => absurd q hno)
  · refine ⟨fun _ => ?_, fun q => absurd q (by decide)⟩
    unfold vc_Best_forget
    intro s2 hs2
    have f2 : ∀ p j, p ≠ 17 → p ≠ 58 → s2 p j = s p j := fun p j h1 h2 => by rw [hs2, wr_ne h2]; exact f1 p j h1
    have hm2 : RM s2 83 A.1 := RM_ext (fun j => f2 83 j (by decide) (by decide)) hrm
    obtain ⟨za, zb, zab⟩ := id hyes
    obtain ⟨a, rfl, ha1⟩ := nat_of za
    obtain ⟨b, rfl, hb1⟩ := nat_of zb
    simp only [Int.toNat_natCast] at hc1
    have hab : a ≠ b := fun q => zab (by rw [q])
    have hC2 : CC (swapK A.1 a b) := CC_swap hC ha1 hb1 hab
    obtain ⟨j, hj, ej⟩ := hC.2.2.2.2 b hb1
    have n9 : swapK A.1 a b 9 1 = A.1 9 1 := swapK_ne (by decide)
    have ej2 : swapK A.1 a b 8 j = (a : Nat) := by
      rw [swapK_8 hj, if_neg (by omega), if_pos ej]
    have hc2 : RC s2 1 (swapK A.1 a b) := RC_ext (fun q i hq => by rw [hs2]; exact wr_ne (by omega)) hc1
    refine c_place (p := 11) (n := (A.1 9 1).toNat) (k := swapK A.1 a b) (by rw [n9]; omega) (by omega) hC2.2.2.1 hC2.2.2.2.1 (hc2.1.2.1.trans (by rw [n9]; congr 1; omega)) (fun i hi => (hc2.2.2 i hi).2.2.2.2.2) (b := a) (j0 := j) (by rw [n9]; exact ha1) (by rw [n9]; exact hj) ej2 ?_
    refine mod s2 _ hm2 (fun q => absurd hyes q) (fun _ => ?_)
    refine m_changes hC hm2 ha1 hb1 hab ?_
    intro s3 f3 hm3
    refine m_place hC2.1 hC2.2.2.1 hC2.2.2.2.1 hm3 (b := a) (j0 := j) (by rw [n9]; exact ha1) (by rw [n9]; exact hj) ej2 ?_
    exact ⟨rfl, _, RR_new hR hC2 (fun p i hp => f2 p i (by omega) (by omega)) (by rw [hs2]; exact wr_at) hc2 (fun p i hp => f3 p i (by omega)) (f3 82 3 (by decide)) hm3⟩
