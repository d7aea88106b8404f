/-! SHELVES -/
theorem shp_I {d : Nat} (h : d < 8) : shp (I (d : Int)) = 66 + 2 * d := by
  unfold shp
  rw [I_clampN (by omega)]
def isSh (d : Int) : Prop := 0 ≤ d ∧ d ≤ 7
/-- the refusal where something of one sort is wanted (1 a KIND, 2 a ROW) -/
def refZ (sh : Nat → Nat → Int) (w d : Int) : Int := if 0 ≤ d ∧ d ≤ 7 then (if sh d.toNat 0 = 0 then -11 else if sh d.toNat 0 = w then 0 else -12) else -1
theorem isSh_c {d : Int} (hd : inr d) {Q : Bool → Prop} (h : Q (decide (0 ≤ d ∧ d ≤ 7))) : vc_Brt_isShelf (I d) Q := by
  unfold vc_Brt_isShelf
  rw [show vc_Brt_within (I d) 0 7 = vc_Brt_within (I d) (I 0) (I 7) from rfl]
  exact sp_within hd ⟨by decide, by decide⟩ ⟨by decide, by decide⟩ h
theorem isSh_m {d : Int} (hd : inr d) {Q : Bool → Prop} (h : Q (decide (0 ≤ d ∧ d ≤ 7))) : vc_Mod_isShelf (I d) Q := by
  unfold vc_Mod_isShelf
  rw [show vc_Mod_isIn (I d) 0 7 = vc_Mod_isIn (I d) (I 0) (I 7) from rfl]
  exact sp_isIn hd ⟨by decide, by decide⟩ ⟨by decide, by decide⟩ h
theorem ref_in (sh : Nat → Nat → Int) (w d : Int) : refZ sh w d = -1 ∨ refZ sh w d = -11 ∨ refZ sh w d = -12 ∨ refZ sh w d = 0 := by
  unfold refZ
  repeat' split
  all_goals simp
theorem ref_0 {sh : Nat → Nat → Int} {w d : Int} (hw : w = 1 ∨ w = 2) : refZ sh w d = 0 ↔ (0 ≤ d ∧ d ≤ 7) ∧ sh d.toNat 0 = w := by
  unfold refZ
  repeat' split
  all_goals omega
theorem c_ref {s : St} {sh : Nat → Nat → Int} {sc : Nat → Nat → Int32} (hs : ∀ d, d < 8 → ShC s sh sc d) (hv : ∀ d, d < 8 → ShV sh sc d) {w d : Int} (hd : inr d) (hw : w = 1 ∨ w = 2) {Q : Int32 → Prop} (h : Q (I (refZ sh w d))) : vc_Brt_refusalUnless (I d) (I w) s Q := by
  unfold vc_Brt_refusalUnless
  refine isSh_c hd ?_
  rw [bi_f]
  unfold refZ at h
  constructor
  · intro z
    have z : 0 ≤ d ∧ d ≤ 7 := by simpa using z
    rw [if_pos z] at h
    obtain ⟨d, rfl, hd8⟩ := nat_of (n := 8) ⟨z.1, by omega⟩
    rw [Int.toNat_natCast] at h
    have hS := (hs d (by omega)).1
    have hV := (hv d (by omega)).1
    rw [shp_I (by omega), hS]
    have hin : vp_in (I (d : Int)) 8 := I_vinN (by omega) (by decide)
    have e0 : (I (sh d 0) = 0) ↔ sh d 0 = 0 := by simp (disch := (first | omega | (unfold inr; omega))) only [I_lit, I_nI, I_neg, I_add, I_sub, I_mul, I_div, I_le, I_lt, I_eq, I_clamp, I_clampN, I_vin]
    have ew : (I (sh d 0) = I w) ↔ sh d 0 = w := by simp (disch := (first | omega | (unfold inr; omega))) only [I_lit, I_nI, I_neg, I_add, I_sub, I_mul, I_div, I_le, I_lt, I_eq, I_clamp, I_clampN, I_vin]
    rw [e0, ew]
    refine ⟨hin, fun c => ⟨hin, fun c2 => ?_, fun c2 => ?_⟩, fun c => ?_⟩
    · rw [if_neg c, if_neg c2] at h; exact h
    · rw [if_neg c, if_pos c2] at h; exact h
    · rw [if_pos c] at h; exact h
  · intro z
    have z := of_decide_eq_false z
    rw [if_neg z] at h
    exact h
theorem c_refK {s : St} {A : Ab} (hR : RR s A) {d : Int} (hd : inr d) {Q : Int32 → Prop} (h : Q (I (refZ A.2.2.2.1 1 d))) : vc_Brt_refusalOfKind (I d) s Q := c_ref hR.1.2.2.2.1 hR.2.2.2.2 hd (Or.inl rfl) h
theorem c_refR {s : St} {A : Ab} (hR : RR s A) {d : Int} (hd : inr d) {Q : Int32 → Prop} (h : Q (I (refZ A.2.2.2.1 2 d))) : vc_Brt_refusalOfRow (I d) s Q := c_ref hR.1.2.2.2.1 hR.2.2.2.2 hd (Or.inr rfl) h
theorem m_refK {s : St} {sh : Nat → Nat → Int} {sc : Nat → Nat → Int32} (hs : ∀ d, d < 8 → ShM s sh sc d) (hv : ∀ d, d < 8 → ShV sh sc d) {d : Int} (hd : inr d) {Q : Int32 → Prop} (h : Q (I (refZ sh 1 d))) : vc_Mod_wrongKept (I d) s Q := by
  unfold vc_Mod_wrongKept
  refine isSh_m hd ?_
  rw [bi_f]
  unfold refZ at h
  constructor
  · intro z
    have z : 0 ≤ d ∧ d ≤ 7 := by simpa using z
    rw [if_pos z] at h
    obtain ⟨d, rfl, hd8⟩ := nat_of (n := 8) ⟨z.1, by omega⟩
    rw [Int.toNat_natCast] at h
    have hS := (hs d (by omega)).1
    have hV := (hv d (by omega)).1
    rw [I_clampN (by omega), hS]
    have hin : vp_in (I (d : Int)) 8 := I_vinN (by omega) (by decide)
    have e0 : (I (sh d 0) = 0) ↔ sh d 0 = 0 := by simp (disch := (first | omega | (unfold inr; omega))) only [I_lit, I_nI, I_neg, I_add, I_sub, I_mul, I_div, I_le, I_lt, I_eq, I_clamp, I_clampN, I_vin]
    have ew : (I (sh d 0) = 2) ↔ sh d 0 = 2 := by simp (disch := (first | omega | (unfold inr; omega))) only [I_lit, I_nI, I_neg, I_add, I_sub, I_mul, I_div, I_le, I_lt, I_eq, I_clamp, I_clampN, I_vin]
    rw [e0, ew]
    refine ⟨hin, fun c => ⟨hin, fun c2 => ?_, fun c2 => ?_⟩, fun c => ?_⟩
    · rw [if_neg c, if_pos (by omega)] at h; exact h
    · rw [if_neg c, if_neg (by omega)] at h; exact h
    · rw [if_pos c] at h; exact h
  · intro z
    have z := of_decide_eq_false z
    rw [if_neg z] at h
    exact h
theorem m_refR {s : St} {sh : Nat → Nat → Int} {sc : Nat → Nat → Int32} (hs : ∀ d, d < 8 → ShM s sh sc d) (hv : ∀ d, d < 8 → ShV sh sc d) {d : Int} (hd : inr d) {Q : Int32 → Prop} (h : Q (I (refZ sh 2 d))) : vc_Mod_wrongRow (I d) (-1) s Q := by
  unfold vc_Mod_wrongRow
  refine isSh_m hd ?_
  rw [bi_f]
  unfold refZ at h
  constructor
  · intro z
    have z : 0 ≤ d ∧ d ≤ 7 := by simpa using z
    rw [if_pos z] at h
    obtain ⟨d, rfl, hd8⟩ := nat_of (n := 8) ⟨z.1, by omega⟩
    rw [Int.toNat_natCast] at h
    have hS := (hs d (by omega)).1
    have hV := (hv d (by omega)).1
    rw [I_clampN (by omega), hS]
    have hin : vp_in (I (d : Int)) 8 := I_vinN (by omega) (by decide)
    have e0 : (I (sh d 0) = 0) ↔ sh d 0 = 0 := by simp (disch := (first | omega | (unfold inr; omega))) only [I_lit, I_nI, I_neg, I_add, I_sub, I_mul, I_div, I_le, I_lt, I_eq, I_clamp, I_clampN, I_vin]
    have ew : (I (sh d 0) = 2) ↔ sh d 0 = 2 := by simp (disch := (first | omega | (unfold inr; omega))) only [I_lit, I_nI, I_neg, I_add, I_sub, I_mul, I_div, I_le, I_lt, I_eq, I_clamp, I_clampN, I_vin]
    rw [e0, ew]
    refine ⟨hin, fun c => ⟨hin, Q (-12), id, fun c2 => ?_, fun c2 => ⟨fun _ => ?_, fun q => absurd (by decide) q⟩⟩, fun c => ?_⟩
    · rw [if_neg c, if_neg (by omega)] at h; exact h
    · rw [if_neg c, if_pos (by omega)] at h; exact h
    · rw [if_pos c] at h; exact h
  · intro z
    have z := of_decide_eq_false z
    rw [if_neg z] at h
    exact h
theorem wr_off {s : St} {p k j : Nat} {v : Int32} (h : j ≠ k) : wr s p k v p j = s p j := by simp [wr, h]
theorem at_yardI {y w : Nat} (hy : y < 12) (hw : w < 3) {x : Int32} (hx : x = I (w : Int)) {Q : Int32 → Prop} (h : Q (I ((6 + 3 * y + w : Nat) : Int))) : vc_Mod_atYard (I y) x Q := by
  subst hx
  unfold vc_Mod_atYard
  have e : (6 : Int32) + 3 * I y + I (w : Int) = I ((6 + 3 * y + w : Nat) : Int) := by
    simp (disch := (first | omega | (unfold inr; omega))) only [I_lit, I_nI, I_neg, I_add, I_sub, I_mul, I_div, I_le, I_lt, I_eq, I_clamp, I_clampN, I_vin]
    congr 1
  rw [e]
  exact h
theorem m_addsYard {s : St} {k : Kv} (hk : CC k) (hr : RM s 83 k) (hn : k 9 0 < 12) {a f w : Int} {x y z : Int32} (hx : x = I a) (hy : y = I f) (hz : z = I w) {Q : St → Prop} (hQ : ∀ s', (∀ p j, p ≠ 83 → s' p j = s p j) → RM s' 83 (addY k a f w) → Q s') : vc_Mod_addsYard x y z s Q := by
  have a1 := hk.1.1
  obtain ⟨n, en⟩ : ∃ n : Nat, (n : Int) = k 9 0 := ⟨(k 9 0).toNat, by omega⟩
  have c0 : Int32.toNatClampNeg 0 = 0 := rfl
  have vi : vp_in (0 : Int32) 78 := v_in (a := 0) ⟨by decide, by decide⟩ (by decide) rfl
  have m0 : s 83 0 = I (n : Int) := by rw [en]; exact hr.1 0 (by decide)
  unfold vc_Mod_addsYard
  rw [c0, m0]
  refine ⟨vi, at_yardI (y := n) (by omega) (w := 0) (by decide) rfl ?_⟩
  rw [I_clampN (by omega)]
  refine ⟨I_vinN (by omega) (by decide), ?_⟩
  intro s14 hs14
  have m14 : s14 83 0 = I (n : Int) := by rw [hs14, wr_off (by omega)]; exact m0
  rw [m14]
  refine ⟨vi, at_yardI (y := n) (by omega) (w := 1) (by decide) rfl ?_⟩
  rw [I_clampN (by omega)]
  refine ⟨I_vinN (by omega) (by decide), ?_⟩
  intro s19 hs19
  have m19 : s19 83 0 = I (n : Int) := by rw [hs19, wr_off (by omega)]; exact m14
  rw [m19]
  refine ⟨vi, at_yardI (y := n) (by omega) (w := 2) (by decide) rfl ?_⟩
  rw [I_clampN (by omega)]
  refine ⟨I_vinN (by omega) (by decide), ?_⟩
  intro s24 hs24
  have m24 : s24 83 0 = I (n : Int) := by rw [hs24, wr_off (by omega)]; exact m19
  rw [m24]
  refine ⟨vi, vi, ?_⟩
  intro s27 hs27
  have g0 : s27 83 0 = I (n + 1 : Int) := by
    rw [hs27, wr_at]
    simp (disch := (first | omega | (unfold inr; omega))) only [I_lit, I_nI, I_neg, I_add, I_sub, I_mul, I_div, I_le, I_lt, I_eq, I_clamp, I_clampN, I_vin]
  have g1 : s27 83 (6 + 3 * n + 0) = I a := by rw [hs27, wr_off (by omega), hs24, wr_off (by omega), hs19, wr_off (by omega), hs14, wr_at]; exact hx
  have g2 : s27 83 (6 + 3 * n + 1) = I f := by rw [hs27, wr_off (by omega), hs24, wr_off (by omega), hs19, wr_at]; exact hy
  have g3 : s27 83 (6 + 3 * n + 2) = I w := by rw [hs27, wr_off (by omega), hs24, wr_at]; exact hz
  have g4 : ∀ j, j ≠ 0 → j ≠ 6 + 3 * n → j ≠ 6 + 3 * n + 1 → j ≠ 6 + 3 * n + 2 → s27 83 j = s 83 j := by
    intro j h1 h2 h3 h4
    rw [hs27, wr_off h1, hs24, wr_off h4, hs19, wr_off h3, hs14, wr_off (by omega)]
  have nx : ∀ x j, 3 ≤ x → x ≤ 8 → addY k a f w x j = k x j := fun x j h1 h2 => addY_ne (by omega) (Or.inr h1)
  have n9 : ∀ i, i ≠ 0 → addY k a f w 9 i = k 9 i := fun i hi => addY_ne (by omega) (Or.inr (by decide))
  refine hQ s27 (fun p j hp => by rw [hs27, wr_ne hp, hs24, wr_ne hp, hs19, wr_ne hp, hs14, wr_ne hp]) ⟨fun i hi => ?_, fun y hy w' hw' => ?_, fun b hb => ⟨fun w' hw' => ?_, ?_⟩⟩
  · by_cases e : i = 0
    · subst e
      rw [g0, addY_9, en]
    · rw [g4 _ e (by omega) (by omega) (by omega), n9 _ e]; exact hr.1 i hi
  · rw [addY_9] at hy
    by_cases e : y = n
    · subst e
      have : w' = 0 ∨ w' = 1 ∨ w' = 2 := by omega
      rcases this with rfl | rfl | rfl
      · rw [g1]; simp [addY, en]
      · rw [g2]; simp [addY, en]
      · rw [g3]; simp [addY, en]
    · rw [g4 _ (by omega) (by omega) (by omega) (by omega), addY_ne (by omega) (Or.inl (by omega))]
      exact hr.2.1 y (by omega) w' hw'
  · rw [n9 _ (by decide)] at hb
    rw [g4 _ (by omega) (by omega) (by omega) (by omega), nx _ _ (by omega) (by omega)]
    exact (hr.2.2 b hb).1 w' hw'
  · rw [n9 _ (by decide)] at hb
    rw [g4 _ (by omega) (by omega) (by omega) (by omega), nx _ _ (by omega) (by omega)]
    exact (hr.2.2 b hb).2
theorem e_lays {s : St} {A : Ab} (hR : RR s A) (x y : Int32) : vc_Brt_lays x y s (fun r s1 => vc_Mod_lays x y s1 (fun r' s2 => r = r' ∧ ∃ A', RR s2 A')) := by
  obtain ⟨d, hd, rfl⟩ := I_of x
  obtain ⟨w, hw, rfl⟩ := I_of y
  have hC := hR.2.2.1
  have hrc := hR.1.1
  have hrm := hR.2.1.1
  have a1 := hC.1.1
  have hri := ref_in A.2.2.2.1 1 d
  have c0 : Int32.toNatClampNeg 0 = 0 := rfl
  have vi : vp_in (0 : Int32) 78 := v_in (a := 0) ⟨by decide, by decide⟩ (by decide) rfl
  have e0 : (I (refZ A.2.2.2.1 1 d) = 0) ↔ refZ A.2.2.2.1 1 d = 0 := by simp (disch := (first | omega | (unfold inr; omega))) only [I_lit, I_nI, I_neg, I_add, I_sub, I_mul, I_div, I_le, I_lt, I_eq, I_clamp, I_clampN, I_vin]
  have w0 : vc_Brt_within (I w) 6 40 = vc_Brt_within (I w) (I 6) (I 40) := rfl
  have w1 : vc_Mod_isIn (I w) 6 40 = vc_Mod_isIn (I w) (I 6) (I 40) := rfl
  have mod : ∀ (s1 : St) (Q : Int32 → St → Prop), RM s1 83 A.1 → (∀ p j, 92 ≤ p → s1 p j = s p j) → (¬ (6 ≤ w ∧ w ≤ 40) → Q (-1) s1) → ((6 ≤ w ∧ w ≤ 40) → ¬ refZ A.2.2.2.1 1 d = 0 → Q (I (refZ A.2.2.2.1 1 d)) s1) → ((6 ≤ w ∧ w ≤ 40) → refZ A.2.2.2.1 1 d = 0 → A.1 9 0 = 12 → Q (-2) s1) → ((6 ≤ w ∧ w ≤ 40) → refZ A.2.2.2.1 1 d = 0 → ¬ A.1 9 0 = 12 → ∀ s', (∀ p j, p ≠ 83 → s' p j = s1 p j) → RM s' 83 (addY A.1 (A.2.2.2.1 d.toNat 1) (A.2.2.2.1 d.toNat 2) w) → Q (I (A.1 9 0)) s') → vc_Mod_lays (I d) (I w) s1 Q := by
    intro s1 Q hm hf q1 q2 q3 q4
    have hsm : ∀ d, d < 8 → ShM s1 A.2.2.2.1 A.2.2.2.2 d := fun d hd => ShM_ext hf (hR.2.1.2.2.2 d hd)
    unfold vc_Mod_lays
    rw [w1]
    refine isSh_m hd ?_
    rw [bi_f]
    constructor
    · intro z
      have z := of_decide_eq_false z
      have er : refZ A.2.2.2.1 1 d = -1 := by unfold refZ; rw [if_neg z]
      by_cases hw6 : 6 ≤ w ∧ w ≤ 40
      · have := q2 hw6 (by rw [er]; decide)
        rw [er] at this
        exact this
      · exact q1 hw6
    · intro z
      refine sp_isIn hw ⟨by decide, by decide⟩ ⟨by decide, by decide⟩ ?_
      rw [bi_f]
      refine ⟨fun z2 => ?_, fun z2 => q1 (of_decide_eq_false z2)⟩
      have z2 : 6 ≤ w ∧ w ≤ 40 := by simpa using z2
      refine m_refK hsm hR.2.2.2.2 hd ?_
      rw [e0]
      refine ⟨fun c => ?_, fun c => q2 z2 c⟩
      have c2 := (ref_0 (Or.inl rfl)).mp c
      obtain ⟨d, rfl, hd8⟩ := nat_of (n := 8) ⟨c2.1.1, by omega⟩
      have hin : vp_in (I (d : Int)) 8 := I_vinN (by omega) (by decide)
      rw [c0, show s1 83 0 = I (A.1 9 0) from hm.1 0 (by decide), show (I (A.1 9 0) = 12) ↔ A.1 9 0 = 12 from by simp (disch := (first | omega | (unfold inr; omega))) only [I_lit, I_nI, I_neg, I_add, I_sub, I_mul, I_div, I_le, I_lt, I_eq, I_clamp, I_clampN, I_vin]]
      refine ⟨vi, fun c3 => ⟨hin, hin, ?_⟩, fun c3 => q3 z2 c c3⟩
      rw [I_clampN (by omega)]
      have h2 := (hsm d (by omega)).2.1 (by simpa using c2.2)
      refine m_addsYard hC hm (by omega) h2.1 h2.2 rfl ?_
      intro s' f' hm'
      refine ⟨vi, ?_⟩
      rw [show s' 83 0 = _ from hm'.1 0 (by decide), addY_9]
      have := q4 z2 c c3 s' f' (by simpa using hm')
      rw [show I (A.1 9 0 + 1) - 1 = I (A.1 9 0) from by simp (disch := (first | omega | (unfold inr; omega))) only [I_lit, I_nI, I_neg, I_add, I_sub, I_mul, I_div, I_le, I_lt, I_eq, I_clamp, I_clampN, I_vin]; congr 1; omega]
      exact this
  unfold vc_Brt_lays vc_Yar_widthIsRight
  rw [w0]
  refine sp_within hw ⟨by decide, by decide⟩ ⟨by decide, by decide⟩ ?_
  dsimp only
  rw [bi_f]
  constructor
  · intro z
    have z : 6 ≤ w ∧ w ≤ 40 := by simpa using z
    refine c_refK hR hd ?_
    rw [e0]
    constructor
    · intro c
      have c2 := (ref_0 (Or.inl rfl)).mp c
      obtain ⟨d, rfl, hd8⟩ := nat_of (n := 8) ⟨c2.1.1, by omega⟩
      have hin : vp_in (I (d : Int)) 8 := I_vinN (by omega) (by decide)
      have c3 : A.2.2.2.1 d 0 = 1 := by simpa using c2.2
      have h2 := (hR.1.2.2.2.1 d (by omega)).2.1 c3
      have h3 := (hR.2.2.2.2 d (by omega)).2.1 c3
      rw [shp_I (by omega), h2.1, h2.2]
      refine ⟨hin, hin, op_yard (c := 1) hC hrc ⟨by omega, by omega⟩ ⟨by omega, by omega⟩ hw (fun hno => ?_) (fun hyes s1 f1 hc1 => ?_)⟩
      · refine ⟨fun q => absurd rfl q, fun _ => ?_⟩
        have h12 : A.1 9 0 = 12 := by omega
        exact mod s _ hrm (fun _ _ _ => rfl) (fun q => absurd z q) (fun _ q => absurd c q) (fun _ _ _ => ⟨rfl, A, hR⟩) (fun _ _ q => absurd h12 q)
      · refine ⟨fun _ => ?_, fun q => absurd q (by decide)⟩
        unfold vc_Best_forget
        intro s2 hs2
        have f2 : ∀ p j, (p ≤ 1 ∨ 10 < p) → p ≠ 58 → s2 p j = s p j := fun p j h1 h2 => by rw [hs2, wr_ne h2]; exact f1 p j h1
        have hm2 : RM s2 83 A.1 := RM_ext (fun j => f2 83 j (by decide) (by decide)) hrm
        have hc2 : RC s2 1 (addY A.1 (A.2.2.2.1 d 1) (A.2.2.2.1 d 2) w) := RC_ext (fun q i hq => by rw [hs2]; exact wr_ne (by omega)) hc1
        have er : s2 2 0 - 1 = I (A.1 9 0) := by
          rw [show s2 2 0 = I (addY A.1 (A.2.2.2.1 d 1) (A.2.2.2.1 d 2) w 9 0) from hc2.1.1, addY_9]
          simp (disch := (first | omega | (unfold inr; omega))) only [I_lit, I_nI, I_neg, I_add, I_sub, I_mul, I_div, I_le, I_lt, I_eq, I_clamp, I_clampN, I_vin]
          congr 1
          omega
        rw [er]
        refine mod s2 _ hm2 (fun p j hp => f2 p j (by omega) (by omega)) (fun q => absurd z q) (fun _ q => absurd c q) (fun _ _ q => by omega) (fun _ _ _ s3 f3 hm3 => ⟨rfl, _, RR_new hR (CC_addY hC hyes.2.2.2 hyes.1 hyes.2.1 hyes.2.2.1) (fun p i hp => f2 p i (by omega) (by omega)) (by rw [hs2]; exact wr_at) hc2 (fun p i hp => f3 p i (by omega)) (f3 82 3 (by decide)) (by simpa using hm3)⟩)
    · intro c
      exact mod s _ hrm (fun _ _ _ => rfl) (fun q => absurd z q) (fun _ _ => ⟨rfl, A, hR⟩) (fun _ q => absurd q c) (fun _ q => absurd q c)
  · intro z
    have z := of_decide_eq_false z
    exact mod s _ hrm (fun _ _ _ => rfl) (fun _ => ⟨rfl, A, hR⟩) (fun q => absurd q z) (fun q => absurd q z) (fun q => absurd q z)
