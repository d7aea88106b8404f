/-! CALLS THAT TELL: yards, bodies, settings, THE IMAGE -/
theorem RR_new {s s1 s2 : St} {A : Ab} {k' : Kv} (hR : RR s A) (hk : CC k') (h1 : ∀ p j, (p = 0 ∨ (18 ≤ p ∧ p < 35) ∨ 65 ≤ p) → s1 p j = s p j) (hf : s1 58 4 = 0) (hc : RC s1 1 k') (h2 : ∀ p j, (p < 82 ∨ p = 84 ∨ 92 ≤ p) → s2 p j = s1 p j) (h3 : s2 82 3 = s1 82 3) (hm : RM s2 83 k') : RR s2 (k', A.2) := by
  obtain ⟨⟨c1, c2, c3, c4, c5⟩, ⟨m1, m2, m3, m4⟩, v1, v2, v3⟩ := hR
  refine ⟨⟨RC_ext (fun q j hq => h2 _ _ (by omega)) hc, ?_, fun z => ?_, fun d hd => ?_, Or.inl ?_⟩, ⟨hm, ?_, fun z => ?_, fun d hd => ?_⟩, hk, v2, v3⟩
  · rw [h2 _ _ (by omega), h1 _ _ (by omega)]; exact c2
  · exact RC_ext (fun q j hq => (h2 _ _ (by omega)).trans (h1 _ _ (by omega))) (c3 z)
  · exact ShC_ext hd (fun p j a b => (h2 _ _ (by omega)).trans (h1 _ _ (by omega))) (c4 d hd)
  · rw [h2 _ _ (by omega)]; exact hf
  · rw [h3, h1 _ _ (by omega)]; exact m2
  · exact RM_ext (fun j => (h2 _ _ (by omega)).trans (h1 _ _ (by omega))) (m3 z)
  · exact ShM_ext (fun p j a => (h2 _ _ (by omega)).trans (h1 _ _ (by omega))) (m4 d hd)
theorem RM_sc {s s' : St} {q : Nat} {k : Kv} (h : RM s q k) {i : Nat} (hi : i < 6) {v : Int} (hv : 2 ≤ i ∨ (i = 0 ∧ v ≤ k 9 0)) (h1 : s' q i = I v) (h2 : ∀ j, j ≠ i → s' q j = s q j) : RM s' q (ku k 9 i v) := by
  refine ⟨fun i' hi' => ?_, fun y hy w hw => ?_, fun b hb => ⟨fun w hw => ?_, ?_⟩⟩
  · by_cases e : i' = i
    · subst e
      rw [ku_at]; exact h1
    · rw [ku_ne (Or.inr e), h2 _ e]; exact h.1 i' hi'
  · have hy2 : (y : Int) < k 9 0 := by
      rcases hv with e | ⟨e, e2⟩
      · rw [ku_ne (by omega)] at hy; exact hy
      · subst e
        rw [ku_at] at hy; omega
    rw [ku_ne (Or.inl (by omega)), h2 _ (by omega)]
    exact h.2.1 y hy2 w hw
  · rw [ku_ne (by omega)] at hb
    rw [ku_ne (Or.inl (by omega)), h2 _ (by omega)]
    exact (h.2.2 b hb).1 w hw
  · rw [ku_ne (by omega)] at hb
    rw [ku_ne (Or.inl (by omega)), h2 _ (by omega)]
    exact (h.2.2 b hb).2
theorem RC_cut {s : St} {c : Nat} {k : Kv} (h : RC s c k) {v : Int} (hv : v ≤ k 9 0) : RC (wr s (c + 1) 0 (I v)) c (ku k 9 0 v) := by
  obtain ⟨⟨r1, r2, r3, r4, r5, r6⟩, hy, hb⟩ := h
  have k9 : ∀ i, i ≠ 0 → ku k 9 0 v 9 i = k 9 i := fun i hi => ku_ne (Or.inr hi)
  have kx : ∀ x j, x ≠ 9 → ku k 9 0 v x j = k x j := fun x j hx => ku_ne (Or.inl hx)
  have w1 : ∀ p j, p ≠ c + 1 → wr s (c + 1) 0 (I v) p j = s p j := fun p j hp => wr_ne hp
  refine ⟨⟨?_, ?_, ?_, ?_, ?_, ?_⟩, fun y hyy => ?_, fun b hbb => ?_⟩
  · rw [wr_at, ku_at]
  · rw [w1 _ _ (by omega), k9 _ (by decide)]; exact r2
  · rw [w1 _ _ (by omega), k9 _ (by decide)]; exact r3
  · rw [w1 _ _ (by omega), k9 _ (by decide)]; exact r4
  · rw [w1 _ _ (by omega), k9 _ (by decide)]; exact r5
  · rw [w1 _ _ (by omega), k9 _ (by decide)]; exact r6
  · rw [ku_at] at hyy
    rw [kx 0 _ (by decide), kx 1 _ (by decide), kx 2 _ (by decide)]
    simp (disch := omega) only [w1]
    exact hy y (by omega)
  · rw [k9 _ (by decide)] at hbb
    rw [kx 3 _ (by decide), kx 4 _ (by decide), kx 5 _ (by decide), kx 6 _ (by decide), kx 7 _ (by decide), kx 8 _ (by decide)]
    simp (disch := omega) only [w1]
    exact hb b hbb
theorem CC_cut {k : Kv} (h : CC k) (hn : 0 < k 9 0) : CC (ku k 9 0 (k 9 0 - 1)) := by
  obtain ⟨⟨h1, h2, h3, h4⟩, h5, h6, h7, h8⟩ := h
  have k9 : ∀ i, i ≠ 0 → ku k 9 0 (k 9 0 - 1) 9 i = k 9 i := fun i hi => ku_ne (Or.inr hi)
  have kx : ∀ x j, x ≠ 9 → ku k 9 0 (k 9 0 - 1) x j = k x j := fun x j hx => ku_ne (Or.inl hx)
  refine ⟨⟨?_, ?_, fun y hy => ?_, fun b hb => ?_⟩, ?_, fun j hj => ?_, fun i j hi hj e => ?_, fun b hb => ?_⟩
  · rw [ku_at, k9 1 (by decide)]; omega
  · rw [k9 2 (by decide), k9 3 (by decide), k9 4 (by decide), k9 5 (by decide)]; exact h2
  · rw [ku_at] at hy
    unfold CY
    rw [kx 0 _ (by decide), kx 1 _ (by decide), kx 2 _ (by decide)]
    exact h3 y (by omega)
  · rw [k9 1 (by decide)] at hb
    unfold CB
    rw [kx 3 _ (by decide), kx 4 _ (by decide), kx 5 _ (by decide), kx 6 _ (by decide), kx 7 _ (by decide)]
    exact h4 b hb
  · rw [k9 2 (by decide)]; exact h5
  · rw [k9 1 (by decide)] at hj ⊢
    rw [kx 8 _ (by decide)]
    exact h6 j hj
  · rw [k9 1 (by decide)] at hi hj
    rw [kx 8 _ (by decide), kx 8 _ (by decide)] at e
    exact h7 i j hi hj e
  · rw [k9 1 (by decide)] at hb ⊢
    obtain ⟨j, q1, q2⟩ := h8 b hb
    exact ⟨j, q1, by rw [kx 8 _ (by decide)]; exact q2⟩
theorem RM_cp {s s' : St} {p q : Nat} {k : Kv} (hk : CV k) (h : RM s p k) (h2 : ∀ j, j < 78 → s' q j = s p j) : RM s' q k := by
  have a := hk.1
  refine ⟨fun i hi => (h2 _ (by omega)).trans (h.1 i hi), fun y hy w hw => (h2 _ (by omega)).trans (h.2.1 y hy w hw), fun b hb => ⟨fun w hw => (h2 _ (by omega)).trans ((h.2.2 b hb).1 w hw), (h2 _ (by omega)).trans (h.2.2 b hb).2⟩⟩
theorem e_shorter {s : St} {A : Ab} (hR : RR s A) : vc_Brt_shorter s (fun r s1 => vc_Mod_shorter s1 (fun r' s2 => r = r' ∧ ∃ A', RR s2 A')) := by
  have hC := hR.2.2.1
  have hrc := hR.1.1
  have hrm := hR.2.1.1
  have a := hC.1.1
  have e0 : s 2 0 = I (A.1 9 0) := hrc.1.1
  have m0 : s 83 0 = I (A.1 9 0) := hrm.1 0 (by decide)
  have z0 : (I (A.1 9 0) = 0) ↔ A.1 9 0 = 0 := by simp (disch := (first | omega | (unfold inr; omega))) only [I_lit, I_nI, I_neg, I_add, I_sub, I_mul, I_div, I_le, I_lt, I_eq, I_clamp, I_clampN, I_vin]
  have c0 : Int32.toNatClampNeg 0 = 0 := rfl
  have vi : vp_in (0 : Int32) 78 := v_in (a := 0) ⟨by decide, by decide⟩ (by decide) rfl
  unfold vc_Brt_shorter
  rw [e0, z0]
  constructor
  · intro z s11 hs11
    unfold vc_Best_forget
    intro s12 hs12
    have e1 : I (A.1 9 0) - 1 = I (A.1 9 0 - 1) := by simp (disch := (first | omega | (unfold inr; omega))) only [I_lit, I_nI, I_neg, I_add, I_sub, I_mul, I_div, I_le, I_lt, I_eq, I_clamp, I_clampN, I_vin]
    rw [e1] at hs11
    have hc1 : RC s11 1 (ku A.1 9 0 (A.1 9 0 - 1)) := by rw [hs11]; exact RC_cut hrc (by omega)
    have hc2 : RC s12 1 (ku A.1 9 0 (A.1 9 0 - 1)) := RC_ext (fun q j hq => by rw [hs12]; exact wr_ne (by omega)) hc1
    have f1 : ∀ p j, p ≠ 2 → p ≠ 58 → s12 p j = s p j := fun p j h1 h2 => by rw [hs12, wr_ne h2, hs11, wr_ne h1]
    unfold vc_Mod_shorter
    dsimp only
    rw [c0, f1 83 0 (by decide) (by decide), m0, z0]
    refine ⟨vi, fun _ => ⟨vi, vi, ?_⟩, fun q => absurd q z⟩
    intro s14 hs14
    rw [e1] at hs14
    refine ⟨vi, ?_, _, RR_new hR (CC_cut hC (by omega)) (fun p j hp => f1 p j (by omega) (by omega)) (by rw [hs12]; exact wr_at) hc2 (fun p j hp => by rw [hs14]; exact wr_ne (by omega)) (by rw [hs14]; exact wr_ne (by decide)) ?_⟩
    · rw [hs14, wr_at, hs12, wr_ne (by decide), hs11, wr_at]
    · have hm : RM s12 83 A.1 := RM_ext (fun j => f1 83 j (by decide) (by decide)) hrm
      exact RM_sc hm (by decide) (Or.inr ⟨rfl, by omega⟩) (by rw [hs14]; exact wr_at) (fun j hj => by rw [hs14]; simp [wr, hj])
  · intro z
    unfold vc_Mod_shorter
    rw [c0, m0, z0]
    exact ⟨vi, fun q => absurd z q, fun _ => ⟨rfl, A, hR⟩⟩
theorem e_image {s : St} {A : Ab} (hR : RR s A) : vc_Brt_image s (fun r s1 => vc_Mod_image s1 (fun r' s2 => r = r' ∧ ∃ A', RR s2 A')) := by
  have hC := hR.2.2.1
  have hrc := hR.1.1
  have hrm := hR.2.1.1
  unfold vc_Brt_image
  refine sp_become hC.1 hrc (by decide) ?_
  intro s1 hf hr1 s2 hs2
  have f2 : ∀ p j, (p ≠ 0 ∨ j ≠ 8) → (p < 18 ∨ 34 < p) → s2 p j = s p j := by
    intro p j h1 h2
    have : s2 p j = s1 p j := by
      rw [hs2]
      unfold wr
      by_cases e : p = 0
      · rw [if_pos e, if_neg (by omega)]
      · rw [if_neg e]
    exact this.trans (hf p j (by omega))
  unfold vc_Mod_image
  refine sp_copies (by decide) ?_
  intro s3 g1 g2 s4 hs4
  have g3 : ∀ p j, p ≠ 84 → (p ≠ 82 ∨ j ≠ 3) → s4 p j = s2 p j := by
    intro p j h1 h2
    have : s4 p j = s3 p j := by
      rw [hs4]
      unfold wr
      by_cases e : p = 82
      · rw [if_pos e, if_neg (by omega)]
      · rw [if_neg e]
    exact this.trans (g1 p j h1)
  have g4 : ∀ j, j < 78 → s4 84 j = s2 83 j := fun j hj => by rw [hs4, wr_ne (by decide)]; exact g2 j hj
  have c2 : Int32.toNatClampNeg 2 = 2 := rfl
  obtain ⟨⟨c1, c2', c3, c4, c5⟩, ⟨m1, m2, m3, m4⟩, v1, v2, v3⟩ := hR
  have hm2 : RM s2 83 A.1 := RM_ext (fun j => f2 _ _ (Or.inl (by decide)) (by omega)) m1
  have hc2 : RC s2 18 A.1 := RC_ext (fun q j hq => by rw [hs2]; exact wr_ne (by omega)) hr1
  refine ⟨v_in (a := 2) ⟨by decide, by decide⟩ (by decide) rfl, ?_, (A.1, A.1, true, A.2.2.2), ⟨?_, ?_, fun _ => ?_, fun d hd => ?_, ?_⟩, ⟨?_, ?_, fun _ => ?_, fun d hd => ?_⟩, v1, fun _ => v1, v3⟩
  · rw [c2, g3 83 2 (by decide) (Or.inl (by decide)), f2 1 5 (Or.inl (by decide)) (by omega), f2 83 2 (Or.inl (by decide)) (by omega)]
    exact (show s 1 5 = _ from c1.1.2.2.1).trans (m1.1 2 (by decide)).symm
  · exact RC_ext (fun q j hq => (g3 _ _ (by omega) (by omega)).trans (f2 _ _ (by omega) (by omega))) c1
  · rw [g3 0 8 (by decide) (by decide), hs2]; exact wr_at
  · exact RC_ext (fun q j hq => g3 _ _ (by omega) (by omega)) hc2
  · exact ShC_ext hd (fun p j a b => (g3 _ _ (by omega) (by omega)).trans (f2 _ _ (by omega) (by omega))) (c4 d hd)
  · have b1 : ∀ p j, p = 58 ∨ p = 59 → s4 p j = s p j := fun p j hp => (g3 _ _ (by omega) (by omega)).trans (f2 _ _ (by omega) (by omega))
    rcases c5 with z | ⟨z1, z2, z3⟩
    · exact Or.inl ((b1 _ _ (by omega)).trans z)
    · exact Or.inr ⟨(b1 _ _ (by omega)).trans z1, (b1 _ _ (by omega)).trans z2, fun i hi => (b1 _ _ (by omega)).trans (z3 i hi)⟩
  · exact RM_ext (fun j => g3 _ _ (by decide) (Or.inl (by decide))) hm2
  · rw [hs4]; exact wr_at
  · exact RM_cp hC.1 hm2 g4
  · exact ShM_ext (fun p j a => (g3 _ _ (by omega) (by omega)).trans (f2 _ _ (by omega) (by omega))) (m4 d hd)
theorem e_restore {s : St} {A : Ab} (hR : RR s A) : vc_Brt_restore s (fun r s1 => vc_Mod_restore s1 (fun r' s2 => r = r' ∧ ∃ A', RR s2 A')) := by
  obtain ⟨⟨c1, c2, c3, c4, c5⟩, ⟨m1, m2, m3, m4⟩, v1, v2, v3⟩ := id hR
  have t2 : Int32.toNatClampNeg 2 = 2 := rfl
  unfold vc_Brt_restore
  rw [c2, bi_f]
  constructor
  · intro z
    have z : A.2.2.1 = true := by simpa using z
    refine sp_become (v2 z).1 (c3 z) (by decide) ?_
    intro s1 hf hr1
    unfold vc_Best_forget
    intro s2 hs2
    have f2 : ∀ p j, (p < 1 ∨ 17 < p) → p ≠ 58 → s2 p j = s p j := fun p j h1 h2 => by rw [hs2, wr_ne h2]; exact hf p j (by omega)
    unfold vc_Mod_restore
    dsimp only
    rw [f2 82 3 (by decide) (by decide), m2, bi_f]
    refine ⟨fun _ => ?_, fun q => by rw [z] at q; cases q⟩
    refine sp_copies (by decide) ?_
    intro s3 g1 g2
    have hm2 : RM s2 84 A.2.1 := RM_ext (fun j => f2 _ _ (by decide) (by decide)) (m3 z)
    have hm3 : RM s3 83 A.2.1 := RM_cp (v2 z).1 hm2 g2
    have hc2 : RC s2 1 A.2.1 := RC_ext (fun q j hq => by rw [hs2]; exact wr_ne (by omega)) hr1
    refine ⟨v_in (a := 2) ⟨by decide, by decide⟩ (by decide) rfl, ?_, _, RR_new hR (v2 z) (fun p j hp => f2 p j (by omega) (by omega)) (by rw [hs2]; exact wr_at) hc2 (fun p j hp => g1 p j (by omega)) (g1 82 3 (by decide)) hm3⟩
    rw [t2, show s3 83 2 = _ from hm3.1 2 (by decide)]
    exact hc2.1.2.2.1
  · intro z
    unfold vc_Mod_restore
    rw [m2, bi_f]
    exact ⟨fun q => absurd z q, fun _ => ⟨rfl, A, hR⟩⟩
