theorem e_turns {s : St} {A : Ab} (hR : RR s A) : vc_Brt_turns s (fun r s1 => vc_Mod_turns s1 (fun r' s2 => r = r' ∧ RR s2 A)) := by
  have hC := hR.2.2.1
  have hk := hC.1
  have ho := hC.2.2.1
  have a := hk.1
  have a2 := hk.2.1
  have a9 := hC.2.1
  have hn := nB_le hk
  have hl := LI_ord hC
  have vi : vp_in (2 : Int32) 78 := v_in (a := 2) ⟨by decide, by decide⟩ (by decide) rfl
  have vi5 : vp_in (5 : Int32) 78 := v_in (a := 5) ⟨by decide, by decide⟩ (by decide) rfl
  have t2 : Int32.toNatClampNeg 2 = 2 := rfl
  have t5 : Int32.toNatClampNeg 5 = 5 := rfl
  have mod : ∀ (s1 : St) (v : Int), RR s1 A → GR (LPm A.1) 601 v → vc_Mod_turns s1 (fun r' s2 => I v = r' ∧ RR s2 A) := by
    intro s1 v hR1 hv
    unfold vc_Mod_turns
    rw [t2, t5]
    refine ⟨vi, ?_⟩
    intro x11 h11
    rw [show s1 83 2 = I (A.1 9 2) from hR1.2.1.1.1 2 (by decide)] at h11
    subst h11
    intro s12 h12
    have hR12 : RR s12 A := RR_KM (by rw [h12]; exact KM_w82 (by decide)) hR1
    refine ⟨fun N x13 x14 s' => ∃ i : Nat, x14 = I (i : Nat) ∧ i ≤ 601 ∧ N = 601 - i ∧ (∃ f, x13 = I f ∧ GR (LPm A.1) i f) ∧ s' 82 7 = 0 ∧ (∀ p j, (p < 82 ∨ p = 84 ∨ 92 ≤ p) → s' p j = s12 p j) ∧ s' 82 3 = s12 82 3 ∧ ∃ u, RM s' 83 (ku A.1 9 2 u), ⟨_, 0, rfl, by omega, rfl, ⟨-4, rfl, Or.inl ⟨rfl, fun w hw => absurd hw (Nat.not_lt_zero w)⟩⟩, by rw [h12]; exact wr_at, fun _ _ _ => rfl, rfl, A.1 9 2, by rw [ku_self]; exact hR12.2.1.1⟩, ?_⟩
    rintro N x13 x14 s' ⟨i, rfl, hi, hN, ⟨f, rfl, hf⟩, h7, f1, f2, u, hrm⟩
    constructor
    · intro q
      have q : i = 601 := by
        revert q
        simp (disch := (first | omega | (unfold inr; omega))) only [I_lit, I_nI, I_neg, I_add, I_sub, I_mul, I_div, I_le, I_lt, I_eq, I_clamp, I_clampN, I_vin]
        omega
      subst q
      refine ⟨vi, ?_⟩
      intro s20 h20
      refine ⟨by rw [GR_uni hv hf], RR_m hR12 (fun p j hp => by rw [h20, wr_ne (by omega)]; exact f1 p j hp) (by rw [h20, wr_ne (by decide)]; exact f2) ?_⟩
      have := RM_sc hrm (s' := s20) (i := 2) (by decide) (v := A.1 9 2) (Or.inl (by decide)) (by rw [h20]; exact wr_at) (fun j hj => by rw [h20]; exact wr_off hj)
      rw [ku_ku, ku_self] at this
      exact this
    · intro q
      have q : i < 601 := by
        revert q
        simp (disch := (first | omega | (unfold inr; omega))) only [I_lit, I_nI, I_neg, I_add, I_sub, I_mul, I_div, I_le, I_lt, I_eq, I_clamp, I_clampN, I_vin]
        omega
      refine ⟨vi, ?_⟩
      intro s22 h22
      rw [show I (A.1 9 2) + I (i : Int) = I (A.1 9 2 + i) from by simp (disch := (first | omega | (unfold inr; omega))) only [I_lit, I_nI, I_neg, I_add, I_sub, I_mul, I_div, I_le, I_lt, I_eq, I_clamp, I_clampN, I_vin]] at h22
      have hm22 : RM s22 83 (ku A.1 9 2 (A.1 9 2 + i)) := by
        have := RM_sc hrm (s' := s22) (i := 2) (by decide) (v := A.1 9 2 + i) (Or.inl (by decide)) (by rw [h22]; exact wr_at) (fun j hj => by rw [h22]; exact wr_off hj)
        rw [ku_ku] at this
        exact this
      have k9 : ∀ j, j ≠ 2 → ku A.1 9 2 (A.1 9 2 + i) 9 j = A.1 9 j := fun j h => ku_ne (Or.inr h)
      have kx : ∀ x j, x ≠ 9 → ku A.1 9 2 (A.1 9 2 + i) x j = A.1 x j := fun x j h => ku_ne (Or.inl h)
      have hv2 : CV (ku A.1 9 2 (A.1 9 2 + i)) := by
        refine ⟨by rw [k9 0 (by decide), k9 1 (by decide)]; exact a, ?_, fun y hy => ?_, fun b hb => ?_⟩
        · rw [ku_at, k9 3 (by decide), k9 4 (by decide), k9 5 (by decide)]; omega
        · rw [k9 0 (by decide)] at hy
          unfold CY
          rw [kx 0 _ (by decide), kx 1 _ (by decide), kx 2 _ (by decide)]
          exact hk.2.2.1 y hy
        · rw [k9 1 (by decide)] at hb
          unfold CB
          rw [kx 3 _ (by decide), kx 4 _ (by decide), kx 5 _ (by decide), kx 6 _ (by decide), kx 7 _ (by decide)]
          exact hk.2.2.2 b hb
      have ho2 : CO (ku A.1 9 2 (A.1 9 2 + i)) := by
        intro j hj
        rw [k9 1 (by decide)] at hj ⊢
        rw [kx 8 _ (by decide)]
        exact ho j hj
      have e1 : ordK (ku A.1 9 2 (A.1 9 2 + i)) = ordK A.1 := by funext j; unfold ordK; rw [ku_ne (Or.inl (by decide))]
      have e2 : nB (ku A.1 9 2 (A.1 9 2 + i)) = nB A.1 := by unfold nB; rw [ku_ne (by decide)]
      refine m_allL hv2 ho2 (by rw [e1, e2]; exact hl) hm22 (by rw [h22, wr_ne (by decide)]; exact h7) ?_
      rw [TK_ku, HK_ku]
      intro s24 hkg ht hh
      have hw := W_in hk ho (w := (i : Int)) ⟨by omega, by omega⟩
      have hm24 : RM s24 83 (ku A.1 9 2 (A.1 9 2 + i)) := RM_ext (fun j => hkg.1 83 j (by decide) (by decide) (by decide)) hm22
      have nx : ∀ f3 : Int, GR (LPm A.1) (i + 1) f3 → ∀ x27 : Int32, x27 = I (i : Int) + 1 → ∃ m28, m28 < N ∧ ∃ i : Nat, x27 = I (i : Nat) ∧ i ≤ 601 ∧ m28 = 601 - i ∧ (∃ f, I f3 = I f ∧ GR (LPm A.1) i f) ∧ s24 82 7 = 0 ∧ (∀ p j, (p < 82 ∨ p = 84 ∨ 92 ≤ p) → s24 p j = s12 p j) ∧ s24 82 3 = s12 82 3 ∧ ∃ u, RM s24 83 (ku A.1 9 2 u) := by
        intro f3 hf3 x27 h27
        refine ⟨601 - (i + 1), by omega, i + 1, ?_, by omega, rfl, ⟨f3, rfl, hf3⟩, (hkg.2 7 (by omega)).trans (by rw [h22, wr_ne (by decide)]; exact h7), fun p j hp => (hkg.1 p j (by omega) (by omega) (by omega)).trans (by rw [h22, wr_ne (by omega)]; exact f1 p j hp), (hkg.2 3 (by omega)).trans (by rw [h22, wr_ne (by decide)]; exact f2), _, hm24⟩
        rw [h27]
        simp (disch := (first | omega | (unfold inr; omega))) only [I_lit, I_nI, I_neg, I_add, I_sub, I_mul, I_div, I_le, I_lt, I_eq, I_clamp, I_clampN, I_vin]
        congr 1
      rw [bi_f]
      refine ⟨fun x => ∃ g : Int, x = I g ∧ GR (LPm A.1) (i + 1) g, ?_, fun c => ⟨f, rfl, (GR_s hf).1 (fun q2 => by rw [q2.1] at c; cases c)⟩, fun c => ⟨vi5, fun c2 => ⟨f, rfl, (GR_s hf).1 (fun q2 => ?_)⟩, fun c2 => ⟨i, rfl, (GR_s hf).2 ⟨by simpa using c, ?_⟩⟩⟩⟩
      · rintro x ⟨g, rfl, hg⟩
        exact nx g hg
      · have := q2.2
        revert c2
        rw [hh.2.2, show s24 83 5 = I (A.1 9 5) from (hm24.1 5 (by decide)).trans (by rw [k9 5 (by decide)])]
        simp (disch := (first | omega | (unfold inr; omega))) only [I_lit, I_nI, I_neg, I_add, I_sub, I_mul, I_div, I_le, I_lt, I_eq, I_clamp, I_clampN, I_vin]
        omega
      · revert c2
        rw [hh.2.2, show s24 83 5 = I (A.1 9 5) from (hm24.1 5 (by decide)).trans (by rw [k9 5 (by decide)])]
        simp (disch := (first | omega | (unfold inr; omega))) only [I_lit, I_nI, I_neg, I_add, I_sub, I_mul, I_div, I_le, I_lt, I_eq, I_clamp, I_clampN, I_vin]
        omega
  unfold vc_Brt_turns
  intro x10 h10
  rw [show s 1 4 = I (A.1 9 5) from hR.1.1.1.2.2.2.2.2, show s 1 5 = I (A.1 9 2) from hR.1.1.1.2.2.1, show I (A.1 9 5) - I (A.1 9 2) = I (A.1 9 5 - A.1 9 2) from by simp (disch := (first | omega | (unfold inr; omega))) only [I_lit, I_nI, I_neg, I_add, I_sub, I_mul, I_div, I_le, I_lt, I_eq, I_clamp, I_clampN, I_vin]] at h10
  have e10 : x10 = I (min 600 (A.1 9 5 - A.1 9 2)) := h10.trans (imin_I (a := 600) ⟨by decide, by decide⟩ ⟨by omega, by omega⟩)
  rw [e10]
  refine ⟨fun N x11 x12 x13 x14 s' => ∃ (h : Nat) (L M v : Int), x14 = I (h : Nat) ∧ h ≤ 32 ∧ N = 32 - h ∧ x11 = I v ∧ x12 = I L ∧ x13 = I M ∧ KL s s' ∧ (0 ≤ L ∧ L ≤ 601) ∧ (-20000 ≤ M ∧ M ≤ 600) ∧ (∀ w : Nat, w < 601 → M < w → ¬ LPm A.1 w) ∧ (M - L + 1).toNat ≤ 1023 / 2 ^ h ∧ ((L = 0 ∧ v = -4) ∨ (0 < L ∧ v = L - 1 ∧ LPm A.1 (L - 1))), ⟨_, 0, 0, min 600 (A.1 9 5 - A.1 9 2), -4, rfl, by omega, rfl, rfl, rfl, rfl, fun _ _ _ => rfl, by omega, by omega, fun w hw1 hw2 hp => ?_, ?_, Or.inl ⟨rfl, rfl⟩⟩, ?_⟩
  · have hw := W_in hk ho (w := (w : Int)) ⟨by omega, by omega⟩
    have := hp.2
    omega
  · show (min 600 (A.1 9 5 - A.1 9 2) - 0 + 1).toNat ≤ 1023
    omega
  rintro N x11 x12 x13 x14 s' ⟨h, L, M, v, rfl, hh, hN, rfl, rfl, rfl, hkl, hL, hM, hab, hsz, hv⟩
  have fin : M < L → vc_Mod_turns s' (fun r' s2 => I v = r' ∧ RR s2 A) := by
    intro hml
    refine mod s' v (RR_KC hkl.kc hR) ?_
    rcases hv with ⟨h1, h2⟩ | ⟨h1, h2, h3⟩
    · exact Or.inl ⟨h2, fun w hw => hab w hw (by omega)⟩
    · obtain ⟨e, he⟩ : ∃ e : Nat, (e : Int) = L - 1 := ⟨(L - 1).toNat, by omega⟩
      refine Or.inr ⟨e, by omega, by omega, by rw [he]; exact h3, fun d hd1 hd2 => hab d hd2 (by omega)⟩
  constructor
  · intro q
    have q : h = 32 := by
      revert q
      simp (disch := (first | omega | (unfold inr; omega))) only [I_lit, I_nI, I_neg, I_add, I_sub, I_mul, I_div, I_le, I_lt, I_eq, I_clamp, I_clampN, I_vin]
      omega
    subst q
    refine fin ?_
    have : (1023 : Nat) / 2 ^ 32 = 0 := by decide
    omega
  · intro q
    have q : h < 32 := by
      revert q
      simp (disch := (first | omega | (unfold inr; omega))) only [I_lit, I_nI, I_neg, I_add, I_sub, I_mul, I_div, I_le, I_lt, I_eq, I_clamp, I_clampN, I_vin]
      omega
    constructor
    · intro c
      refine fin ?_
      revert c
      simp (disch := (first | omega | (unfold inr; omega))) only [I_lit, I_nI, I_neg, I_add, I_sub, I_mul, I_div, I_le, I_lt, I_eq, I_clamp, I_clampN, I_vin]
      exact id
    · intro c
      have c : L ≤ M := by
        revert c
        simp (disch := (first | omega | (unfold inr; omega))) only [I_lit, I_nI, I_neg, I_add, I_sub, I_mul, I_div, I_le, I_lt, I_eq, I_clamp, I_clampN, I_vin]
        omega
      intro x20 h20
      rw [show (I L + I M) / 2 = I ((L + M) / 2) from by simp (disch := (first | omega | (unfold inr; omega))) only [I_lit, I_nI, I_neg, I_add, I_sub, I_mul, I_div, I_le, I_lt, I_eq, I_clamp, I_clampN, I_vin]] at h20
      have hmid : L ≤ (L + M) / 2 ∧ (L + M) / 2 ≤ M := by omega
      generalize em : (L + M) / 2 = mid at h20 hmid
      subst h20
      have hrc : RC s' 1 A.1 := RC_ext (fun q j hq => hkl _ _ (by omega)) hR.1.1
      unfold vc_Brt_areBackInLight
      rw [show s' 11 0 = I ((nB A.1 : Nat) : Int) from by rw [show s' 11 0 = I (A.1 9 1) from hrc.1.2.1]; unfold nB; congr 1; omega, show s' 1 5 = I (A.1 9 2) from hrc.1.2.2.1, show I (A.1 9 2) + I mid = I (A.1 9 2 + mid) from by simp (disch := (first | omega | (unfold inr; omega))) only [I_lit, I_nI, I_neg, I_add, I_sub, I_mul, I_div, I_le, I_lt, I_eq, I_clamp, I_clampN, I_vin]]
      refine c_tabL hk hrc (by decide) (by omega) hn hn (by decide) (l := ordK A.1) (fun j hj => ⟨?_, ord_in hk ho j hj⟩) ⟨by omega, by omega⟩ ?_
      · have hj2 : (j : Int) < A.1 9 1 := by unfold nB at hj; omega
        rw [show s' 17 j = I (A.1 8 j) from (hrc.2.2 j hj2).2.2.2.2.2]
        have := ho j hj2
        unfold ordK
        congr 1
        omega
      · intro s22 hkl2 ht2 hh2
        have hkl3 : KL s s22 := fun p j hp => (hkl2 p j hp).trans (hkl p j hp)
        have hw := W_in hk ho (w := mid) ⟨by omega, by omega⟩
        have eok : okZ (thereZ A.1 (ordK A.1) (nB A.1) (A.1 9 2 + mid) zt) (homeZ A.1 (ordK A.1) (nB A.1) (thereZ A.1 (ordK A.1) (nB A.1) (A.1 9 2 + mid) zt) zt) = okZ (TW A.1 mid) (HW A.1 mid) := rfl
        rw [eok, bi_f]
        have h55 : s22 55 4 = I (HW A.1 mid).2.2.2.2.1 := hh2.2.2.2.2.1
        have hli : s22 1 4 = I (A.1 9 5) := (hkl3 1 4 (by omega)).trans hR.1.1.1.2.2.2.2.2
        have hdiv : ∀ t : Nat, t ≤ ((M - L + 1).toNat) / 2 → t ≤ 1023 / 2 ^ (h + 1) := by
          intro t ht
          have e : 1023 / 2 ^ (h + 1) = 1023 / 2 ^ h / 2 := by rw [Nat.pow_succ, Nat.div_div_eq_div_mul]
          have := Nat.div_le_div_right (c := 2) hsz
          omega
        have bad : ¬ LPm A.1 mid → ∃ J26 : Int32 → Int32 → Int32 → Prop, (∀ (x23 : Int32) (x24 : Int32) (x25 : Int32), J26 x23 x24 x25 → (∀ x27 : Int32, x27 = I (h : Int) + 1 → ∃ m28, m28 < N ∧ ∃ (h : Nat) (L M v : Int), x27 = I (h : Nat) ∧ h ≤ 32 ∧ m28 = 32 - h ∧ x23 = I v ∧ x24 = I L ∧ x25 = I M ∧ KL s s22 ∧ (0 ≤ L ∧ L ≤ 601) ∧ (-20000 ≤ M ∧ M ≤ 600) ∧ (∀ w : Nat, w < 601 → M < w → ¬ LPm A.1 w) ∧ (M - L + 1).toNat ≤ 1023 / 2 ^ h ∧ ((L = 0 ∧ v = -4) ∨ (0 < L ∧ v = L - 1 ∧ LPm A.1 (L - 1))))) ∧ ((bi false = 0 → (∀ x30 : Int32, x30 = I mid - 1 → J26 (I v) (I L) x30)) ∧ (¬ (bi false) = 0 → (∀ x31 : Int32, x31 = I mid + 1 → J26 (I mid) x31 (I M)))) := by
          intro hb
          refine ⟨fun x y z => x = I v ∧ y = I L ∧ z = I (mid - 1), ?_, fun _ x30 h30 => ⟨rfl, rfl, ?_⟩, fun c => absurd rfl c⟩
          · rintro x y z ⟨rfl, rfl, rfl⟩ x27 h27
            refine ⟨32 - (h + 1), by omega, h + 1, L, mid - 1, v, ?_, by omega, rfl, rfl, rfl, rfl, hkl3, hL, ⟨by omega, by omega⟩, fun w hw1 hw2 hp => hb (LP_mono a2.2.2.1 (by omega) hp), hdiv _ (by omega), hv⟩
            rw [h27]
            simp (disch := (first | omega | (unfold inr; omega))) only [I_lit, I_nI, I_neg, I_add, I_sub, I_mul, I_div, I_le, I_lt, I_eq, I_clamp, I_clampN, I_vin]
            congr 1
          · rw [h30]
            simp (disch := (first | omega | (unfold inr; omega))) only [I_lit, I_nI, I_neg, I_add, I_sub, I_mul, I_div, I_le, I_lt, I_eq, I_clamp, I_clampN, I_vin]
        have good : LPm A.1 mid → ∃ J26 : Int32 → Int32 → Int32 → Prop, (∀ (x23 : Int32) (x24 : Int32) (x25 : Int32), J26 x23 x24 x25 → (∀ x27 : Int32, x27 = I (h : Int) + 1 → ∃ m28, m28 < N ∧ ∃ (h : Nat) (L M v : Int), x27 = I (h : Nat) ∧ h ≤ 32 ∧ m28 = 32 - h ∧ x23 = I v ∧ x24 = I L ∧ x25 = I M ∧ KL s s22 ∧ (0 ≤ L ∧ L ≤ 601) ∧ (-20000 ≤ M ∧ M ≤ 600) ∧ (∀ w : Nat, w < 601 → M < w → ¬ LPm A.1 w) ∧ (M - L + 1).toNat ≤ 1023 / 2 ^ h ∧ ((L = 0 ∧ v = -4) ∨ (0 < L ∧ v = L - 1 ∧ LPm A.1 (L - 1))))) ∧ ((bi true = 0 → (∀ x30 : Int32, x30 = I mid - 1 → J26 (I v) (I L) x30)) ∧ (¬ (bi true) = 0 → (∀ x31 : Int32, x31 = I mid + 1 → J26 (I mid) x31 (I M)))) := by
          intro hb
          refine ⟨fun x y z => x = I mid ∧ y = I (mid + 1) ∧ z = I M, ?_, fun c => absurd c (by decide), fun _ x31 h31 => ⟨rfl, ?_, rfl⟩⟩
          · rintro x y z ⟨rfl, rfl, rfl⟩ x27 h27
            refine ⟨32 - (h + 1), by omega, h + 1, mid + 1, M, mid, ?_, by omega, rfl, rfl, rfl, rfl, hkl3, ⟨by omega, by omega⟩, hM, hab, hdiv _ (by omega), Or.inr ⟨by omega, by omega, by rw [show mid + 1 - 1 = mid by omega]; exact hb⟩⟩
            rw [h27]
            simp (disch := (first | omega | (unfold inr; omega))) only [I_lit, I_nI, I_neg, I_add, I_sub, I_mul, I_div, I_le, I_lt, I_eq, I_clamp, I_clampN, I_vin]
            congr 1
          · rw [h31]
            simp (disch := (first | omega | (unfold inr; omega))) only [I_lit, I_nI, I_neg, I_add, I_sub, I_mul, I_div, I_le, I_lt, I_eq, I_clamp, I_clampN, I_vin]
        refine ⟨fun c2 => bad (fun q2 => by rw [q2.1] at c2; cases c2), fun c2 => ?_⟩
        have c2 : okZ (TW A.1 mid) (HW A.1 mid) = true := by simpa using c2
        rw [hli, h55]
        refine ⟨fun c3 => bad (fun q2 => ?_), fun c3 => good ⟨c2, ?_⟩⟩
        · have := q2.2
          revert c3
          simp (disch := (first | omega | (unfold inr; omega))) only [I_lit, I_nI, I_neg, I_add, I_sub, I_mul, I_div, I_le, I_lt, I_eq, I_clamp, I_clampN, I_vin]
          omega
        · revert c3
          simp (disch := (first | omega | (unfold inr; omega))) only [I_lit, I_nI, I_neg, I_add, I_sub, I_mul, I_div, I_le, I_lt, I_eq, I_clamp, I_clampN, I_vin]
          omega
