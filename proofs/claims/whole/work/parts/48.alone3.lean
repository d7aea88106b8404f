-- calms
theorem e_calms {s : St} {A : Ab} (hR : RR s A) (x : Int32) : vc_Brt_calms x s (fun r s1 => vc_Mod_calms x s1 (fun r' s2 => r = r' ∧ RR s2 A)) := by
  obtain ⟨b, hb, rfl⟩ := I_of x
  have hk := hR.2.2.1.1
  have hrc := hR.1.1
  generalize ek : A.1 = k at hk hrc
  have a := hk.1
  have a5 := hk.2.1
  unfold vc_Brt_calms
  refine has_ok (n := k 9 1) ⟨by omega, by omega⟩ hrc.1.2.1 hb ?_
  rw [bi_f]
  constructor
  · intro z
    have z : 0 ≤ b ∧ b < k 9 1 := by simpa using z
    obtain ⟨b, rfl, hb1⟩ := nat_of z
    have hclb : (I (b : Int)).toNatClampNeg = b := I_clampN (by omega)
    have hinb : vp_in (I (b : Int)) 6 := I_vinN (by omega) (by decide)
    have hcb := hk.2.2.2 b hb1
    have hfe : 0 ≤ k 5 b ∧ k 5 b ≤ 9 := ⟨hcb.2.2.2.2.1, hcb.2.2.2.2.2.1⟩
    obtain ⟨F, eF⟩ : ∃ F : Nat, (F : Int) = k 5 b := ⟨(k 5 b).toNat, by omega⟩
    have hcm : ∀ n : Nat, n ≤ 10 → I (n : Int) * I (k 9 4) = I ((n : Int) * k 9 4) := fun n _ => I_mul _ _
    have mod : ∀ (r : Int32) (s1 : St), RR s1 A → ((∀ c : Nat, c ≤ F → ¬ okA k 5 b (k 5 b - c)) → r = I (-4)) → (∀ c : Nat, c ≤ F → okA k 5 b (k 5 b - c) → (∀ d : Nat, d < c → ¬ okA k 5 b (k 5 b - d)) → r = I ((c : Int) * k 9 4)) → vc_Mod_calms (I b) s1 (fun r' s2 => r = r' ∧ RR s2 A) := by
      intro r s1 hR1 hno hyes
      have hrm := hR1.2.1.1
      rw [ek] at hrm
      unfold vc_Mod_calms
      refine isBody_ok hk hrm hb ?_
      rw [bi_f]
      refine ⟨fun _ => ?_, fun q => by simp at q; omega⟩
      have hown : s1 83 (42 + 5 * b + (5 - 3)) = I (k 5 b) := (hrm.2.2 b hb1).1 2 (by decide)
      refine sp_of hrm hb1 (by omega) (w := 2) (by decide) rfl ?_
      show ∃ I18 : Nat → Int32 → Int32 → St → Prop, (∃ n19, I18 n19 (-4) (I (k 5 b)) s1) ∧ _
      refine ⟨fun N f c s' => ∃ n : Nat, n ≤ F + 1 ∧ N = n ∧ c = I ((n : Int) - 1) ∧ MV s1 s' (42 + 5 * b + (5 - 3)) ∧ ((f = I (-4) ∧ ∀ d : Nat, n ≤ d → d ≤ F → ¬ okA k 5 b (k 5 b - d)) ∨ ∃ e : Nat, f = I ((e : Int) * k 9 4) ∧ n ≤ e ∧ e ≤ F ∧ okA k 5 b (k 5 b - e) ∧ ∀ d : Nat, n ≤ d → d < e → ¬ okA k 5 b (k 5 b - d)), ⟨F + 1, F + 1, by omega, rfl, by congr 1; omega, MV.rf, Or.inl ⟨rfl, fun d h1 h2 => by omega⟩⟩, ?_⟩
      rintro N f c s' ⟨n, hn, rfl, rfl, hmv, hf⟩
      constructor
      · intro q
        have q : N = 0 := by
          revert q
          simp (disch := (first | omega | (unfold inr; omega))) only [I_lit, I_nI, I_neg, I_add, I_sub, I_mul, I_div, I_le, I_lt, I_eq, I_clamp, I_clampN, I_vin]
          omega
        subst q
        refine at_body (b := b) (by omega) (w := 2) (by decide) rfl ⟨I_vinN (by omega) (by decide), ?_⟩
        rw [I_clampN (by omega)]
        intro s24 hs24
        refine ⟨?_, RR_KM (by rw [hs24]; exact hmv.end hown.symm) hR1⟩
        rcases hf with ⟨hf, h1⟩ | ⟨e, hf, h1, h2, h3, h4⟩
        · rw [hf]
          exact hno (fun c h2 => h1 c (by omega) h2)
        · rw [hf]
          exact hyes e h2 h3 (fun d h5 => h4 d (by omega) h5)
      · intro q
        have q : 0 < N := by
          revert q
          simp (disch := (first | omega | (unfold inr; omega))) only [I_lit, I_nI, I_neg, I_add, I_sub, I_mul, I_div, I_le, I_lt, I_eq, I_clamp, I_clampN, I_vin]
          omega
        obtain ⟨n, rfl⟩ : ∃ n, N = n + 1 := ⟨N - 1, by omega⟩
        have en : (((n + 1 : Nat) : Int) - 1) = (n : Nat) := by omega
        rw [en]
        refine at_body (b := b) (by omega) (w := 2) (by decide) rfl ⟨I_vinN (by omega) (by decide), ?_⟩
        rw [I_clampN (by omega)]
        refine m_try (a := 5) (v := k 5 b - (n : Int)) hk (by omega) (Or.inr (Or.inl ⟨rfl, by omega, by omega⟩)) hb1 hrm hmv (by show I (k 5 b) - I n = _; rw [I_sub]) ?_
        intro s2 hmv2 hst _
        have nx : ∀ f2 : Int32, ((f2 = I (-4) ∧ ∀ d : Nat, n ≤ d → d ≤ F → ¬ okA k 5 b (k 5 b - d)) ∨ ∃ e : Nat, f2 = I ((e : Int) * k 9 4) ∧ n ≤ e ∧ e ≤ F ∧ okA k 5 b (k 5 b - e) ∧ ∀ d : Nat, n ≤ d → d < e → ¬ okA k 5 b (k 5 b - d)) → ∀ x32 : Int32, x32 = I (n : Nat) + (-1) → ∃ m33, m33 < n + 1 ∧ ∃ n : Nat, n ≤ F + 1 ∧ m33 = n ∧ x32 = I ((n : Int) - 1) ∧ MV s1 s2 (42 + 5 * b + (5 - 3)) ∧ ((f2 = I (-4) ∧ ∀ d : Nat, n ≤ d → d ≤ F → ¬ okA k 5 b (k 5 b - d)) ∨ ∃ e : Nat, f2 = I ((e : Int) * k 9 4) ∧ n ≤ e ∧ e ≤ F ∧ okA k 5 b (k 5 b - e) ∧ ∀ d : Nat, n ≤ d → d < e → ¬ okA k 5 b (k 5 b - d)) := by
          intro f2 hf2 x32 hx32
          refine ⟨n, by omega, n, by omega, rfl, ?_, hmv2, hf2⟩
          rw [hx32]
          simp (disch := (first | omega | (unfold inr; omega))) only [I_lit, I_nI, I_neg, I_add, I_sub, I_mul, I_div, I_le, I_lt, I_eq, I_clamp, I_clampN, I_vin]
          congr 1
        refine ⟨_, fun f2 h => h, fun z => nx _ ?_, fun z => ⟨v_in (a := 4) ⟨by decide, by decide⟩ (by decide) rfl, nx _ ?_⟩⟩
        · have z := hst.mp z
          rcases hf with ⟨hf, h1⟩ | ⟨e, hf, h1, h2, h3, h4⟩
          · refine Or.inl ⟨hf, fun d h2 h3 => ?_⟩
            by_cases e : d = n
            · rw [e]; exact z
            · exact h1 d (by omega) h3
          · refine Or.inr ⟨e, hf, by omega, h2, h3, fun d h5 h6 => ?_⟩
            by_cases e' : d = n
            · rw [e']; exact z
            · exact h4 d (by omega) h6
        · have z : okA k 5 b (k 5 b - (n : Int)) := Classical.byContradiction (fun q => z (hst.mpr q))
          refine Or.inr ⟨n, ?_, by omega, by omega, z, fun d h5 h6 => by omega⟩
          have e4 : s2 83 (Int32.toNatClampNeg 4) = I (k 9 4) := (hmv2.2.2 4 (by omega)).trans (hrm.1 4 (by decide))
          rw [e4, I_mul]
    refine sp_become hk hrc (by omega) ?_
    intro s1 hf1 hr1
    refine ⟨hinb, ?_⟩
    intro x15 hx15
    rw [hclb, hf1 14 b (by omega), show s 14 b = I (k 5 b) from (hrc.2.2 b hb1).2.2.1] at hx15
    subst hx15
    refine ⟨fun N c s' => ∃ n : Nat, n ≤ F + 1 ∧ N = F + 1 - n ∧ c = I (n : Nat) ∧ KC s s' ∧ (∃ v0, RC s' 35 (ku k 5 b v0)) ∧ ∀ d : Nat, d < n → ¬ okA k 5 b (k 5 b - d), ⟨F + 1, 0, by omega, rfl, rfl, KC_become hf1, ⟨k 5 b, by rw [ku_self]; exact hr1⟩, fun d h1 => by omega⟩, ?_⟩
    rintro N c s' ⟨n, hn, hN, rfl, hkc, ⟨v0, hrv⟩, hab⟩
    constructor
    · intro q
      have q : n = F + 1 := by
        revert q
        simp (disch := (first | omega | (unfold inr; omega))) only [I_lit, I_nI, I_neg, I_add, I_sub, I_mul, I_div, I_le, I_lt, I_eq, I_clamp, I_clampN, I_vin]
        omega
      subst q
      exact mod _ s' (RR_KC hkc hR) (fun _ => rfl) (fun c h1 h3 _ => absurd h3 (hab c (by omega)))
    · intro q
      have q : n ≤ F := by
        revert q
        simp (disch := (first | omega | (unfold inr; omega))) only [I_lit, I_nI, I_neg, I_add, I_sub, I_mul, I_div, I_le, I_lt, I_eq, I_clamp, I_clampN, I_vin]
        omega
      refine ⟨hinb, ?_⟩
      rw [hclb]
      refine c_try (a := 5) (v := k 5 b - (n : Int)) hk (by omega) (Or.inr (Or.inl ⟨rfl, by omega, by omega⟩)) hb1 hrv hkc rfl (by rw [I_sub]) ?_
      intro s2 hkc2 hr2 hst _ _
      constructor
      · intro z
        intro x26 hx26
        refine ⟨F + 1 - (n + 1), by omega, n + 1, by omega, rfl, ?_, hkc2, ⟨_, hr2⟩, fun d h1 => ?_⟩
        · rw [hx26]
          simp (disch := (first | omega | (unfold inr; omega))) only [I_lit, I_nI, I_neg, I_add, I_sub, I_mul, I_div, I_le, I_lt, I_eq, I_clamp, I_clampN, I_vin]
          congr 1
        · by_cases e : d = n
          · rw [e]; exact fun z2 => z (hst.mpr z2)
          · exact hab d (by omega)
      · intro z
        have z := hst.mp z
        have e13 : s2 1 3 = I (k 9 4) := (hkc2 1 3 (by omega)).trans hrc.1.2.2.2.2.1
        rw [e13, I_mul]
        refine mod _ s2 (RR_KC hkc2 hR) (fun h => absurd z (h n q)) (fun c h1 h3 h4 => ?_)
        have : c = n := by
          rcases Nat.lt_trichotomy c n with w | w | w
          · exact absurd h3 (hab c w)
          · exact w
          · exact absurd z (h4 _ w)
        rw [this]
  · intro z
    unfold vc_Mod_calms
    have hrm := hR.2.1.1
    rw [ek] at hrm
    refine isBody_ok hk hrm hb ?_
    rw [bi_f]
    exact ⟨fun q => absurd z q, fun _ => ⟨rfl, hR⟩⟩
-- posture
def postF (k : Kv) (b : Nat) : Nat → Int × Int
  | 0 => (-4, 1000)
  | i + 1 => if (wayZ (ku k 7 b i) b false 0 (k 9 2) 0).1 = -4 ∧ (wayZ (ku k 7 b i) b false 0 (k 9 2) 0).2.2 < (postF k b i).2 then ((i : Nat), (wayZ (ku k 7 b i) b false 0 (k 9 2) 0).2.2) else postF k b i
theorem postF_s (k : Kv) (b i : Nat) : postF k b (i + 1) = if (wayZ (ku k 7 b i) b false 0 (k 9 2) 0).1 = -4 ∧ (wayZ (ku k 7 b i) b false 0 (k 9 2) 0).2.2 < (postF k b i).2 then (((i : Nat) : Int), (wayZ (ku k 7 b i) b false 0 (k 9 2) 0).2.2) else postF k b i := rfl
def infZ (m x : Int) : Int := if x = 1000 then m else x
theorem e_posture {s : St} {A : Ab} (hR : RR s A) (x : Int32) : vc_Brt_posture x s (fun r s1 => vc_Mod_posture x s1 (fun r' s2 => r = r' ∧ RR s2 A)) := by
  obtain ⟨b, hb, rfl⟩ := I_of x
  have hk := hR.2.2.1.1
  have hrc := hR.1.1
  generalize ek : A.1 = k at hk hrc
  have a := hk.1
  have a5 := hk.2.1
  unfold vc_Brt_posture
  refine has_ok (n := k 9 1) ⟨by omega, by omega⟩ hrc.1.2.1 hb ?_
  rw [bi_f]
  constructor
  · intro z
    have z : 0 ≤ b ∧ b < k 9 1 := by simpa using z
    obtain ⟨b, rfl, hb1⟩ := nat_of z
    have hclb : (I (b : Int)).toNatClampNeg = b := I_clampN (by omega)
    have hinb : vp_in (I (b : Int)) 6 := I_vinN (by omega) (by decide)
    have hwy : ∀ n : Nat, n < 4 → 0 ≤ (wayZ (ku k 7 b n) b false 0 (k 9 2) 0).2.2 ∧ (wayZ (ku k 7 b n) b false 0 (k 9 2) 0).2.2 ≤ 12 := by
      intro n hn
      have hcv : CV (ku k 7 b n) := CV_put hk (Or.inr (Or.inr ⟨rfl, by omega, by omega⟩))
      have := wayZ_in hcv (b := b) (by rw [ku9 (by omega)]; exact hb1) false 0 (c := k 9 2) (br := 0) ⟨by omega, by omega⟩
      omega
    have hpf : ∀ n : Nat, n ≤ 4 → ((postF k b n).2 = 1000 ∨ 0 ≤ (postF k b n).2 ∧ (postF k b n).2 ≤ 12) := by
      intro n
      induction n with
      | zero => intro _; exact Or.inl rfl
      | succ n ih =>
        intro hn
        have := hwy n (by omega)
        unfold postF
        split
        · exact Or.inr this
        · exact ih (by omega)
    have step : ∀ n : Nat, n < 4 → ∀ m : Int, 1000 ≤ m → m ≤ 2147483647 → (I (wayZ (ku k 7 b n) b false 0 (k 9 2) 0).2.2 < I (infZ m (postF k b n).2) ↔ (wayZ (ku k 7 b n) b false 0 (k 9 2) 0).2.2 < (postF k b n).2) := by
      intro n hn m h1 h2
      have := hwy n hn
      have := hpf n (by omega)
      unfold infZ
      split
      · simp (disch := (first | omega | (unfold inr; omega))) only [I_lit, I_nI, I_neg, I_add, I_sub, I_mul, I_div, I_le, I_lt, I_eq, I_clamp, I_clampN, I_vin]
        omega
      · simp (disch := (first | omega | (unfold inr; omega))) only [I_lit, I_nI, I_neg, I_add, I_sub, I_mul, I_div, I_le, I_lt, I_eq, I_clamp, I_clampN, I_vin]
    refine sp_become hk hrc (by omega) ?_
    intro s1 hf1 hr1
    refine ⟨fun N f w c s' => ∃ n : Nat, n ≤ 4 ∧ N = 4 - n ∧ c = I (n : Nat) ∧ f = I (postF k b n).1 ∧ w = I (infZ 2147483647 (postF k b n).2) ∧ KC s s' ∧ ∃ v0, RC s' 35 (ku k 7 b v0), ⟨4, 0, by omega, rfl, rfl, rfl, rfl, KC_become hf1, ⟨k 7 b, by rw [ku_self]; exact hr1⟩⟩, ?_⟩
    rintro N f w c s' ⟨n, hn, hN, rfl, rfl, rfl, hkc, v0, hrv⟩
    constructor
    · intro q
      have q : n = 4 := by
        revert q
        simp (disch := (first | omega | (unfold inr; omega))) only [I_lit, I_nI, I_neg, I_add, I_sub, I_mul, I_div, I_le, I_lt, I_eq, I_clamp, I_clampN, I_vin]
        omega
      subst q
      have hR1 := RR_KC hkc hR
      have hrm := hR1.2.1.1
      rw [ek] at hrm
      unfold vc_Mod_posture
      refine isBody_ok hk hrm hb ?_
      rw [bi_f]
      refine ⟨fun _ => ?_, fun q => by simp at q; omega⟩
      have hown : s' 83 (42 + 5 * b + (7 - 3)) = I (k 7 b) := (hrm.2.2 b hb1).1 4 (by decide)
      refine sp_of hrm hb1 (by omega) (w := 4) (by decide) rfl ?_
      refine ⟨fun N f w c s2 => ∃ n : Nat, n ≤ 4 ∧ N = 4 - n ∧ c = I (n : Nat) ∧ f = I (postF k b n).1 ∧ w = I (infZ 1000000000 (postF k b n).2) ∧ MV s' s2 (42 + 5 * b + (7 - 3)), ⟨4, 0, by omega, rfl, rfl, rfl, rfl, MV.rf⟩, ?_⟩
      rintro N f w c s2 ⟨n, hn, hN, rfl, rfl, rfl, hmv⟩
      constructor
      · intro q
        have q : n = 4 := by
          revert q
          simp (disch := (first | omega | (unfold inr; omega))) only [I_lit, I_nI, I_neg, I_add, I_sub, I_mul, I_div, I_le, I_lt, I_eq, I_clamp, I_clampN, I_vin]
          omega
        subst q
        refine at_body (b := b) (by omega) (w := 4) (by decide) rfl ⟨I_vinN (by omega) (by decide), ?_⟩
        rw [I_clampN (by omega)]
        intro s25 hs25
        exact ⟨rfl, RR_KM (by rw [hs25]; exact hmv.end hown.symm) hR1⟩
      · intro q
        have q : n < 4 := by
          revert q
          simp (disch := (first | omega | (unfold inr; omega))) only [I_lit, I_nI, I_neg, I_add, I_sub, I_mul, I_div, I_le, I_lt, I_eq, I_clamp, I_clampN, I_vin]
          omega
        refine at_body (b := b) (by omega) (w := 4) (by decide) rfl ⟨I_vinN (by omega) (by decide), ?_⟩
        rw [I_clampN (by omega)]
        refine m_try (a := 7) (v := (n : Int)) hk (by omega) (Or.inr (Or.inr ⟨rfl, by omega, by omega⟩)) hb1 hrm hmv rfl ?_
        intro s3 hmv3 hst hbr
        rw [hbr]
        refine ⟨fun f2 w2 => f2 = I (postF k b (n + 1)).1 ∧ w2 = I (infZ 1000000000 (postF k b (n + 1)).2), ?_, ?_, ?_⟩
        · rintro f2 w2 ⟨rfl, rfl⟩ x34 hx34
          refine ⟨4 - (n + 1), by omega, n + 1, by omega, rfl, ?_, rfl, rfl, hmv3⟩
          rw [hx34]
          simp (disch := (first | omega | (unfold inr; omega))) only [I_lit, I_nI, I_neg, I_add, I_sub, I_mul, I_div, I_le, I_lt, I_eq, I_clamp, I_clampN, I_vin]
          congr 1
        · intro z
          have z := hst.mp z
          rw [postF_s]
          rw [if_neg (fun q => z q.1)]
          exact ⟨rfl, rfl⟩
        · intro z
          have z : okA k 7 b (n : Int) := Classical.byContradiction (fun q => z (hst.mpr q))
          rw [step n q _ (by decide) (by decide)]
          constructor
          · intro z2 x38 hx38
            subst hx38
            rw [postF_s]
            rw [if_pos ⟨z, z2⟩]
            refine ⟨rfl, ?_⟩
            have := hwy n q
            unfold infZ
            rw [if_neg (by simp only []; omega)]
          · intro z2
            rw [postF_s]
            rw [if_neg (fun q => z2 q.2)]
            exact ⟨rfl, rfl⟩
    · intro q
      have q : n < 4 := by
        revert q
        simp (disch := (first | omega | (unfold inr; omega))) only [I_lit, I_nI, I_neg, I_add, I_sub, I_mul, I_div, I_le, I_lt, I_eq, I_clamp, I_clampN, I_vin]
        omega
      refine ⟨hinb, ?_⟩
      rw [hclb]
      refine c_try (a := 7) (v := (n : Int)) hk (by omega) (Or.inr (Or.inr ⟨rfl, by omega, by omega⟩)) hb1 hrv hkc rfl rfl ?_
      intro s2 hkc2 hr2 hst hbr _
      rw [hbr]
      have nle : I (infZ 2147483647 (postF k b n).2) ≤ I (wayZ (ku k 7 b n) b false 0 (k 9 2) 0).2.2 ↔ ¬ (wayZ (ku k 7 b n) b false 0 (k 9 2) 0).2.2 < (postF k b n).2 := by
        rw [← step n q 2147483647 (by decide) (by decide)]
        have := hwy n q
        have := hpf n (by omega)
        unfold infZ
        split <;> (simp (disch := (first | omega | (unfold inr; omega))) only [I_lit, I_nI, I_neg, I_add, I_sub, I_mul, I_div, I_le, I_lt, I_eq, I_clamp, I_clampN, I_vin]; omega)
      rw [nle]
      refine ⟨fun f2 w2 => f2 = I (postF k b (n + 1)).1 ∧ w2 = I (infZ 2147483647 (postF k b (n + 1)).2), ?_, ?_, ?_⟩
      · rintro f2 w2 ⟨rfl, rfl⟩ x28 hx28
        refine ⟨4 - (n + 1), by omega, n + 1, by omega, rfl, ?_, rfl, rfl, hkc2, _, hr2⟩
        rw [hx28]
        simp (disch := (first | omega | (unfold inr; omega))) only [I_lit, I_nI, I_neg, I_add, I_sub, I_mul, I_div, I_le, I_lt, I_eq, I_clamp, I_clampN, I_vin]
        congr 1
      · intro z
        have z : ¬ okA k 7 b (n : Int) := fun q => z (hst.mpr q)
        rw [postF_s]
        rw [if_neg (fun q => z q.1)]
        exact ⟨rfl, rfl⟩
      · intro z
        have z := hst.mp z
        constructor
        · intro z2
          rw [postF_s]
          rw [if_neg (fun q => z2 q.2)]
          exact ⟨rfl, rfl⟩
        · intro z2 x32 hx32
          have z2 : (wayZ (ku k 7 b n) b false 0 (k 9 2) 0).2.2 < (postF k b n).2 := Classical.byContradiction (fun q => z2 q)
          subst hx32
          rw [postF_s]
          rw [if_pos ⟨z, z2⟩]
          refine ⟨rfl, ?_⟩
          have := hwy n q
          unfold infZ
          rw [if_neg (by simp only []; omega)]
  · intro z
    unfold vc_Mod_posture
    have hrm := hR.2.1.1
    rw [ek] at hrm
    refine isBody_ok hk hrm hb ?_
    rw [bi_f]
    exact ⟨fun q => absurd z q, fun _ => ⟨rfl, hR⟩⟩
