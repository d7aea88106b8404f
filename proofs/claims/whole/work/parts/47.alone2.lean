/-- b alone is not stuck on the way there, with the a-th of its numbers being v -/
def okA (k : Kv) (a b : Nat) (v : Int) : Prop := (wayZ (ku k a b v) b false 0 (k 9 2) 0).1 = -4
theorem ku9 {k : Kv} {a b : Nat} {v : Int} (ha : a ≤ 8) (i : Nat) : ku k a b v 9 i = k 9 i := ku_ne (by omega)
/-- the trial goes there alone (class), the model likewise -/
theorem c_try {s s' : St} {k : Kv} {a b : Nat} {v0 v : Int} (hk : CV k) (ha : a = 3 ∨ a = 5 ∨ a = 7) (hv : (a = 3 ∧ 10 ≤ v ∧ v ≤ 50) ∨ (a = 5 ∧ 0 ≤ v ∧ v ≤ 9) ∨ (a = 7 ∧ 0 ≤ v ∧ v ≤ 3)) (hb : (b : Int) < k 9 1) (hr : RC s' 35 (ku k a b v0)) (hs : KC s s') {p : Nat} (hp : p = 35 + 8 + a) {x : Int32} (hx : x = I v) {Q : Nat → St → Prop}
    (hQ : ∀ s2 : St, KC s s2 → RC s2 35 (ku k a b v) → (s2 53 2 = -4 ↔ okA k a b v) → s2 53 5 = I (wayZ (ku k a b v) b false 0 (k 9 2) 0).2.2 → Q 53 s2) : ∀ s1 : St, s1 = wr s' p b x → vc_Tri_alone 52 35 (I b) 0 s1 Q := by
  have a1 := hk.1
  intro s1 hs1
  subst hp hx
  have hr1 : RC s1 35 (ku k a b v) := by
    rw [hs1]
    have := RC_put hr (a := a) (b := b) (v := v) (by omega)
    rw [ku_ku] at this
    exact this
  have hk1 : KC s s1 := by
    rw [hs1]
    exact hs.tr (KC.wr (by omega))
  have hcv : CV (ku k a b v) := CV_put hk hv
  have h9 : ∀ i, ku k a b v 9 i = k 9 i := ku9 (by omega)
  refine sp_alone hcv hr1 (by decide) (by rw [h9]; exact hb) false rfl ?_
  have hal := alone_st (ku k a b v) b false (ku k a b v 9 2) (s1 54)
  rw [h9] at hal ⊢
  refine hQ _ (hk1.tr (KC.al (Or.inl rfl))) (RC_AL (by decide) (Or.inl rfl) hr1) ?_ ?_
  · exact (AL_st (by omega) hal.2.1).trans hal.1
  · show AL s1 b 53 _ 53 5 = _
    rw [AL_f]
    exact congrArg I hal.2.2.2.2
theorem m_try {s s' : St} {k : Kv} {a b : Nat} {v : Int} (hk : CV k) (ha : a = 3 ∨ a = 5 ∨ a = 7) (hv : (a = 3 ∧ 10 ≤ v ∧ v ≤ 50) ∨ (a = 5 ∧ 0 ≤ v ∧ v ≤ 9) ∨ (a = 7 ∧ 0 ≤ v ∧ v ≤ 3)) (hb : (b : Int) < k 9 1) (hr : RM s 83 k) (hs : MV s s' (42 + 5 * b + (a - 3))) {x : Int32} (hx : x = I v) {Q : St → Prop}
    (hQ : ∀ s2 : St, MV s s2 (42 + 5 * b + (a - 3)) → (0 ≤ s2 82 6 ↔ ¬ okA k a b v) → s2 82 5 = I (wayZ (ku k a b v) b false 0 (k 9 2) 0).2.2 → Q s2) : ∀ s1 : St, s1 = wr s' 83 (42 + 5 * b + (a - 3)) x → vc_Mod_wayAlone (I b) 0 s1 Q := by
  have a1 := hk.1
  have a5 := hk.2.1
  intro s1 hs1
  have hmv : MV s s1 (42 + 5 * b + (a - 3)) := by rw [hs1]; exact hs.put
  have hr1 : RM s1 83 (ku k a b v) := RM_put hr ⟨by omega, by omega⟩ (by omega) (by omega) (by rw [hs1, wr_at, hx]) hmv.2.2
  have hcv : CV (ku k a b v) := CV_put hk hv
  have h9 : ∀ i, ku k a b v 9 i = k 9 i := ku9 (by omega)
  refine sp_mway hcv hr1 (by rw [h9]; exact hb) false rfl ?_
  rw [h9]
  refine hQ _ (hmv.ms (wayM_ne ⟨by decide, by decide, by decide⟩)) ?_ rfl
  have hwi := wayZ_in hcv (by rw [h9]; exact hb) false 0 (c := k 9 2) (br := 0) ⟨by omega, by omega⟩
  rw [h9] at hwi
  show 0 ≤ I (wayZ (ku k a b v) b false 0 (k 9 2) 0).1 ↔ _
  unfold okA
  simp (disch := (first | omega | (unfold inr; omega))) only [I_lit, I_nI, I_neg, I_add, I_sub, I_mul, I_div, I_le, I_lt, I_eq, I_clamp, I_clampN, I_vin]
  omega
theorem KC_become {s s' : St} (h : ∀ r j, (r < 35 ∨ 35 + 16 < r) → s' r j = s r j) : KC s s' := fun p j hp => h p j (by omega)
theorem at_bodyW {b w : Nat} (hb : b < 6) (hw : w < 5) {x : Int32} (hx : x = I (w : Int)) {Q : Nat → Prop} (h : Q (42 + 5 * b + w)) : vc_Mod_atBody (I b) x (fun z => (vp_in z 78 ∧ Q (Int32.toNatClampNeg z))) := by
  refine at_body hb hw hx ⟨I_vinN (by omega) (by decide), ?_⟩
  rw [I_clampN (by omega)]
  exact h
-- widest
theorem great_or {P : Nat → Prop} [DecidablePred P] (lo n : Nat) : (∀ h, lo ≤ h → h < lo + n → ¬ P h) ∨ ∃ h0, lo ≤ h0 ∧ h0 < lo + n ∧ P h0 ∧ ∀ h, h0 < h → h < lo + n → ¬ P h := by
  induction n with
  | zero => exact Or.inl (fun h z1 z2 => by omega)
  | succ n ih =>
    by_cases z : P (lo + n)
    · exact Or.inr ⟨lo + n, by omega, by omega, z, fun h h1 h2 => by omega⟩
    · rcases ih with h | ⟨h0, h1, h2, h3, h4⟩
      · refine Or.inl (fun j h1 h2 => ?_)
        by_cases e : j = lo + n
        · rw [e]; exact z
        · exact h j h1 (by omega)
      · refine Or.inr ⟨h0, h1, by omega, h3, fun h h5 h6 => ?_⟩
        by_cases e : h = lo + n
        · rw [e]; exact z
        · exact h4 h h5 (by omega)
theorem e_widest {s : St} {A : Ab} (hR : RR s A) (x : Int32) : vc_Brt_widest x s (fun r s1 => vc_Mod_widest x s1 (fun r' s2 => r = r' ∧ RR s2 A)) := by
  obtain ⟨b, hb, rfl⟩ := I_of x
  have hk := hR.2.2.1.1
  have hrc := hR.1.1
  generalize ek : A.1 = k at hk hrc
  have a := hk.1
  have a5 := hk.2.1
  unfold vc_Brt_widest
  refine has_ok (n := k 9 1) ⟨by omega, by omega⟩ hrc.1.2.1 hb ?_
  rw [bi_f]
  constructor
  · intro z
    have z : 0 ≤ b ∧ b < k 9 1 := by simpa using z
    obtain ⟨b, rfl, hb1⟩ := nat_of z
    have hclb : (I (b : Int)).toNatClampNeg = b := I_clampN (by omega)
    have hinb : vp_in (I (b : Int)) 6 := I_vinN (by omega) (by decide)
    -- the model
    have mod : ∀ (r : Int32) (s1 : St), RR s1 A → ((∀ c : Nat, 10 ≤ c → c ≤ 50 → ¬ okA k 3 b c) → r = I (-4)) → (∀ c : Nat, 10 ≤ c → c ≤ 50 → okA k 3 b c → (∀ d : Nat, c < d → d ≤ 50 → ¬ okA k 3 b d) → r = I c) → vc_Mod_widest (I b) s1 (fun r' s2 => r = r' ∧ RR s2 A) := by
      intro r s1 hR1 hno hyes
      have hrm := hR1.2.1.1
      rw [ek] at hrm
      unfold vc_Mod_widest
      refine isBody_ok hk hrm hb ?_
      rw [bi_f]
      refine ⟨fun _ => ?_, fun q => by simp at q; omega⟩
      have hown : s1 83 (42 + 5 * b + (3 - 3)) = I (k 3 b) := (hrm.2.2 b hb1).1 0 (by decide)
      refine sp_of hrm hb1 (by omega) (w := 0) (by decide) rfl ?_
      refine ⟨fun N f c s' => ∃ n : Nat, n ≤ 41 ∧ N = 41 - n ∧ c = I ((10 + n : Nat) : Int) ∧ MV s1 s' (42 + 5 * b + (3 - 3)) ∧ ((f = I (-4) ∧ ∀ d : Nat, 10 ≤ d → d < 10 + n → ¬ okA k 3 b d) ∨ ∃ e : Nat, f = I (e : Nat) ∧ 10 ≤ e ∧ e < 10 + n ∧ okA k 3 b e ∧ ∀ d : Nat, e < d → d < 10 + n → ¬ okA k 3 b d), ⟨41, 0, by omega, rfl, rfl, MV.rf, Or.inl ⟨rfl, fun d h1 h2 => by omega⟩⟩, ?_⟩
      rintro N f c s' ⟨n, hn, hN, rfl, hmv, hf⟩
      constructor
      · intro q
        have q : n = 41 := by
          revert q
          simp (disch := (first | omega | (unfold inr; omega))) only [I_lit, I_nI, I_neg, I_add, I_sub, I_mul, I_div, I_le, I_lt, I_eq, I_clamp, I_clampN, I_vin]
          omega
        refine at_body (b := b) (by omega) (w := 0) (by decide) rfl ⟨I_vinN (by omega) (by decide), ?_⟩
        rw [I_clampN (by omega)]
        intro s24 hs24
        refine ⟨?_, RR_KM (by rw [hs24]; exact hmv.end hown.symm) hR1⟩
        rcases hf with ⟨hf, h1⟩ | ⟨e, hf, h1, h2, h3, h4⟩
        · rw [hf]
          exact hno (fun c h2 h3 => h1 c h2 (by omega))
        · rw [hf]
          exact hyes e h1 (by omega) h3 (fun d h5 h6 => h4 d h5 (by omega))
      · intro q
        have q : n < 41 := by
          revert q
          simp (disch := (first | omega | (unfold inr; omega))) only [I_lit, I_nI, I_neg, I_add, I_sub, I_mul, I_div, I_le, I_lt, I_eq, I_clamp, I_clampN, I_vin]
          omega
        refine at_body (b := b) (by omega) (w := 0) (by decide) rfl ⟨I_vinN (by omega) (by decide), ?_⟩
        rw [I_clampN (by omega)]
        refine m_try (a := 3) (v := ((10 + n : Nat) : Int)) hk (by omega) (Or.inl ⟨rfl, by omega, by omega⟩) hb1 hrm hmv rfl ?_
        intro s2 hmv2 hst _
        have nx : ∀ f2 : Int32, ((f2 = I (-4) ∧ ∀ d : Nat, 10 ≤ d → d < 10 + (n + 1) → ¬ okA k 3 b d) ∨ ∃ e : Nat, f2 = I (e : Nat) ∧ 10 ≤ e ∧ e < 10 + (n + 1) ∧ okA k 3 b e ∧ ∀ d : Nat, e < d → d < 10 + (n + 1) → ¬ okA k 3 b d) → ∀ x32 : Int32, x32 = I ((10 + n : Nat) : Int) + 1 → ∃ m33, m33 < N ∧ ∃ n : Nat, n ≤ 41 ∧ m33 = 41 - n ∧ x32 = I ((10 + n : Nat) : Int) ∧ MV s1 s2 (42 + 5 * b + (3 - 3)) ∧ ((f2 = I (-4) ∧ ∀ d : Nat, 10 ≤ d → d < 10 + n → ¬ okA k 3 b d) ∨ ∃ e : Nat, f2 = I (e : Nat) ∧ 10 ≤ e ∧ e < 10 + n ∧ okA k 3 b e ∧ ∀ d : Nat, e < d → d < 10 + n → ¬ okA k 3 b d) := by
          intro f2 hf2 x32 hx32
          refine ⟨41 - (n + 1), by omega, n + 1, by omega, rfl, ?_, hmv2, hf2⟩
          rw [hx32]
          simp (disch := (first | omega | (unfold inr; omega))) only [I_lit, I_nI, I_neg, I_add, I_sub, I_mul, I_div, I_le, I_lt, I_eq, I_clamp, I_clampN, I_vin]
          congr 1
        refine ⟨_, fun f2 h => h, fun z => nx _ ?_, fun z => nx _ ?_⟩
        · have z := hst.mp z
          rcases hf with ⟨hf, h1⟩ | ⟨e, hf, h1, h2, h3, h4⟩
          · refine Or.inl ⟨hf, fun d h2 h3 => ?_⟩
            by_cases e : d = 10 + n
            · rw [e]; exact z
            · exact h1 d h2 (by omega)
          · refine Or.inr ⟨e, hf, h1, by omega, h3, fun d h5 h6 => ?_⟩
            by_cases e' : d = 10 + n
            · rw [e']; exact z
            · exact h4 d h5 (by omega)
        · have z : okA k 3 b ((10 + n : Nat) : Int) := Classical.byContradiction (fun q => z (hst.mpr q))
          exact Or.inr ⟨10 + n, rfl, by omega, by omega, z, fun d h5 h6 => by omega⟩
    refine sp_become hk hrc (by omega) ?_
    intro s1 hf1 hr1
    refine ⟨fun N c s' => ∃ n : Nat, n ≤ 41 ∧ N = n ∧ c = I ((9 + n : Nat) : Int) ∧ KC s s' ∧ (∃ v0, RC s' 35 (ku k 3 b v0)) ∧ ∀ d : Nat, 9 + n < d → d ≤ 50 → ¬ okA k 3 b d, ⟨41, 41, by omega, rfl, rfl, KC_become hf1, ⟨k 3 b, by rw [ku_self]; exact hr1⟩, fun d h1 h2 => by omega⟩, ?_⟩
    rintro N c s' ⟨n, hn, rfl, rfl, hkc, ⟨v0, hrv⟩, hab⟩
    constructor
    · intro q
      have q : N = 0 := by
        revert q
        simp (disch := (first | omega | (unfold inr; omega))) only [I_lit, I_nI, I_neg, I_add, I_sub, I_mul, I_div, I_le, I_lt, I_eq, I_clamp, I_clampN, I_vin]
        omega
      subst q
      exact mod _ s' (RR_KC hkc hR) (fun _ => rfl) (fun c h1 h2 h3 _ => absurd h3 (hab c (by omega) h2))
    · intro q
      have q : 0 < N := by
        revert q
        simp (disch := (first | omega | (unfold inr; omega))) only [I_lit, I_nI, I_neg, I_add, I_sub, I_mul, I_div, I_le, I_lt, I_eq, I_clamp, I_clampN, I_vin]
        omega
      refine ⟨hinb, ?_⟩
      rw [hclb]
      refine c_try (a := 3) (v := ((9 + N : Nat) : Int)) hk (by omega) (Or.inl ⟨rfl, by omega, by omega⟩) hb1 hrv hkc rfl rfl ?_
      intro s2 hkc2 hr2 hst _ _
      constructor
      · intro z
        intro x24 hx24
        refine ⟨N - 1, by omega, N - 1, by omega, rfl, ?_, hkc2, ⟨_, hr2⟩, fun d h1 h2 => ?_⟩
        · rw [hx24]
          simp (disch := (first | omega | (unfold inr; omega))) only [I_lit, I_nI, I_neg, I_add, I_sub, I_mul, I_div, I_le, I_lt, I_eq, I_clamp, I_clampN, I_vin]
          omega
        · by_cases e : d = 9 + N
          · rw [e]; exact fun z2 => z (hst.mpr z2)
          · exact hab d (by omega) h2
      · intro z
        have z := hst.mp z
        refine mod _ s2 (RR_KC hkc2 hR) (fun h => absurd z (h (9 + N) (by omega) (by omega))) (fun c h1 h2 h3 h4 => ?_)
        have : c = 9 + N := by
          rcases Nat.lt_trichotomy c (9 + N) with w | w | w
          · exact absurd z (h4 _ w (by omega))
          · exact w
          · exact absurd h3 (hab c w h2)
        rw [this]
  · intro z
    unfold vc_Mod_widest
    have hrm := hR.2.1.1
    rw [ek] at hrm
    refine isBody_ok hk hrm hb ?_
    rw [bi_f]
    exact ⟨fun q => absurd z q, fun _ => ⟨rfl, hR⟩⟩
