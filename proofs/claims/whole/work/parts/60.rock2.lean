-- rock, forged
/-- the refusals of rock and forged -/
def rrZ (A : Ab) (b d : Int) : Int := if 0 ≤ b ∧ b < A.1 9 1 then (if refZ A.2.2.2.1 2 d = 0 then (if A.2.2.2.1 d.toNat 4 ≤ A.1 9 0 then 0 else -13) else refZ A.2.2.2.1 2 d) else -1
theorem rr_in (A : Ab) (b d : Int) : rrZ A b d = -1 ∨ rrZ A b d = -11 ∨ rrZ A b d = -12 ∨ rrZ A b d = -13 ∨ rrZ A b d = 0 := by
  have := ref_in A.2.2.2.1 2 d
  unfold rrZ
  repeat' split
  all_goals omega
theorem rr_0 {A : Ab} {b d : Int} : rrZ A b d = 0 ↔ (0 ≤ b ∧ b < A.1 9 1) ∧ ((0 ≤ d ∧ d ≤ 7) ∧ A.2.2.2.1 d.toNat 0 = 2) ∧ A.2.2.2.1 d.toNat 4 ≤ A.1 9 0 := by
  have := ref_0 (sh := A.2.2.2.1) (w := 2) (d := d) (Or.inr rfl)
  have := ref_in A.2.2.2.1 2 d
  unfold rrZ
  repeat' split
  all_goals omega
theorem c_rr {s : St} {A : Ab} (hR : RR s A) {b d : Int} (hb : inr b) (hd : inr d) {Q : Int32 → Prop} (h : Q (I (rrZ A b d))) : vc_Brt_refusalOfRock (I b) (I d) s Q := by
  have a := hR.2.2.1.1.1
  have hri := ref_in A.2.2.2.1 2 d
  have e0 : (I (refZ A.2.2.2.1 2 d) = 0) ↔ refZ A.2.2.2.1 2 d = 0 := by simp (disch := (first | omega | (unfold inr; omega))) only [I_lit, I_nI, I_neg, I_add, I_sub, I_mul, I_div, I_le, I_lt, I_eq, I_clamp, I_clampN, I_vin]
  unfold vc_Brt_refusalOfRock
  refine has_ok (n := A.1 9 1) ⟨by omega, by omega⟩ hR.1.1.1.2.1 hb ?_
  rw [bi_f]
  unfold rrZ at h
  constructor
  · intro z
    have z : 0 ≤ b ∧ b < A.1 9 1 := by simpa using z
    rw [if_pos z] at h
    refine c_refR hR hd ?_
    rw [e0]
    constructor
    · intro c
      have c2 := (ref_0 (Or.inr rfl)).mp c
      obtain ⟨d, rfl, hd8⟩ := nat_of (n := 8) ⟨c2.1.1, by omega⟩
      have c3 : A.2.2.2.1 d 0 = 2 := by simpa using c2.2
      have h2 := (hR.1.2.2.2.1 d (by omega)).2.2 c3
      have h3 := ((hR.2.2.2.2 d (by omega)).2.2 c3).1
      rw [if_pos c, Int.toNat_natCast] at h
      rw [shp_I (by omega), h2.2.1, show s 2 0 = I (A.1 9 0) from hR.1.1.1.1, show (I (A.2.2.2.1 d 4) ≤ I (A.1 9 0)) ↔ A.2.2.2.1 d 4 ≤ A.1 9 0 from by simp (disch := (first | omega | (unfold inr; omega))) only [I_lit, I_nI, I_neg, I_add, I_sub, I_mul, I_div, I_le, I_lt, I_eq, I_clamp, I_clampN, I_vin]]
      refine ⟨I_vinN (by omega) (by decide), fun c4 => ?_, fun c4 => ?_⟩
      · rw [if_pos c4] at h; exact h
      · rw [if_neg c4] at h; exact h
    · intro c
      rw [if_neg c] at h
      exact h
  · intro z
    rw [if_neg (of_decide_eq_false z)] at h
    exact h
theorem m_rr {s : St} {A : Ab} (hR : RR s A) {b d : Int} (hb : inr b) (hd : inr d) {Q : Int32 → Prop} (h : Q (I (rrZ A b d))) : vc_Mod_wrongRocks (I b) (I d) s Q := by
  have a := hR.2.2.1.1.1
  have hri := ref_in A.2.2.2.1 2 d
  have e0 : (I (refZ A.2.2.2.1 2 d) = 0) ↔ refZ A.2.2.2.1 2 d = 0 := by simp (disch := (first | omega | (unfold inr; omega))) only [I_lit, I_nI, I_neg, I_add, I_sub, I_mul, I_div, I_le, I_lt, I_eq, I_clamp, I_clampN, I_vin]
  unfold vc_Mod_wrongRocks
  refine isBody_ok hR.2.2.1.1 hR.2.1.1 hb ?_
  rw [bi_f]
  unfold rrZ at h
  constructor
  · intro z
    have z : 0 ≤ b ∧ b < A.1 9 1 := by simpa using z
    rw [if_pos z] at h
    refine m_refR hR.2.1.2.2.2 hR.2.2.2.2 hd ?_
    rw [e0]
    constructor
    · intro c
      have c2 := (ref_0 (Or.inr rfl)).mp c
      obtain ⟨d, rfl, hd8⟩ := nat_of (n := 8) ⟨c2.1.1, by omega⟩
      have c3 : A.2.2.2.1 d 0 = 2 := by simpa using c2.2
      have h2 := (hR.2.1.2.2.2 d (by omega)).2.2 c3
      have h3 := ((hR.2.2.2.2 d (by omega)).2.2 c3).1
      rw [if_pos c, Int.toNat_natCast] at h
      rw [I_clampN (by omega), h2.2.1, show s 83 (Int32.toNatClampNeg 0) = I (A.1 9 0) from hR.2.1.1.1 0 (by decide), show (I (A.2.2.2.1 d 4) ≤ I (A.1 9 0)) ↔ A.2.2.2.1 d 4 ≤ A.1 9 0 from by simp (disch := (first | omega | (unfold inr; omega))) only [I_lit, I_nI, I_neg, I_add, I_sub, I_mul, I_div, I_le, I_lt, I_eq, I_clamp, I_clampN, I_vin]]
      refine ⟨I_vinN (by omega) (by decide), v_in (a := 0) ⟨by decide, by decide⟩ (by decide) rfl, fun c4 => ?_, fun c4 => ?_⟩
      · rw [if_pos c4] at h; exact h
      · rw [if_neg c4] at h; exact h
    · intro c
      rw [if_neg c] at h
      exact h
  · intro z
    rw [if_neg (of_decide_eq_false z)] at h
    exact h
/-- CHESTS from 50 on down: how many are so, the least -/
def rockF (G : Nat → Nat) (l : Nat) : Nat → Int32 × Int32
  | 0 => (0, -4)
  | n + 1 => if G (50 - n) = l then ((rockF G l n).1 + 1, I (50 - n : Nat)) else rockF G l n
theorem rockF_s (G : Nat → Nat) (l n : Nat) : rockF G l (n + 1) = if G (50 - n) = l then ((rockF G l n).1 + 1, I (50 - n : Nat)) else rockF G l n := rfl
def farF (G : Nat → Nat) : Nat → Nat
  | 0 => 0
  | n + 1 => max (farF G n) (G (10 + n))
noncomputable def rockG (A : Ab) (b d : Nat) (c : Nat) : Nat := fst1 (badP (ku A.1 3 b c) b (A.2.2.2.1 d 3) (A.2.2.2.2 d)) (A.2.2.2.1 d 4).toNat
theorem c_rockG {s s' : St} {A : Ab} (hR : RR s A) {b d : Nat} (hb : (b : Int) < A.1 9 1) (hd : d < 8) (h0 : A.2.2.2.1 d 0 = 2) (hl : A.2.2.2.1 d 4 ≤ A.1 9 0) {c : Nat} (hc : 10 ≤ c ∧ c ≤ 50) {v0 : Int} (hs : KC s s') (hr : RC s' 35 (ku A.1 3 b v0)) {Q : St → Int32 → Prop} (hQ : ∀ s2, KC s s2 → RC s2 35 (ku A.1 3 b c) → Q s2 (I (rockG A b d c : Nat))) : ∀ s2 : St, s2 = wr s' 46 b (I (c : Nat)) → vc_Brt_firstUnlike (I b) (66 + 2 * d) s2 (Q s2) := by
  intro s2 h2
  have hr2 : RC s2 35 (ku A.1 3 b c) := by
    have := RC_put hr (a := 3) (b := b) (by decide) (v := (c : Int))
    rw [ku_ku] at this
    rw [h2]
    exact this
  have hk2 : KC s s2 := by rw [h2]; exact hs.tr (KC.wr (by omega))
  have hcv : CV (ku A.1 3 b c) := CV_put hR.2.2.1.1 (Or.inl ⟨rfl, by omega, by omega⟩)
  have h9 : ∀ i, ku A.1 3 b (c : Int) 9 i = A.1 9 i := ku9 (by omega)
  have hS := (RR_KC hk2 hR).1.2.2.2.1 d hd
  have hV := ((hR.2.2.2.2 d hd).2.2 h0).1
  obtain ⟨e3, e4, e5⟩ := hS.2.2 h0
  refine c_first hcv hr2 (so := A.2.2.2.1 d 3) (l := (A.2.2.2.1 d 4).toNat) (sc := A.2.2.2.2 d) ⟨by omega, by omega⟩ e3 (by rw [e4]; congr 1; omega) (by omega) (by rw [h9]; omega) (fun j hj => by rw [show 66 + 2 * d + 1 = 67 + 2 * d by omega]; exact e5 j hj) (by rw [h9]; exact hb) ?_
  exact hQ s2 hk2 hr2
theorem m_rockG {s s' : St} {A : Ab} (hR : RR s A) {b d : Nat} (hb : (b : Int) < A.1 9 1) (hd : d < 8) (h0 : A.2.2.2.1 d 0 = 2) (hl : A.2.2.2.1 d 4 ≤ A.1 9 0) {c : Nat} (hc : 10 ≤ c ∧ c ≤ 50) (hs : KM s s') {Q : Int32 → St → Prop} (hQ : ∀ s2, KM s s2 → s2 96 d = I (A.2.2.2.1 d 4) → Q (I (rockG A b d c : Nat)) s2) : vc_Mod_wrongRock (I b) (I d) (I (c : Nat)) s' Q := by
  have hR2 := RR_KM hs hR
  have hM := hR2.2.1.2.2.2 d hd
  have hV := ((hR.2.2.2.2 d hd).2.2 h0).1
  obtain ⟨e3, e4, e5⟩ := hM.2.2 h0
  refine m_wrong hR.2.2.1.1 hR2.2.1.1 hb hd (so := A.2.2.2.1 d 3) (l := (A.2.2.2.1 d 4).toNat) (sc := A.2.2.2.2 d) ⟨by omega, by omega⟩ e3 (by rw [e4]; congr 1; omega) (by omega) (by omega) e5 ⟨by omega, by omega⟩ ?_
  intro s2 hk2
  refine hQ s2 (hs.tr hk2) ?_
  rw [hk2.1 96 d (by omega), e4]
theorem e_rock {s : St} {A : Ab} (hR : RR s A) (x y z : Int32) : vc_Brt_rock x y z s (fun r s1 => vc_Mod_rock x y z s1 (fun r' s2 => r = r' ∧ RR s2 A)) := by
  obtain ⟨b, hb, rfl⟩ := I_of x
  obtain ⟨d, hd, rfl⟩ := I_of y
  obtain ⟨w, hw, rfl⟩ := I_of z
  have hri := rr_in A b d
  have e0 : (I (rrZ A b d) = 0) ↔ rrZ A b d = 0 := by simp (disch := (first | omega | (unfold inr; omega))) only [I_lit, I_nI, I_neg, I_add, I_sub, I_mul, I_div, I_le, I_lt, I_eq, I_clamp, I_clampN, I_vin]
  have ew : (I w = 0) ↔ w = 0 := by simp (disch := (first | omega | (unfold inr; omega))) only [I_lit, I_nI, I_neg, I_add, I_sub, I_mul, I_div, I_le, I_lt, I_eq, I_clamp, I_clampN, I_vin]
  have b1 : vc_Brt_within (I w) 0 1 = vc_Brt_within (I w) (I 0) (I 1) := rfl
  have n1 : vc_Mod_isIn (I w) 0 1 = vc_Mod_isIn (I w) (I 0) (I 1) := rfl
  have hk := hR.2.2.1.1
  have a := hk.1
  have mod : ∀ (s1 : St) (r : Int32), RR s1 A → (¬ (0 ≤ w ∧ w ≤ 1) → r = -1) → ((0 ≤ w ∧ w ≤ 1) → ¬ rrZ A b d = 0 → r = I (rrZ A b d)) → ((0 ≤ w ∧ w ≤ 1) → rrZ A b d = 0 → r = if w = 0 then (rockF (rockG A b.toNat d.toNat) (A.2.2.2.1 d.toNat 4).toNat 41).1 else (rockF (rockG A b.toNat d.toNat) (A.2.2.2.1 d.toNat 4).toNat 41).2) → vc_Mod_rock (I b) (I d) (I w) s1 (fun r' s2 => r = r' ∧ RR s2 A) := by
    intro s1 r hR1 h1 h2 h3
    unfold vc_Mod_rock
    rw [n1]
    refine sp_isIn hw ⟨by decide, by decide⟩ ⟨by decide, by decide⟩ ?_
    rw [bi_f]
    refine ⟨fun q => ?_, fun q => ⟨h1 (of_decide_eq_false q), hR1⟩⟩
    have q : 0 ≤ w ∧ w ≤ 1 := by simpa using q
    refine m_rr hR1 hb hd ?_
    rw [e0]
    refine ⟨fun c => ?_, fun c => ⟨h2 q c, hR1⟩⟩
    have h3 := h3 q c
    have c2 := rr_0.mp c
    obtain ⟨d, rfl, hd8⟩ := nat_of (n := 8) ⟨c2.2.1.1.1, by omega⟩
    obtain ⟨b, rfl, hb1⟩ := nat_of c2.1
    simp only [Int.toNat_natCast] at h3 c2
    have hV := ((hR.2.2.2.2 d (by omega)).2.2 c2.2.1.2).1
    generalize eG : rockG A b d = G at h3
    generalize el : (A.2.2.2.1 d 4).toNat = l at h3
    have hind : vp_in (I (d : Int)) 8 := I_vinN (by omega) (by decide)
    have hGl : ∀ c, G c ≤ l := fun c => by rw [← eG, ← el]; exact fst1_le _ _
    refine ⟨fun N x16 x17 x18 s' => ∃ n : Nat, n ≤ 41 ∧ N = 41 - n ∧ x16 = (rockF G l n).1 ∧ x17 = (rockF G l n).2 ∧ x18 = I ((50 : Int) - n) ∧ KM s1 s', ⟨_, 0, by omega, rfl, rfl, rfl, rfl, KM.rf⟩, ?_⟩
    rintro N x16 x17 x18 s' ⟨n, hn, hN, rfl, rfl, rfl, hkm⟩
    rw [ew]
    constructor
    · intro z
      have z : n = 41 := by
        revert z
        simp (disch := (first | omega | (unfold inr; omega))) only [I_lit, I_nI, I_neg, I_add, I_sub, I_mul, I_div, I_le, I_lt, I_eq, I_clamp, I_clampN, I_vin]
        omega
      subst z
      refine ⟨fun c3 => ⟨?_, RR_KM hkm hR1⟩, fun c3 => ⟨?_, RR_KM hkm hR1⟩⟩
      · rw [h3, if_neg c3]
      · rw [h3, if_pos c3]
    · intro z
      have z : n < 41 := by
        revert z
        simp (disch := (first | omega | (unfold inr; omega))) only [I_lit, I_nI, I_neg, I_add, I_sub, I_mul, I_div, I_le, I_lt, I_eq, I_clamp, I_clampN, I_vin]
        omega
      rw [show (50 : Int) - n = ((50 - n : Nat) : Int) by omega]
      refine m_rockG hR1 hb1 (by omega) c2.2.1.2 c2.2.2 (c := 50 - n) ⟨by omega, by omega⟩ hkm ?_
      intro s2 hk2 e96
      rw [eG, I_clampN (by omega), e96, show (I (A.2.2.2.1 d 4) ≤ I (G (50 - n) : Nat)) ↔ G (50 - n) = l from by
        have := hGl (50 - n)
        simp (disch := (first | omega | (unfold inr; omega))) only [I_lit, I_nI, I_neg, I_add, I_sub, I_mul, I_div, I_le, I_lt, I_eq, I_clamp, I_clampN, I_vin]
        omega]
      refine ⟨hind, fun u v => u = (rockF G l (n + 1)).1 ∧ v = (rockF G l (n + 1)).2, ?_, fun c3 x33 h33 => ⟨?_, ?_⟩, fun c3 => ⟨?_, ?_⟩⟩
      · rintro u v ⟨rfl, rfl⟩ x30 h30
        refine ⟨41 - (n + 1), by omega, n + 1, by omega, rfl, rfl, rfl, ?_, hk2⟩
        rw [h30]
        simp (disch := (first | omega | (unfold inr; omega))) only [I_lit, I_nI, I_neg, I_add, I_sub, I_mul, I_div, I_le, I_lt, I_eq, I_clamp, I_clampN, I_vin]
        omega
      · rw [h33]; rw [rockF_s, if_pos c3]
      · rw [rockF_s, if_pos c3]
      · rw [rockF_s, if_neg c3]
      · rw [rockF_s, if_neg c3]
  unfold vc_Brt_rock
  rw [b1]
  refine sp_within hw ⟨by decide, by decide⟩ ⟨by decide, by decide⟩ ?_
  rw [bi_f]
  refine ⟨fun q => ?_, fun q => mod s _ hR (fun _ => rfl) (fun q2 => absurd q2 (of_decide_eq_false q)) (fun q2 => absurd q2 (of_decide_eq_false q))⟩
  have q : 0 ≤ w ∧ w ≤ 1 := by simpa using q
  refine c_rr hR hb hd ?_
  rw [e0]
  refine ⟨fun c => ?_, fun c => mod s _ hR (fun q2 => absurd q q2) (fun _ _ => rfl) (fun _ q2 => absurd q2 c)⟩
  have c2 := rr_0.mp c
  obtain ⟨d, rfl, hd8⟩ := nat_of (n := 8) ⟨c2.2.1.1.1, by omega⟩
  obtain ⟨b, rfl, hb1⟩ := nat_of c2.1
  simp only [Int.toNat_natCast] at mod c2
  have hV := ((hR.2.2.2.2 d (by omega)).2.2 c2.2.1.2).1
  have hind : vp_in (I (d : Int)) 8 := I_vinN (by omega) (by decide)
  have hinb : vp_in (I (b : Int)) 6 := I_vinN (by omega) (by decide)
  refine sp_become hk hR.1.1 (by omega) ?_
  intro s16 f16 hr16
  rw [shp_I (by omega), I_clampN (by omega), ew]
  refine ⟨fun N x17 x18 x19 s' => ∃ n : Nat, n ≤ 41 ∧ N = 41 - n ∧ x17 = (rockF (rockG A b d) (A.2.2.2.1 d 4).toNat n).1 ∧ x18 = (rockF (rockG A b d) (A.2.2.2.1 d 4).toNat n).2 ∧ x19 = I ((50 : Int) - n) ∧ KC s s' ∧ ∃ v0, RC s' 35 (ku A.1 3 b v0), ⟨_, 0, by omega, rfl, rfl, rfl, rfl, KC_become f16, A.1 3 b, by rw [ku_self]; exact hr16⟩, ?_⟩
  rintro N x17 x18 x19 s' ⟨n, hn, hN, rfl, rfl, rfl, hkc, v0, hrc⟩
  constructor
  · intro z
    have z : n = 41 := by
      revert z
      simp (disch := (first | omega | (unfold inr; omega))) only [I_lit, I_nI, I_neg, I_add, I_sub, I_mul, I_div, I_le, I_lt, I_eq, I_clamp, I_clampN, I_vin]
      omega
    subst z
    refine ⟨fun c3 => mod s' _ (RR_KC hkc hR) (fun q2 => absurd q q2) (fun _ q2 => absurd c q2) (fun _ _ => by rw [if_neg c3]), fun c3 => mod s' _ (RR_KC hkc hR) (fun q2 => absurd q q2) (fun _ q2 => absurd c q2) (fun _ _ => by rw [if_pos c3])⟩
  · intro z
    have z : n < 41 := by
      revert z
      simp (disch := (first | omega | (unfold inr; omega))) only [I_lit, I_nI, I_neg, I_add, I_sub, I_mul, I_div, I_le, I_lt, I_eq, I_clamp, I_clampN, I_vin]
      omega
    rw [show (50 : Int) - n = ((50 - n : Nat) : Int) by omega]
    refine ⟨hinb, fun s26 h26 => ⟨hind, ?_⟩⟩
    revert s26 h26
    refine c_rockG hR hb1 (by omega) c2.2.1.2 c2.2.2 (c := 50 - n) ⟨by omega, by omega⟩ hkc hrc (Q := fun s26 x28 => (vp_in (I (d : Int)) 8 ∧ (∃ J33 : Int32 → Int32 → Prop, (∀ (x31 : Int32) (x32 : Int32), J33 x31 x32 → (∀ x34 : Int32, x34 = (I ((50 - n : Nat) : Int)) + (-1) → ∃ m35, m35 < N ∧ ∃ n : Nat, n ≤ 41 ∧ m35 = 41 - n ∧ x31 = (rockF (rockG A b d) (A.2.2.2.1 d 4).toNat n).1 ∧ x32 = (rockF (rockG A b d) (A.2.2.2.1 d 4).toNat n).2 ∧ x34 = I ((50 : Int) - n) ∧ KC s s26 ∧ ∃ v0, RC s26 35 (ku A.1 3 b v0))) ∧ ((¬ x28 = (s26 (66 + 2 * d) 4) → J33 (rockF (rockG A b d) (A.2.2.2.1 d 4).toNat n).1 (rockF (rockG A b d) (A.2.2.2.1 d 4).toNat n).2) ∧ (x28 = (s26 (66 + 2 * d) 4) → (∀ x37 : Int32, x37 = (rockF (rockG A b d) (A.2.2.2.1 d 4).toNat n).1 + 1 → J33 x37 (I ((50 - n : Nat) : Int)))))))) ?_
    intro s2 hk2 hr2
    have e4 : s2 (66 + 2 * d) 4 = I (A.2.2.2.1 d 4) := ((RR_KC hk2 hR).1.2.2.2.1 d (by omega)).2.2 c2.2.1.2 |>.2.1
    have hgl : rockG A b d (50 - n) ≤ (A.2.2.2.1 d 4).toNat := fst1_le _ _
    rw [e4, show (I (rockG A b d (50 - n) : Nat) = I (A.2.2.2.1 d 4)) ↔ rockG A b d (50 - n) = (A.2.2.2.1 d 4).toNat from by
      simp (disch := (first | omega | (unfold inr; omega))) only [I_lit, I_nI, I_neg, I_add, I_sub, I_mul, I_div, I_le, I_lt, I_eq, I_clamp, I_clampN, I_vin]
      omega]
    refine ⟨hind, fun u v => u = (rockF (rockG A b d) (A.2.2.2.1 d 4).toNat (n + 1)).1 ∧ v = (rockF (rockG A b d) (A.2.2.2.1 d 4).toNat (n + 1)).2, ?_, fun c3 => ⟨?_, ?_⟩, fun c3 x33 h33 => ⟨?_, ?_⟩⟩
    · rintro u v ⟨rfl, rfl⟩ x34 h34
      refine ⟨41 - (n + 1), by omega, n + 1, by omega, rfl, rfl, rfl, ?_, hk2, _, hr2⟩
      rw [h34]
      simp (disch := (first | omega | (unfold inr; omega))) only [I_lit, I_nI, I_neg, I_add, I_sub, I_mul, I_div, I_le, I_lt, I_eq, I_clamp, I_clampN, I_vin]
      omega
    · rw [rockF_s, if_neg c3]
    · rw [rockF_s, if_neg c3]
    · rw [h33]; rw [rockF_s, if_pos c3]
    · rw [rockF_s, if_pos c3]
theorem far_le {G : Nat → Nat} {l : Nat} (h : ∀ c, G c ≤ l) : ∀ n, farF G n ≤ l := by
  intro n
  induction n with
  | zero => exact Nat.zero_le _
  | succ n ih =>
    have := h (10 + n)
    show max (farF G n) (G (10 + n)) ≤ l
    omega
theorem e_forged {s : St} {A : Ab} (hR : RR s A) (x y : Int32) : vc_Brt_forged x y s (fun r s1 => vc_Mod_forged x y s1 (fun r' s2 => r = r' ∧ RR s2 A)) := by
  obtain ⟨b, hb, rfl⟩ := I_of x
  obtain ⟨d, hd, rfl⟩ := I_of y
  have hri := rr_in A b d
  have e0 : (I (rrZ A b d) = 0) ↔ rrZ A b d = 0 := by simp (disch := (first | omega | (unfold inr; omega))) only [I_lit, I_nI, I_neg, I_add, I_sub, I_mul, I_div, I_le, I_lt, I_eq, I_clamp, I_clampN, I_vin]
  have hk := hR.2.2.1.1
  have a := hk.1
  have mod : ∀ (s1 : St) (r : Int32), RR s1 A → (¬ rrZ A b d = 0 → r = I (rrZ A b d)) → (rrZ A b d = 0 → r = if farF (rockG A b.toNat d.toNat) 41 = (A.2.2.2.1 d.toNat 4).toNat then -4 else I (farF (rockG A b.toNat d.toNat) 41 : Nat)) → vc_Mod_forged (I b) (I d) s1 (fun r' s2 => r = r' ∧ RR s2 A) := by
    intro s1 r hR1 h2 h3
    unfold vc_Mod_forged
    refine m_rr hR1 hb hd ?_
    rw [e0]
    refine ⟨fun c => ?_, fun c => ⟨h2 c, hR1⟩⟩
    have h3 := h3 c
    have c2 := rr_0.mp c
    obtain ⟨d, rfl, hd8⟩ := nat_of (n := 8) ⟨c2.2.1.1.1, by omega⟩
    obtain ⟨b, rfl, hb1⟩ := nat_of c2.1
    simp only [Int.toNat_natCast] at h3 c2
    have hV := ((hR.2.2.2.2 d (by omega)).2.2 c2.2.1.2).1
    generalize eG : rockG A b d = G at h3
    generalize el : (A.2.2.2.1 d 4).toNat = l at h3
    have hind : vp_in (I (d : Int)) 8 := I_vinN (by omega) (by decide)
    have hGl : ∀ c, G c ≤ l := fun c => by rw [← eG, ← el]; exact fst1_le _ _
    have hfl := far_le hGl
    rw [I_clampN (by omega)]
    refine ⟨fun N x13 x14 s' => ∃ n : Nat, n ≤ 41 ∧ N = 41 - n ∧ x13 = I (farF G n : Nat) ∧ x14 = I ((10 + n : Nat) : Int) ∧ KM s1 s' ∧ s' 96 d = I (A.2.2.2.1 d 4), ⟨_, 0, by omega, rfl, rfl, rfl, KM.rf, ((hR1.2.1.2.2.2 d (by omega)).2.2 c2.2.1.2).2.1⟩, ?_⟩
    rintro N x13 x14 s' ⟨n, hn, hN, rfl, rfl, hkm, e96⟩
    have hfn := hfl n
    rw [e96]
    constructor
    · intro z
      have z : n = 41 := by
        revert z
        simp (disch := (first | omega | (unfold inr; omega))) only [I_lit, I_nI, I_neg, I_add, I_sub, I_mul, I_div, I_le, I_lt, I_eq, I_clamp, I_clampN, I_vin]
        omega
      subst z
      rw [show (I (farF G 41 : Nat) = I (A.2.2.2.1 d 4)) ↔ farF G 41 = l from by
        simp (disch := (first | omega | (unfold inr; omega))) only [I_lit, I_nI, I_neg, I_add, I_sub, I_mul, I_div, I_le, I_lt, I_eq, I_clamp, I_clampN, I_vin]
        omega]
      refine ⟨hind, fun c3 => ⟨?_, RR_KM hkm hR1⟩, fun c3 => ⟨?_, RR_KM hkm hR1⟩⟩
      · rw [h3, if_neg c3]
      · rw [h3, if_pos c3]
    · intro z
      have z : n < 41 := by
        revert z
        simp (disch := (first | omega | (unfold inr; omega))) only [I_lit, I_nI, I_neg, I_add, I_sub, I_mul, I_div, I_le, I_lt, I_eq, I_clamp, I_clampN, I_vin]
        omega
      refine m_rockG hR1 hb1 (by omega) c2.2.1.2 c2.2.2 (c := 10 + n) ⟨by omega, by omega⟩ hkm ?_
      intro s2 hk2 e962
      have := hGl (10 + n)
      rw [eG]
      refine sp_mmost ⟨by omega, by omega⟩ ⟨by omega, by omega⟩ ?_
      intro x25 h25
      refine ⟨41 - (n + 1), by omega, n + 1, by omega, rfl, ?_, ?_, hk2, e962⟩
      · congr 1
        show _ = ((max (farF G n) (G (10 + n)) : Nat) : Int)
        omega
      · rw [h25]
        simp (disch := (first | omega | (unfold inr; omega))) only [I_lit, I_nI, I_neg, I_add, I_sub, I_mul, I_div, I_le, I_lt, I_eq, I_clamp, I_clampN, I_vin]
        congr 1
  unfold vc_Brt_forged
  refine c_rr hR hb hd ?_
  rw [e0]
  refine ⟨fun c => ?_, fun c => mod s _ hR (fun _ => rfl) (fun q2 => absurd q2 c)⟩
  have c2 := rr_0.mp c
  obtain ⟨d, rfl, hd8⟩ := nat_of (n := 8) ⟨c2.2.1.1.1, by omega⟩
  obtain ⟨b, rfl, hb1⟩ := nat_of c2.1
  simp only [Int.toNat_natCast] at mod c2
  have hV := ((hR.2.2.2.2 d (by omega)).2.2 c2.2.1.2).1
  have hind : vp_in (I (d : Int)) 8 := I_vinN (by omega) (by decide)
  have hinb : vp_in (I (b : Int)) 6 := I_vinN (by omega) (by decide)
  have hGl : ∀ c, rockG A b d c ≤ (A.2.2.2.1 d 4).toNat := fun c => fst1_le _ _
  have hfl := far_le hGl
  refine sp_become hk hR.1.1 (by omega) ?_
  intro s16 f16 hr16
  rw [shp_I (by omega), I_clampN (by omega)]
  refine ⟨fun N x14 x15 s' => ∃ n : Nat, n ≤ 41 ∧ N = 41 - n ∧ x14 = I (farF (rockG A b d) n : Nat) ∧ x15 = I ((10 + n : Nat) : Int) ∧ KC s s' ∧ ∃ v0, RC s' 35 (ku A.1 3 b v0), ⟨_, 0, by omega, rfl, rfl, rfl, KC_become f16, A.1 3 b, by rw [ku_self]; exact hr16⟩, ?_⟩
  rintro N x14 x15 s' ⟨n, hn, hN, rfl, rfl, hkc, v0, hrc⟩
  have hfn := hfl n
  have e4 : s' (66 + 2 * d) 4 = I (A.2.2.2.1 d 4) := ((RR_KC hkc hR).1.2.2.2.1 d (by omega)).2.2 c2.2.1.2 |>.2.1
  rw [e4]
  constructor
  · intro z
    have z : n = 41 := by
      revert z
      simp (disch := (first | omega | (unfold inr; omega))) only [I_lit, I_nI, I_neg, I_add, I_sub, I_mul, I_div, I_le, I_lt, I_eq, I_clamp, I_clampN, I_vin]
      omega
    subst z
    rw [show (I (farF (rockG A b d) 41 : Nat) = I (A.2.2.2.1 d 4)) ↔ farF (rockG A b d) 41 = (A.2.2.2.1 d 4).toNat from by
      simp (disch := (first | omega | (unfold inr; omega))) only [I_lit, I_nI, I_neg, I_add, I_sub, I_mul, I_div, I_le, I_lt, I_eq, I_clamp, I_clampN, I_vin]
      omega]
    refine ⟨hind, fun c3 => mod s' _ (RR_KC hkc hR) (fun q2 => absurd c q2) (fun _ => by rw [if_neg c3]), fun c3 => mod s' _ (RR_KC hkc hR) (fun q2 => absurd c q2) (fun _ => by rw [if_pos c3])⟩
  · intro z
    have z : n < 41 := by
      revert z
      simp (disch := (first | omega | (unfold inr; omega))) only [I_lit, I_nI, I_neg, I_add, I_sub, I_mul, I_div, I_le, I_lt, I_eq, I_clamp, I_clampN, I_vin]
      omega
    refine ⟨hinb, fun s26 h26 => ⟨hind, ?_⟩⟩
    revert s26 h26
    refine c_rockG hR hb1 (by omega) c2.2.1.2 c2.2.2 (c := 10 + n) ⟨by omega, by omega⟩ hkc hrc (Q := fun s23 x25 => (∀ x27 : Int32, x27 = imax (I (farF (rockG A b d) n : Nat)) x25 → (∀ x28 : Int32, x28 = (I ((10 + n : Nat) : Int)) + 1 → ∃ m29, m29 < N ∧ ∃ n : Nat, n ≤ 41 ∧ m29 = 41 - n ∧ x27 = I (farF (rockG A b d) n : Nat) ∧ x28 = I ((10 + n : Nat) : Int) ∧ KC s s23 ∧ ∃ v0, RC s23 35 (ku A.1 3 b v0)))) ?_
    intro s2 hk2 hr2 x27 h27 x28 h28
    have := hGl (10 + n)
    rw [imax_I ⟨by omega, by omega⟩ ⟨by omega, by omega⟩] at h27
    refine ⟨41 - (n + 1), by omega, n + 1, by omega, rfl, ?_, ?_, hk2, _, hr2⟩
    · rw [h27]
      congr 1
      show _ = ((max (farF (rockG A b d) n) (rockG A b d (10 + n)) : Nat) : Int)
      omega
    · rw [h28]
      simp (disch := (first | omega | (unfold inr; omega))) only [I_lit, I_nI, I_neg, I_add, I_sub, I_mul, I_div, I_le, I_lt, I_eq, I_clamp, I_clampN, I_vin]
      congr 1
