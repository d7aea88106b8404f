/-! CALLS THAT ONLY READ -/
theorem nat_of {z n : Int} (h : 0 ≤ z ∧ z < n) : ∃ j : Nat, z = (j : Int) ∧ (j : Int) < n := ⟨z.toNat, by omega, by omega⟩
theorem hour_ok {s : St} {k : Kv} (hk : CV k) (hr : RM s 83 k) {Q : Int32 → Prop} (h : Q (I (k 9 2 / 60))) : vc_Mod_hour s Q := by
  have a := hk.2.1
  unfold vc_Mod_hour
  refine ⟨v_in (a := 2) ⟨by decide, by decide⟩ (by decide) rfl, ?_⟩
  rw [show s 83 (Int32.toNatClampNeg 2) = I (k 9 2) from hr.1 2 (by decide), show (I (k 9 2) / 60 : Int32) = I (k 9 2 / 60) from by simp (disch := (first | omega | (unfold inr; omega))) only [I_lit, I_nI, I_neg, I_add, I_sub, I_mul, I_div, I_le, I_lt, I_eq, I_clamp, I_clampN, I_vin]]
  exact h
theorem at_yard {s : St} {k : Kv} (hr : RM s 83 k) {y w : Nat} (hy : (y : Int) < k 9 0) (hy12 : y < 12) (hw : w < 3) {x : Int32} (hx : x = I (w : Int)) {Q : Int32 → Prop} (h : Q (I (k w y))) : vc_Mod_atYard (I y) x (fun z => (vp_in z 78 ∧ Q (s 83 (Int32.toNatClampNeg z)))) := by
  subst hx
  unfold vc_Mod_atYard
  have e : (6 : Int32) + 3 * I y + I (w : Int) = I ((6 + 3 * y + w : Nat) : Int) := by
    simp (disch := (first | omega | (unfold inr; omega))) only [I_lit, I_nI, I_neg, I_add, I_sub, I_mul, I_div, I_le, I_lt, I_eq, I_clamp, I_clampN, I_vin]
    congr 1
  rw [e]
  refine ⟨I_vinN (by omega) (by decide), ?_⟩
  rw [I_clampN (by omega), hr.2.1 y hy w hw]
  exact h
def yardA (k : Kv) (y w : Int) : Int := if (0 ≤ y ∧ y < k 9 0) ∧ (0 ≤ w ∧ w ≤ 5) then (if w < 3 then k w.toNat y.toNat else if w = 3 then roomZ k y.toNat (k 9 2 / 60 * k 9 3) else minZ (k 0 y.toNat) (k 1 y.toNat) (decide (w = 5))) else -1
theorem c_yard {s : St} {k : Kv} (hk : CV k) (hr : RC s 1 k) {y w : Int} (hy : inr y) (hw : inr w) {Q : Int32 → Prop} (h : Q (I (yardA k y w))) : vc_Brt_yard (I y) (I w) s Q := by
  have a := hk.1
  have a5 := hk.2.1
  unfold vc_Brt_yard
  refine hasY_ok (n := k 9 0) ⟨by omega, by omega⟩ hr.1.1 hy ?_
  rw [bi_f]
  unfold yardA at h
  constructor
  · intro z
    have z : 0 ≤ y ∧ y < k 9 0 := by simpa using z
    obtain ⟨j, rfl, hj⟩ := nat_of z
    have hin : vp_in (I (j : Int)) 12 := I_vinN (by omega) (by decide)
    have hcl : (I (j : Int)).toNatClampNeg = j := I_clampN (by omega)
    obtain ⟨g1, g2, g3, g4, g5, g6, g7, g8⟩ := hr.2.1 j hj
    rw [hcl, g1, g2, g3, g5, g6]
    have hh : ∀ n : Nat, n < 8 → (I w = I (n : Int) ↔ w = n) := fun n hn => I_eq hw ⟨by omega, by omega⟩
    have h0 := hh 0 (by decide)
    have h1 := hh 1 (by decide)
    have h2 := hh 2 (by decide)
    have h3 := hh 3 (by decide)
    have h4 := hh 4 (by decide)
    have h5 := hh 5 (by decide)
    rw [show I ((0 : Nat) : Int) = 0 from rfl] at h0
    rw [show I ((1 : Nat) : Int) = 1 from rfl] at h1
    rw [show I ((2 : Nat) : Int) = 2 from rfl] at h2
    rw [show I ((3 : Nat) : Int) = 3 from rfl] at h3
    rw [show I ((4 : Nat) : Int) = 4 from rfl] at h4
    rw [show I ((5 : Nat) : Int) = 5 from rfl] at h5
    rw [h0, h1, h2, h3, h4, h5]
    refine ⟨fun z => ⟨hin, ?_⟩, fun z0 => ⟨fun z => ⟨hin, ?_⟩, fun z1 => ⟨fun z => ⟨hin, ?_⟩, fun z2 => ⟨fun z => ?_, fun z3 => ⟨fun z => ⟨hin, ?_⟩, fun z4 => ⟨fun z => ⟨hin, ?_⟩, fun z5 => ?_⟩⟩⟩⟩⟩⟩
    · subst z
      simpa [hj, z] using h
    · subst z
      simpa [hj] using h
    · subst z
      simpa [hj] using h
    · subst z
      rw [show s 1 5 = I (k 9 2) from hr.1.2.2.1]
      refine sp_water hr.1.2.2.2.1 ⟨by omega, by omega⟩ ?_
      have hwt := water_in (c := k 9 2) (r := k 9 3) ⟨by omega, by omega⟩ ⟨by omega, by omega⟩
      refine sp_room (k := k) (by omega) (hk.2.2.1 j hj) g1 g4 ⟨by omega, by omega⟩ ?_
      simpa [hj] using h
    · subst z
      simpa [hj] using h
    · subst z
      simpa [hj] using h
    · rw [if_neg (by omega)] at h
      exact h
  · intro z
    have z : ¬ (0 ≤ y ∧ y < k 9 0) := by simpa using z
    rw [if_neg (fun q => z q.1)] at h
    exact h
theorem m_yard {s : St} {k : Kv} (hk : CV k) (hr : RM s 83 k) {y w : Int} (hy : inr y) (hw : inr w) {Q : Int32 → Prop} (h : Q (I (yardA k y w))) : vc_Mod_yard (I y) (I w) s Q := by
  have a := hk.1
  have a5 := hk.2.1
  unfold vc_Mod_yard
  refine isYard_ok hk hr hy ?_
  rw [bi_f]
  unfold yardA at h
  constructor
  · intro z
    have z : ¬ (0 ≤ y ∧ y < k 9 0) := by simpa using z
    rw [if_neg (fun q => z q.1)] at h
    exact h
  · intro z
    have z : 0 ≤ y ∧ y < k 9 0 := by simpa using z
    rw [show (0 : Int32) = I 0 from rfl, show (5 : Int32) = I 5 from rfl]
    refine sp_isIn hw ⟨by decide, by decide⟩ ⟨by decide, by decide⟩ ?_
    rw [show I 0 = 0 from rfl, bi_f]
    constructor
    · intro zw
      have zw : 0 ≤ w ∧ w ≤ 5 := by simpa using zw
      obtain ⟨j, rfl, hj⟩ := nat_of z
      rw [if_pos ⟨⟨by omega, hj⟩, zw⟩] at h
      have hcy := hk.2.2.1 j hj
      have e3 : (3 ≤ I w) ↔ 3 ≤ w := by simp (disch := (first | omega | (unfold inr; omega))) only [I_lit, I_nI, I_neg, I_add, I_sub, I_mul, I_div, I_le, I_lt, I_eq, I_clamp, I_clampN, I_vin]
      have e33 : (I w = 3) ↔ w = 3 := by simp (disch := (first | omega | (unfold inr; omega))) only [I_lit, I_nI, I_neg, I_add, I_sub, I_mul, I_div, I_le, I_lt, I_eq, I_clamp, I_clampN, I_vin]
      have e5 : (I w = I 5) ↔ w = 5 := by simp (disch := (first | omega | (unfold inr; omega))) only [I_lit, I_nI, I_neg, I_add, I_sub, I_mul, I_div, I_le, I_lt, I_eq, I_clamp, I_clampN, I_vin]
      rw [e3, e33, e5]
      constructor
      · intro q
        rw [if_neg (by omega)] at h
        constructor
        · intro q3
          rw [if_neg q3] at h
          refine ⟨fun x => x = bi (decide (w = 5)), ?_, ?_, ?_⟩
          · rintro x rfl
            exact sp_mmin hr hj (by omega) hcy (decide (w = 5)) rfl (by simpa using h)
          · intro q5
            simp [q5]
            rfl
          · intro q5
            simp [q5]
            rfl
        · intro q3
          rw [if_pos q3] at h
          refine hour_ok hk hr ?_
          exact sp_mroom hr hj (by omega) hcy ⟨by omega, by omega⟩ ⟨by omega, by omega⟩ (by simpa using h)
      · intro q
        rw [if_pos (by omega)] at h
        exact at_yard hr hj (by omega) (w := w.toNat) (by omega) (by congr 1; omega) (by simpa using h)
    · intro zw
      have zw : ¬ (0 ≤ w ∧ w ≤ 5) := by simpa using zw
      rw [if_neg (fun q => zw q.2)] at h
      exact h
-- placeOf
theorem c_place {s : St} {p n : Nat} {k : Kv} (hn : (n : Int) = k 9 1) (hn6 : n ≤ 6) (ho : CO k) (hi : COi k) (e0 : s p 0 = I n) (e6 : ∀ j : Nat, (j : Int) < k 9 1 → s (p + 6) j = I (k 8 j)) {b j0 : Nat} (hb6 : (b : Int) < k 9 1) (hj0 : (j0 : Int) < k 9 1) (hb : k 8 j0 = b) {Q : Int32 → Prop} (h : Q (I j0)) : vc_Bod_placeOf p (I b) s Q := by
  unfold vc_Bod_placeOf
  refine ⟨fun N x => ∃ j : Nat, x = I j ∧ j ≤ j0 ∧ N = j0 - j, ⟨_, 0, rfl, by omega, rfl⟩, ?_⟩
  rintro N x ⟨j, rfl, hj, hN⟩
  rw [e0, I_clampN (by omega), e6 j (by omega)]
  have ho2 := ho j (by omega)
  constructor
  · intro z
    exfalso
    revert z
    simp (disch := (first | omega | (unfold inr; omega))) only [I_lit, I_nI, I_neg, I_add, I_sub, I_mul, I_div, I_le, I_lt, I_eq, I_clamp, I_clampN, I_vin]
    omega
  · intro _
    refine ⟨I_vinN (by omega) (by decide), fun z => ?_, fun z => ?_⟩
    · intro x16 hx16
      have : j ≠ j0 := by
        intro e
        subst e
        exact z (by rw [hb])
      refine ⟨j0 - (j + 1), by omega, j + 1, ?_, by omega, rfl⟩
      rw [hx16]
      simp (disch := (first | omega | (unfold inr; omega))) only [I_lit, I_nI, I_neg, I_add, I_sub, I_mul, I_div, I_le, I_lt, I_eq, I_clamp, I_clampN, I_vin]
      congr 1
    · have z : k 8 j = b := by
        revert z
        simp (disch := (first | omega | (unfold inr; omega))) only [I_lit, I_nI, I_neg, I_add, I_sub, I_mul, I_div, I_le, I_lt, I_eq, I_clamp, I_clampN, I_vin]
        exact id
      have : j = j0 := hi j j0 (by omega) hj0 (by omega)
      rw [this]
      exact h
theorem m_place {s : St} {k : Kv} (hk : CV k) (ho : CO k) (hi : COi k) (hr : RM s 83 k) {b j0 : Nat} (hb6 : (b : Int) < k 9 1) (hj0 : (j0 : Int) < k 9 1) (hb : k 8 j0 = b) {Q : Int32 → Prop} (h : Q (I j0)) : vc_Mod_placeOf (I b) s Q := by
  have a := hk.1
  unfold vc_Mod_placeOf
  refine ⟨fun N x => ∃ j : Nat, x = I j ∧ j ≤ j0 ∧ N = j0 - j, ⟨_, 0, rfl, by omega, rfl⟩, ?_⟩
  rintro N x ⟨j, rfl, hj, hN⟩
  refine ⟨v_in (a := 1) ⟨by decide, by decide⟩ (by decide) rfl, ?_⟩
  have e72 : (72 : Int32) + I j = I ((72 + j : Nat) : Int) := by
    simp (disch := (first | omega | (unfold inr; omega))) only [I_lit, I_nI, I_neg, I_add, I_sub, I_mul, I_div, I_le, I_lt, I_eq, I_clamp, I_clampN, I_vin]
    congr 1
  rw [show s 83 (Int32.toNatClampNeg 1) = I (k 9 1) from hr.1 1 (by decide), e72, I_clampN (by omega), (hr.2.2 j (by omega)).2]
  have ho2 := ho j (by omega)
  constructor
  · intro z
    exfalso
    revert z
    simp (disch := (first | omega | (unfold inr; omega))) only [I_lit, I_nI, I_neg, I_add, I_sub, I_mul, I_div, I_le, I_lt, I_eq, I_clamp, I_clampN, I_vin]
    omega
  · intro _
    refine ⟨I_vinN (by omega) (by decide), fun z => ?_, fun z => ?_⟩
    · intro x16 hx16
      have : j ≠ j0 := by
        intro e
        subst e
        exact z (by rw [hb])
      refine ⟨j0 - (j + 1), by omega, j + 1, ?_, by omega, rfl⟩
      rw [hx16]
      simp (disch := (first | omega | (unfold inr; omega))) only [I_lit, I_nI, I_neg, I_add, I_sub, I_mul, I_div, I_le, I_lt, I_eq, I_clamp, I_clampN, I_vin]
      congr 1
    · have z : k 8 j = b := by
        revert z
        simp (disch := (first | omega | (unfold inr; omega))) only [I_lit, I_nI, I_neg, I_add, I_sub, I_mul, I_div, I_le, I_lt, I_eq, I_clamp, I_clampN, I_vin]
        exact id
      have : j = j0 := hi j j0 (by omega) hj0 (by omega)
      rw [this]
      exact h
theorem e_yard {s : St} {A : Ab} (hR : RR s A) (x y : Int32) : vc_Brt_yard x y s (fun r => vc_Mod_yard x y s (fun r' => r = r')) := by
  obtain ⟨z1, h1, rfl⟩ := I_of x
  obtain ⟨z2, h2, rfl⟩ := I_of y
  exact c_yard hR.2.2.1.1 hR.1.1 h1 h2 (m_yard hR.2.2.1.1 hR.2.1.1 h1 h2 rfl)
theorem e_body {s : St} {A : Ab} (hR : RR s A) (x y : Int32) : vc_Brt_body x y s (fun r => vc_Mod_body x y s (fun r' => r = r')) := by
  obtain ⟨b, hbr, rfl⟩ := I_of x
  obtain ⟨w, hw, rfl⟩ := I_of y
  obtain ⟨hk, -, ho, hi, hs⟩ := hR.2.2.1
  have hrc := hR.1.1
  have hrm := hR.2.1.1
  generalize A.1 = k at hk ho hi hs hrc hrm
  have a := hk.1
  have mno : ∀ r : Int32, ¬ (0 ≤ b ∧ b < k 9 1) ∨ ¬ (0 ≤ w ∧ w ≤ 5) → r = -1 → vc_Mod_body (I b) (I w) s (fun r' => r = r') := by
    intro r hz hr
    unfold vc_Mod_body
    refine isBody_ok hk hrm hbr ?_
    rw [bi_f]
    refine ⟨fun _ => hr, fun z => ?_⟩
    have z : 0 ≤ b ∧ b < k 9 1 := by simpa using z
    rw [show (0 : Int32) = I 0 from rfl, show (5 : Int32) = I 5 from rfl]
    refine sp_isIn hw ⟨by decide, by decide⟩ ⟨by decide, by decide⟩ ?_
    rw [show I 0 = 0 from rfl, bi_f]
    refine ⟨fun z2 => ?_, fun _ => hr⟩
    have z2 : 0 ≤ w ∧ w ≤ 5 := by simpa using z2
    omega
  unfold vc_Brt_body
  refine has_ok (n := k 9 1) ⟨by omega, by omega⟩ hrc.1.2.1 hbr ?_
  rw [bi_f]
  constructor
  · intro z
    have z : 0 ≤ b ∧ b < k 9 1 := by simpa using z
    obtain ⟨j, rfl, hj⟩ := nat_of z
    have hin : vp_in (I (j : Int)) 6 := I_vinN (by omega) (by decide)
    have hcl : (I (j : Int)).toNatClampNeg = j := I_clampN (by omega)
    obtain ⟨g1, g2, g3, g4, g5, g6⟩ := hrc.2.2 j hj
    obtain ⟨j0, hj0, ej0⟩ := hs j hj
    have myes : ∀ (r : Int32) (v : Nat), v < 5 → w = v → r = I (k (3 + v) j) → vc_Mod_body (I j) (I w) s (fun r' => r = r') := by
      intro r v hv hwv hr
      unfold vc_Mod_body
      refine isBody_ok hk hrm hbr ?_
      rw [bi_f]
      refine ⟨fun q => by simp at q; omega, fun _ => ?_⟩
      rw [show (0 : Int32) = I 0 from rfl, show (5 : Int32) = I 5 from rfl]
      refine sp_isIn hw ⟨by decide, by decide⟩ ⟨by decide, by decide⟩ ?_
      rw [show I 0 = 0 from rfl, bi_f]
      refine ⟨fun _ => ⟨fun q => ?_, fun _ => ?_⟩, fun q => by simp at q; omega⟩
      · exfalso
        revert q
        simp (disch := (first | omega | (unfold inr; omega))) only [I_lit, I_nI, I_neg, I_add, I_sub, I_mul, I_div, I_le, I_lt, I_eq, I_clamp, I_clampN, I_vin]
        omega
      · exact sp_of hrm hj (by omega) hv (by rw [hwv]) hr
    have hh : ∀ n : Nat, n < 8 → (I w = I (n : Int) ↔ w = n) := fun n hn => I_eq hw ⟨by omega, by omega⟩
    have h0 := hh 0 (by decide)
    have h1 := hh 1 (by decide)
    have h2 := hh 2 (by decide)
    have h3 := hh 3 (by decide)
    have h4 := hh 4 (by decide)
    have h5 := hh 5 (by decide)
    rw [show I ((0 : Nat) : Int) = 0 from rfl] at h0
    rw [show I ((1 : Nat) : Int) = 1 from rfl] at h1
    rw [show I ((2 : Nat) : Int) = 2 from rfl] at h2
    rw [show I ((3 : Nat) : Int) = 3 from rfl] at h3
    rw [show I ((4 : Nat) : Int) = 4 from rfl] at h4
    rw [show I ((5 : Nat) : Int) = 5 from rfl] at h5
    rw [h0, h1, h2, h3, h4, h5]
    rw [hcl]
    refine ⟨fun z => ⟨hin, myes _ 0 (by decide) z g1⟩, fun z0 => ⟨fun z => ⟨hin, myes _ 1 (by decide) z g2⟩, fun z1 => ⟨fun z => ⟨hin, myes _ 2 (by decide) z g3⟩, fun z2 => ⟨fun z => ⟨hin, myes _ 3 (by decide) z g4⟩, fun z3 => ⟨fun z => ⟨hin, myes _ 4 (by decide) z g5⟩, fun z4 => ⟨fun z => ?_, fun z5 => mno _ (Or.inr (by omega)) rfl⟩⟩⟩⟩⟩⟩
    refine c_place (n := (k 9 1).toNat) (k := k) (by omega) (by omega) ho hi (by rw [show s 11 0 = I (k 9 1) from hrc.1.2.1]; congr 1; omega) (fun i hi' => (hrc.2.2 i hi').2.2.2.2.2) hj hj0 ej0 ?_
    unfold vc_Mod_body
    refine isBody_ok hk hrm hbr ?_
    rw [bi_f]
    refine ⟨fun q => by simp at q; omega, fun _ => ?_⟩
    rw [show (0 : Int32) = I 0 from rfl, show (5 : Int32) = I 5 from rfl]
    refine sp_isIn hw ⟨by decide, by decide⟩ ⟨by decide, by decide⟩ ?_
    rw [show I 0 = 0 from rfl, bi_f]
    refine ⟨fun _ => ⟨fun _ => ?_, fun q => ?_⟩, fun q => by simp at q; omega⟩
    · exact m_place hk ho hi hrm hj hj0 ej0 rfl
    · exfalso
      revert q
      simp (disch := (first | omega | (unfold inr; omega))) only [I_lit, I_nI, I_neg, I_add, I_sub, I_mul, I_div, I_le, I_lt, I_eq, I_clamp, I_clampN, I_vin]
      omega
  · intro z
    have z : ¬ (0 ≤ b ∧ b < k 9 1) := by simpa using z
    exact mno _ (Or.inl z) rfl
