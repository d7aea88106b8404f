-- help
def helpA (k : Kv) (j : Nat) : Int := maxUp k (ordK k) 0 j / 3 + (if j + 1 < nB k then k 6 (ordK k (j + 1)) / 3 else 0)
theorem e_help {s : St} {A : Ab} (hR : RR s A) (x : Int32) : vc_Brt_help x s (fun r => vc_Mod_help x s (fun r' s2 => r = r' ∧ RR s2 A)) := by
  obtain ⟨b, hb, rfl⟩ := I_of x
  have hC := hR.2.2.1
  have hk := hC.1
  have ho := hC.2.2.1
  have hi := hC.2.2.2.1
  have a := hk.1
  have hn := nB_le hk
  have en : ((nB A.1 : Nat) : Int) = A.1 9 1 := by unfold nB; omega
  have hrc := hR.1.1
  have hoi := ord_in hk ho
  have hpl : ∀ j, j < nB A.1 → 0 ≤ A.1 6 (ordK A.1 j) ∧ A.1 6 (ordK A.1 j) ≤ 9 := fun j hj => by
    obtain ⟨-, -, -, -, -, -, h7, h8, -⟩ := hk.2.2.2 (ordK A.1 j) (hoi j hj)
    exact ⟨h7, h8⟩
  have hmu : ∀ m, m ≤ nB A.1 → 0 ≤ maxUp A.1 (ordK A.1) 0 m ∧ maxUp A.1 (ordK A.1) 0 m ≤ 9 := fun m hm => maxUp_in hk (a := 0) hoi m (by omega)
  unfold vc_Brt_help
  refine has_ok (n := A.1 9 1) ⟨by omega, by omega⟩ hrc.1.2.1 hb ?_
  rw [bi_f]
  constructor
  · intro z
    have z : 0 ≤ b ∧ b < A.1 9 1 := by simpa using z
    obtain ⟨b, rfl, hb1⟩ := nat_of z
    obtain ⟨j0, hj0, ej⟩ := hC.2.2.2.2 b hb1
    have hj0n : j0 < nB A.1 := by omega
    have mod : vc_Mod_help (I (b : Int)) s (fun r' s2 => I (helpA A.1 j0) = r' ∧ RR s2 A) := by
      unfold vc_Mod_help
      refine isBody_ok hk hR.2.1.1 hb ?_
      rw [bi_f]
      refine ⟨fun _ => ?_, fun q => by simp at q; omega⟩
      intro s13 h13
      have hR13 : RR s13 A := RR_KM (by rw [h13]; exact KM_w82 (by decide)) hR
      have h7 : s13 82 7 = 0 := by rw [h13]; exact wr_at
      have hs : s13 = MS s13 (s13 82) (s13 86) (s13 87) := (MS_self s13).symm
      rw [hs]
      refine sp_lines hk ho hR13.2.1.1 ?_
      rw [h7]
      intro ln' hln
      have hlen : (lineK A.1 0).length = nB A.1 := lnn0 hk ho
      have hln2 : ∀ j, j < nB A.1 → ln' j = I (ordK A.1 j : Nat) := by
        intro j hj
        rw [hln j (by rw [hlen]; exact hj)]
        have := lnf0 hk ho j hj
        unfold lnf at this
        rw [this]
      rw [hlen]
      have hR14 : RR (MS s13 (upd (s13 82) 18 (I (nB A.1 : Nat))) (s13 86) ln') A := RR_KM (KM.ms (upd_ne (by decide))) hR13
      refine m_place hk ho hi hR14.2.1.1 hb1 hj0 ej ?_
      refine sp_pulled hk hR13.2.1.1 (l := ordK A.1) (n := nB A.1) hn (fun j hj => ⟨hln2 j hj, hoi j hj⟩) (a := 0) (e := j0) (by omega) (by omega) rfl rfl ?_
      rw [Nat.sub_zero]
      have e18 : MS s13 (upd (s13 82) 18 (I (nB A.1 : Nat))) (s13 86) ln' 82 18 = I (nB A.1 : Nat) := by rw [MS_82, upd_at]
      have m1 := hmu j0 (by omega)
      have e1 : I (j0 : Int) + 1 = I ((j0 + 1 : Nat) : Int) := by
        simp (disch := (first | omega | (unfold inr; omega))) only [I_lit, I_nI, I_neg, I_add, I_sub, I_mul, I_div, I_le, I_lt, I_eq, I_clamp, I_clampN, I_vin]
        congr 1
      rw [e18, e1, show (I (nB A.1 : Nat) ≤ I ((j0 + 1 : Nat) : Int)) ↔ nB A.1 ≤ j0 + 1 from by
        simp (disch := (first | omega | (unfold inr; omega))) only [I_lit, I_nI, I_neg, I_add, I_sub, I_mul, I_div, I_le, I_lt, I_eq, I_clamp, I_clampN, I_vin]
        omega]
      refine ⟨fun v => v = I (if j0 + 1 < nB A.1 then A.1 6 (ordK A.1 (j0 + 1)) / 3 else 0), ?_, fun c => ?_, fun c => ⟨I_vinN (by omega) (by decide), ?_⟩⟩
      · rintro v rfl
        rw [I_add]
        exact ⟨rfl, hR14⟩
      · show (0 : Int32) = I (if j0 + 1 < nB A.1 then A.1 6 (ordK A.1 (j0 + 1)) / 3 else 0)
        rw [if_neg (by omega)]
        rfl
      · rw [I_clampN (by omega), MS_87, hln2 _ (by omega)]
        have hp := hpl (j0 + 1) (by omega)
        have ho1 := hoi (j0 + 1) (by omega)
        refine sp_of hR14.2.1.1 ho1 (by omega) (w := 3) (by decide) rfl ?_
        show I (A.1 6 (ordK A.1 (j0 + 1))) / 3 = I (if j0 + 1 < nB A.1 then A.1 6 (ordK A.1 (j0 + 1)) / 3 else 0)
        rw [if_pos (by omega)]
        simp (disch := (first | omega | (unfold inr; omega))) only [I_lit, I_nI, I_neg, I_add, I_sub, I_mul, I_div, I_le, I_lt, I_eq, I_clamp, I_clampN, I_vin]
    refine c_place (p := 11) (n := nB A.1) en hn ho hi (by rw [en]; exact hrc.1.2.1) (fun j hj => (hrc.2.2 j hj).2.2.2.2.2) hb1 hj0 ej ?_
    refine ⟨fun N u t => ∃ i : Nat, t = I (i : Nat) ∧ i ≤ j0 ∧ N = j0 - i ∧ u = I (maxUp A.1 (ordK A.1) 0 i), ⟨_, 0, rfl, by omega, rfl, rfl⟩, ?_⟩
    rintro N u t ⟨i, rfl, hi2, hN, rfl⟩
    have m1 := hmu i (by omega)
    have e17 : ∀ j, j < nB A.1 → s 17 j = I (ordK A.1 j : Nat) := by
      intro j hj
      have h2 := ho j (by omega)
      rw [show s 17 j = I (A.1 8 j) from (hrc.2.2 j (by omega)).2.2.2.2.2]
      unfold ordK
      congr 1
      omega
    have e15 : ∀ j, j < nB A.1 → s 15 (ordK A.1 j) = I (A.1 6 (ordK A.1 j)) := fun j hj => (hrc.2.2 _ (hoi j hj)).2.2.2.1
    constructor
    · intro c
      have c : i = j0 := by
        revert c
        simp (disch := (first | omega | (unfold inr; omega))) only [I_lit, I_nI, I_neg, I_add, I_sub, I_mul, I_div, I_le, I_lt, I_eq, I_clamp, I_clampN, I_vin]
        omega
      subst c
      have e1 : I (i : Int) + 1 = I ((i + 1 : Nat) : Int) := by
        simp (disch := (first | omega | (unfold inr; omega))) only [I_lit, I_nI, I_neg, I_add, I_sub, I_mul, I_div, I_le, I_lt, I_eq, I_clamp, I_clampN, I_vin]
        congr 1
      rw [e1, show s 11 0 = I (nB A.1 : Nat) from by rw [en]; exact hrc.1.2.1, show (I (nB A.1 : Nat) ≤ I ((i + 1 : Nat) : Int)) ↔ nB A.1 ≤ i + 1 from by
        simp (disch := (first | omega | (unfold inr; omega))) only [I_lit, I_nI, I_neg, I_add, I_sub, I_mul, I_div, I_le, I_lt, I_eq, I_clamp, I_clampN, I_vin]
        omega]
      have fin : ∀ v : Int, 0 ≤ v → v ≤ 9 → v / 3 = (if i + 1 < nB A.1 then A.1 6 (ordK A.1 (i + 1)) / 3 else 0) → vc_Mod_help (I (b : Int)) s (fun r' s2 => I (maxUp A.1 (ordK A.1) 0 i) / 3 + I v / 3 = r' ∧ RR s2 A) := by
        intro v h1 h2 h3
        rw [show I (maxUp A.1 (ordK A.1) 0 i) / 3 + I v / 3 = I (helpA A.1 i) from by
          unfold helpA
          rw [← h3]
          simp (disch := (first | omega | (unfold inr; omega))) only [I_lit, I_nI, I_neg, I_add, I_sub, I_mul, I_div, I_le, I_lt, I_eq, I_clamp, I_clampN, I_vin]]
        exact mod
      refine ⟨fun v => ∃ z : Int, v = I z ∧ 0 ≤ z ∧ z ≤ 9 ∧ z / 3 = (if i + 1 < nB A.1 then A.1 6 (ordK A.1 (i + 1)) / 3 else 0), ?_, fun c => ⟨0, rfl, by decide, by decide, ?_⟩, fun c => ⟨I_vinN (by omega) (by decide), ?_⟩⟩
      · rintro v ⟨z, rfl, h1, h2, h3⟩
        exact fin z h1 h2 h3
      · rw [if_neg (by omega)]
        rfl
      · have hp := hpl (i + 1) (by omega)
        have ho1 := hoi (i + 1) (by omega)
        rw [I_clampN (by omega), e17 _ (by omega), I_clampN (by omega)]
        exact ⟨I_vinN (by omega) (by decide), _, e15 _ (by omega), hp.1, hp.2, by rw [if_pos (by omega)]⟩
    · intro c
      have c : i < j0 := by
        revert c
        simp (disch := (first | omega | (unfold inr; omega))) only [I_lit, I_nI, I_neg, I_add, I_sub, I_mul, I_div, I_le, I_lt, I_eq, I_clamp, I_clampN, I_vin]
        omega
      have hp := hpl i (by omega)
      have ho1 := hoi i (by omega)
      rw [I_clampN (by omega), e17 _ (by omega), I_clampN (by omega), e15 _ (by omega)]
      refine ⟨I_vinN (by omega) (by decide), I_vinN (by omega) (by decide), ?_⟩
      intro x27 h27 x28 h28
      rw [imax_I ⟨by omega, by omega⟩ ⟨by omega, by omega⟩] at h27
      refine ⟨j0 - (i + 1), by omega, i + 1, ?_, by omega, rfl, ?_⟩
      · rw [h28]
        simp (disch := (first | omega | (unfold inr; omega))) only [I_lit, I_nI, I_neg, I_add, I_sub, I_mul, I_div, I_le, I_lt, I_eq, I_clamp, I_clampN, I_vin]
        congr 1
      · rw [h27]
        show _ = I (max (maxUp A.1 (ordK A.1) 0 i) (A.1 6 (ordK A.1 (0 + i))))
        rw [Nat.zero_add]
  · intro z
    unfold vc_Mod_help
    refine isBody_ok hk hR.2.1.1 hb ?_
    rw [bi_f]
    exact ⟨fun q => absurd z q, fun _ => ⟨rfl, hR⟩⟩
