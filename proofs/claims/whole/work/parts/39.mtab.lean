/-- what going there leaves in the model's fields -/
def TR (v v' : Nat → Int32) (n : Nat) (R : Gr) : Prop := KP v v' ∧ v' 8 = R.1 ∧ v' 9 = I R.2.2.1 ∧ v' 10 = I R.2.2.2.1 ∧ v' 13 = I R.2.2.2.2.1 ∧ v' 14 = I R.2.2.2.2.2.1 ∧ v' 18 = I n ∧ v' 4 = I R.2.2.2.2.1 ∧ v' 5 = I R.2.2.2.2.2.1
def lnf (k : Kv) (a : Int32) (j : Nat) : Nat := (lineK k a).getD j 0
def lnn (k : Kv) (a : Int32) : Nat := (lineK k a).length
theorem lnn_le {k : Kv} (hk : CV k) (a : Int32) : lnn k a ≤ 6 := by
  have h := lineL_len k a (k 9 1).toNat
  have := hk.1
  unfold lnn lineK
  omega
theorem lnf_in {k : Kv} (hk : CV k) (ho : CO k) (a : Int32) : ∀ j, j < lnn k a → (lnf k a j : Int) < k 9 1 := by
  have := hk.1
  exact lineL_in ho a (k 9 1).toNat (by omega)
set_option maxHeartbeats 2000000 in
theorem sp_goesThere {s : St} {k : Kv} (hk : CV k) (ho : CO k) (hr : RM s 83 k) {v ta ln : Nat → Int32} {Q : St → Prop}
    (hQ : ∀ v' ln', TR v v' (lnn k (v 7)) (thereZ k (lnf k (v 7)) (lnn k (v 7)) (k 9 2) ta) → (∀ j, j < lnn k (v 7) → ln' j = I (lnf k (v 7) j : Nat)) → Q (MS s v' (thereZ k (lnf k (v 7)) (lnn k (v 7)) (k 9 2) ta).2.2.2.2.2.2 ln')) : vc_Mod_goesThere (MS s v ta ln) Q := by
  have hn6 := lnn_le hk (v 7)
  have hli := lnf_in hk ho (v 7)
  have a := hk.1
  have a5 := hk.2.1
  have hgi := goZ_in hk hn6 (oat_in hli false) false (c := k 9 2) ⟨by omega, by omega⟩ ta
  obtain ⟨n, en⟩ : ∃ n, n = lnn k (v 7) := ⟨_, rfl⟩
  obtain ⟨l, el⟩ : ∃ l, l = lnf k (v 7) := ⟨_, rfl⟩
  obtain ⟨R, eR⟩ : ∃ R, R = thereZ k l n (k 9 2) ta := ⟨_, rfl⟩
  rw [← en, ← el] at hQ hgi
  rw [← en] at hn6 hli
  rw [← el] at hli
  rw [← eR] at hQ
  have eR2 : goF k l n false n 0 0 0 (k 9 2) 0 ta = R := eR.symm
  have hgi2 : (goZ k (oat l n false) n false (k 9 2) ta) = R := eR.symm
  rw [hgi2] at hgi
  unfold vc_Mod_goesThere
  refine sp_lines hk ho hr ?_
  intro ln' hln
  have hln : ∀ j, j < n → ln' j = I (l j : Nat) := by rw [en, el]; exact hln
  have en2 : (lineK k (v 7)).length = n := en.symm
  rw [en2]
  intro s11 hs11 s12 hs12 s13 hs13
  rw [MS_w82] at hs11
  rw [hs11, MS_w82] at hs12
  rw [hs12, MS_w82] at hs13
  clear hs11 hs12
  refine ⟨v_in (a := 2) ⟨by decide, by decide⟩ (by decide) rfl, ?_⟩
  intro s15 hs15 s16 hs16
  have e2 : s13 83 (Int32.toNatClampNeg 2) = I (k 9 2) := by
    rw [hs13]
    exact hr.1 2 (by decide)
  rw [e2, hs13, MS_w82] at hs15
  rw [hs15, MS_w82] at hs16
  subst hs16
  refine ⟨fun N x s' => ∃ (i : Nat) (v' ta' : Nat → Int32) (cl br : Int), x = I i ∧ i ≤ n ∧ s' = MS s v' ta' ln' ∧ KP v v' ∧ v' 4 = I cl ∧ v' 5 = I br ∧ v' 18 = I n ∧ (0 ≤ cl ∧ cl ≤ k 9 2 + 360 * i) ∧ (0 ≤ br ∧ br ≤ 12 * i) ∧ ((N = n - i + 1 ∧ v' 9 = I (-4) ∧ v' 10 = I (-4) ∧ goF k l n false (n - i) i (maxUp k l 0 i) (v' 8) cl br ta' = R) ∨ (N = 0 ∧ 0 ≤ R.2.2.1 ∧ v' 8 = R.1 ∧ v' 9 = I R.2.2.1 ∧ v' 10 = I R.2.2.2.1 ∧ cl = R.2.2.2.2.1 ∧ br = R.2.2.2.2.2.1 ∧ ta' = R.2.2.2.2.2.2)), ⟨n + 1, 0, _, ta, k 9 2, 0, rfl, by omega, rfl, ?_, rfl, rfl, rfl, ⟨by omega, by omega⟩, ⟨by omega, by omega⟩, Or.inl ⟨by omega, rfl, rfl, eR2⟩⟩, ?_⟩
  · exact (((((KP.rf.up (by omega)).up (by omega)).up (by omega)).up (by omega)).up (by omega)).up (by omega)
  rintro N x s' ⟨i, v', ta', cl, br, rfl, hi, rfl, hkp, e4, e5, e18, hcl, hbr, hcase⟩
  simp only [MS_82, e4, e18]
  -- the end
  have fin : (N = 0 ∧ 0 ≤ R.2.2.1 ∧ v' 8 = R.1 ∧ v' 9 = I R.2.2.1 ∧ v' 10 = I R.2.2.2.1 ∧ cl = R.2.2.2.2.1 ∧ br = R.2.2.2.2.2.1 ∧ ta' = R.2.2.2.2.2.2) ∨ (R = (v' 8, (i : Int), -4, -4, cl, br, ta') ∧ v' 9 = I (-4) ∧ v' 10 = I (-4)) → (∀ s22 : St, s22 = wr (MS s v' ta' ln') 82 13 (I cl) → (∀ s23 : St, s23 = wr s22 82 14 (s22 82 5) → Q s23)) := by
    intro hc s22 hs22 s23 hs23
    rw [MS_w82] at hs22
    rw [hs22, MS_w82, MS_82, upd_ne (by decide), e5] at hs23
    have key : v' 8 = R.1 ∧ v' 9 = I R.2.2.1 ∧ v' 10 = I R.2.2.2.1 ∧ cl = R.2.2.2.2.1 ∧ br = R.2.2.2.2.2.1 ∧ ta' = R.2.2.2.2.2.2 := by
      rcases hc with ⟨-, -, h⟩ | ⟨h, h9, h10⟩
      · exact h
      · rw [h]
        exact ⟨rfl, h9, h10, rfl, rfl, rfl⟩
    obtain ⟨k8, k9, k10, kc, kb, kt⟩ := key
    rw [hs23, kt]
    refine hQ _ ln' ⟨(hkp.up (by omega)).up (by omega), ?_, ?_, ?_, ?_, ?_, ?_, ?_, ?_⟩ hln
    · rw [upd_ne (by decide), upd_ne (by decide)]; exact k8
    · rw [upd_ne (by decide), upd_ne (by decide)]; exact k9
    · rw [upd_ne (by decide), upd_ne (by decide)]; exact k10
    · rw [upd_ne (by decide), upd_at, kc]
    · rw [upd_at, kb]
    · rw [upd_ne (by decide), upd_ne (by decide)]; exact e18
    · rw [upd_ne (by decide), upd_ne (by decide), e4, kc]
    · rw [upd_ne (by decide), upd_ne (by decide), e5, kb]
  refine ⟨_, fin, ?_, ?_⟩
  · intro q
    have q : n = i := by
      revert q
      simp (disch := (first | omega | (unfold inr; omega))) only [I_lit, I_nI, I_neg, I_add, I_sub, I_mul, I_div, I_le, I_lt, I_eq, I_clamp, I_clampN, I_vin]
      omega
    rcases hcase with ⟨-, h9, h10, hw⟩ | h
    · rw [← q, Nat.sub_self] at hw
      subst q
      exact Or.inr ⟨hw.symm, h9, h10⟩
    · exact Or.inl h
  · intro q
    have q : i < n := by
      revert q
      simp (disch := (first | omega | (unfold inr; omega))) only [I_lit, I_nI, I_neg, I_add, I_sub, I_mul, I_div, I_le, I_lt, I_eq, I_clamp, I_clampN, I_vin]
      omega
    constructor
    · intro z
      rcases hcase with ⟨-, h9, -⟩ | h
      · rw [h9] at z
        revert z
        simp (disch := (first | omega | (unfold inr; omega))) only [I_lit, I_nI, I_neg, I_add, I_sub, I_mul, I_div, I_le, I_lt, I_eq, I_clamp, I_clampN, I_vin]
        omega
      · exact Or.inl h
    · intro z
      rcases hcase with ⟨hN, h9, h10, hw⟩ | ⟨hN, h0, h8, h9, -⟩
      · have hob := hli i q
        have e0 : n - i = (n - (i + 1)) + 1 := by omega
        rw [e0] at hw
        unfold goF at hw
        have hmx := maxUp_in hk (a := 0) hli i (by omega)
        have hpu : ∀ j, j < n → 0 ≤ k 6 (l j) ∧ k 6 (l j) ≤ 9 := by
          intro j hj
          have := hk.2.2.2 _ (hli j hj)
          obtain ⟨-, -, -, -, -, -, h7, h8, -⟩ := this
          exact ⟨h7, h8⟩
        obtain ⟨pv, epv⟩ : ∃ x : Int, x = (if i + 1 < n then k 6 (l (i + 1)) / 3 else 0) := ⟨_, rfl⟩
        have hpv : 0 ≤ pv ∧ pv ≤ 3 := by
          rw [epv]
          split
          · rename_i z
            have := hpu _ z
            omega
          · omega
        rw [← epv] at hw
        obtain ⟨r, er⟩ : ∃ r, r = wayZ k (l i) false (maxUp k l 0 i / 3 + pv) cl br := ⟨_, rfl⟩
        rw [← er] at hw
        have hwi := wayZ_in hk hob false (maxUp k l 0 i / 3 + pv) (c := cl) (br := br) ⟨by omega, by omega⟩
        rw [← er] at hwi
        have hin6 : vp_in (I (i : Int)) 6 := I_vinN (by omega) (by decide)
        have hci : (I (i : Int)).toNatClampNeg = i := I_clampN (by omega)
        refine ⟨fun x => x = I pv, ?_, ?_, ?_⟩
        · rintro x26 rfl
          refine ⟨hin6, ?_⟩
          refine sp_pulled hk hr hn6 (fun j hj => ⟨hln j hj, hli j hj⟩) (a := 0) (e := i) (by omega) (by omega) rfl rfl ?_
          rw [Nat.sub_zero, I_add, hci, MS_87, hln i q]
          refine sp_goesWay hk hr hob false ⟨by omega, by omega⟩ ⟨by omega, by omega⟩ ⟨by omega, by omega⟩ e4 e5 rfl ?_
          rw [← er]
          simp only [MS_82, MS_87, wayM6]
          have nx : ∀ v2 ta2 : Nat → Int32, KP v v2 → v2 4 = I r.2.1 → v2 5 = I r.2.2 → v2 18 = I n → ((v2 9 = I (-4) ∧ v2 10 = I (-4) ∧ goF k l n false (n - (i + 1)) (i + 1) (maxUp k l 0 (i + 1)) (v2 8) r.2.1 r.2.2 ta2 = R) ∨ (0 ≤ R.2.2.1 ∧ v2 8 = R.1 ∧ v2 9 = I R.2.2.1 ∧ v2 10 = I R.2.2.2.1 ∧ r.2.1 = R.2.2.2.2.1 ∧ r.2.2 = R.2.2.2.2.2.1 ∧ ta2 = R.2.2.2.2.2.2)) → (∀ x34 : Int32, x34 = I i + 1 → ∃ m35, m35 < N ∧ (∃ (i : Nat) (v' ta' : Nat → Int32) (cl br : Int), x34 = I i ∧ i ≤ n ∧ MS s v2 ta2 ln' = MS s v' ta' ln' ∧ KP v v' ∧ v' 4 = I cl ∧ v' 5 = I br ∧ v' 18 = I n ∧ (0 ≤ cl ∧ cl ≤ k 9 2 + 360 * i) ∧ (0 ≤ br ∧ br ≤ 12 * i) ∧ ((m35 = n - i + 1 ∧ v' 9 = I (-4) ∧ v' 10 = I (-4) ∧ goF k l n false (n - i) i (maxUp k l 0 i) (v' 8) cl br ta' = R) ∨ (m35 = 0 ∧ 0 ≤ R.2.2.1 ∧ v' 8 = R.1 ∧ v' 9 = I R.2.2.1 ∧ v' 10 = I R.2.2.2.1 ∧ cl = R.2.2.2.2.1 ∧ br = R.2.2.2.2.2.1 ∧ ta' = R.2.2.2.2.2.2)))) := by
            intro v2 ta2 g1 g2 g3 g4 g5 x34 hx34
            have ex : x34 = I ((i + 1 : Nat) : Int) := by
              rw [hx34]
              simp (disch := (first | omega | (unfold inr; omega))) only [I_lit, I_nI, I_neg, I_add, I_sub, I_mul, I_div, I_le, I_lt, I_eq, I_clamp, I_clampN, I_vin]
              congr 1
            rcases g5 with ⟨g9, g10, gw⟩ | g
            · exact ⟨n - (i + 1) + 1, by omega, i + 1, v2, ta2, r.2.1, r.2.2, ex, by omega, rfl, g1, g2, g3, g4, ⟨by omega, by omega⟩, ⟨by omega, by omega⟩, Or.inl ⟨rfl, g9, g10, gw⟩⟩
            · exact ⟨0, by omega, i + 1, v2, ta2, r.2.1, r.2.2, ex, by omega, rfl, g1, g2, g3, g4, ⟨by omega, by omega⟩, ⟨by omega, by omega⟩, Or.inr ⟨rfl, g⟩⟩
          refine ⟨fun s' => ∃ v2 ta2 : Nat → Int32, s' = MS s v2 ta2 ln' ∧ KP v v2 ∧ v2 4 = I r.2.1 ∧ v2 5 = I r.2.2 ∧ v2 18 = I n ∧ ((v2 9 = I (-4) ∧ v2 10 = I (-4) ∧ goF k l n false (n - (i + 1)) (i + 1) (maxUp k l 0 (i + 1)) (v2 8) r.2.1 r.2.2 ta2 = R) ∨ (0 ≤ R.2.2.1 ∧ v2 8 = R.1 ∧ v2 9 = I R.2.2.1 ∧ v2 10 = I R.2.2.2.1 ∧ r.2.1 = R.2.2.2.2.1 ∧ r.2.2 = R.2.2.2.2.2.1 ∧ ta2 = R.2.2.2.2.2.2)), ?_, ?_, ?_⟩
          · rintro s32 ⟨v2, ta2, rfl, g1, g2, g3, g4, g5⟩
            exact nx v2 ta2 g1 g2 g3 g4 g5
          · intro c
            have c : r.1 = -4 := by
              rcases hwi.1 with h | h
              · exact h
              · exfalso
                revert c
                simp (disch := (first | omega | (unfold inr; omega))) only [I_lit, I_nI, I_neg, I_add, I_sub, I_mul, I_div, I_le, I_lt, I_eq, I_clamp, I_clampN, I_vin]
                omega
            rw [if_pos c] at hw
            refine ⟨hin6, ?_⟩
            intro s38 hs38
            rw [MS_w82, hln i q, wayM_ne ⟨by decide, by decide, by decide⟩] at hs38
            subst hs38
            refine ⟨hin6, ?_⟩
            intro s40 hs40
            rw [MS_82, MS_w86] at hs40
            refine ⟨_, _, hs40, (hkp.way).up (by omega), ?_, ?_, ?_, Or.inl ⟨?_, ?_, ?_⟩⟩
            · rw [upd_ne (by decide)]; rfl
            · rw [upd_ne (by decide)]; rfl
            · rw [upd_ne (by decide), wayM_ne ⟨by decide, by decide, by decide⟩]; exact e18
            · rw [upd_ne (by decide), wayM_ne ⟨by decide, by decide, by decide⟩]; exact h9
            · rw [upd_ne (by decide), wayM_ne ⟨by decide, by decide, by decide⟩]; exact h10
            · rw [upd_at, upd_ne (by decide), wayM4]
              have em : maxUp k l 0 (i + 1) = max (maxUp k l 0 i) (k 6 (l i)) := by
                show max (maxUp k l 0 i) (k 6 (l (0 + i))) = _
                rw [Nat.zero_add]
              rw [em]
              exact hw
          · intro c
            have c : ¬ r.1 = -4 := by
              intro z
              rw [z] at c
              revert c
              simp (disch := (first | omega | (unfold inr; omega))) only [I_lit, I_nI, I_neg, I_add, I_sub, I_mul, I_div, I_le, I_lt, I_eq, I_clamp, I_clampN, I_vin]
              omega
            rw [if_neg c] at hw
            refine ⟨hin6, ?_⟩
            intro s42 hs42 s43 hs43
            rw [MS_w82, hln i q] at hs42
            rw [hs42, MS_82, MS_w82, upd_ne (by decide), wayM6] at hs43
            refine ⟨_, _, hs43, ((hkp.way).up (by omega)).up (by omega), ?_, ?_, ?_, Or.inr ?_⟩
            · rw [upd_ne (by decide), upd_ne (by decide)]; rfl
            · rw [upd_ne (by decide), upd_ne (by decide)]; rfl
            · rw [upd_ne (by decide), upd_ne (by decide), wayM_ne ⟨by decide, by decide, by decide⟩]; exact e18
            · rw [← hw]
              refine ⟨Int.natCast_nonneg _, ?_, ?_, ?_, rfl, rfl, rfl⟩
              · rw [upd_ne (by decide), upd_ne (by decide), wayM_ne ⟨by decide, by decide, by decide⟩]
              · rw [upd_ne (by decide), upd_at]
              · rw [upd_at]
        · intro c
          have c : n ≤ i + 1 := by
            revert c
            simp (disch := (first | omega | (unfold inr; omega))) only [I_lit, I_nI, I_neg, I_add, I_sub, I_mul, I_div, I_le, I_lt, I_eq, I_clamp, I_clampN, I_vin]
            omega
          rw [epv, if_neg (by omega)]
          rfl
        · intro c
          have c : i + 1 < n := by
            revert c
            simp (disch := (first | omega | (unfold inr; omega))) only [I_lit, I_nI, I_neg, I_add, I_sub, I_mul, I_div, I_le, I_lt, I_eq, I_clamp, I_clampN, I_vin]
            omega
          have e1 : I (i : Int) + 1 = I ((i + 1 : Nat) : Int) := by
            simp (disch := (first | omega | (unfold inr; omega))) only [I_lit, I_nI, I_neg, I_add, I_sub, I_mul, I_div, I_le, I_lt, I_eq, I_clamp, I_clampN, I_vin]
            congr 1
          rw [e1]
          have := hpu _ c
          have hl2 := hli _ c
          refine ⟨I_vinN (by omega) (by decide), ?_⟩
          rw [I_clampN (by omega), MS_87, hln _ c]
          refine sp_of (RM_MS ⟨by decide, by decide, by decide⟩ hr) hl2 (by omega) (w := 3) (by decide) rfl ?_
          rw [epv, if_pos c]
          simp only [Nat.reduceAdd]
          simp (disch := (first | omega | (unfold inr; omega))) only [I_lit, I_nI, I_neg, I_add, I_sub, I_mul, I_div, I_le, I_lt, I_eq, I_clamp, I_clampN, I_vin]
      · exfalso
        apply z
        rw [h9]
        simp (disch := (first | omega | (unfold inr; omega))) only [I_lit, I_nI, I_neg, I_add, I_sub, I_mul, I_div, I_le, I_lt, I_eq, I_clamp, I_clampN, I_vin]
        omega
