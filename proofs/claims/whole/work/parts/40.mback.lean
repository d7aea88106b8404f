theorem way_br (k : Kv) (b : Nat) (back : Bool) (help : Int) : ∀ (n i : Nat) (c br br' : Int), (wayF k b back help n i c br).1 = (wayF k b back help n i c br').1 ∧ (wayF k b back help n i c br).2.1 = (wayF k b back help n i c br').2.1 := by
  intro n
  induction n with
  | zero => intro i c br br'; exact ⟨rfl, rfl⟩
  | succ n ih =>
    intro i c br br'
    unfold wayF
    split
    · exact ⟨rfl, rfl⟩
    · exact ih _ _ _ _
/-- what going there and back leaves in the model's fields -/
def TH (v v' : Nat → Int32) (n : Nat) (R RH : Gr) : Prop := KP v v' ∧ v' 8 = R.1 ∧ v' 9 = I R.2.2.1 ∧ v' 10 = I R.2.2.2.1 ∧ v' 13 = I R.2.2.2.2.1 ∧ v' 14 = I R.2.2.2.2.2.1 ∧ v' 18 = I n ∧ v' 11 = RH.1 ∧ v' 12 = I RH.2.2.1 ∧ v' 15 = I RH.2.2.2.2.1
def zt : Nat → Int32 := fun _ => 0
set_option maxHeartbeats 2000000 in
theorem sp_gtab {s : St} {k : Kv} (hk : CV k) (ho : CO k) (hr : RM s 83 k) {v ta ln : Nat → Int32} {Q : St → Prop}
    (hQ : ∀ v' ln', TH v v' (lnn k (v 7)) (thereZ k (lnf k (v 7)) (lnn k (v 7)) (k 9 2) ta) (homeZ k (lnf k (v 7)) (lnn k (v 7)) (thereZ k (lnf k (v 7)) (lnn k (v 7)) (k 9 2) ta) zt) → Q (MS s v' (thereZ k (lnf k (v 7)) (lnn k (v 7)) (k 9 2) ta).2.2.2.2.2.2 ln')) : vc_Mod_goesThereAndBack (MS s v ta ln) Q := by
  have hn6 := lnn_le hk (v 7)
  have hli := lnf_in hk ho (v 7)
  have a := hk.1
  have a5 := hk.2.1
  have hgi := goZ_in hk hn6 (oat_in hli false) false (c := k 9 2) ⟨by omega, by omega⟩ ta
  unfold vc_Mod_goesThereAndBack
  refine sp_goesThere hk ho hr ?_
  intro v1 ln1 hT hln
  obtain ⟨n, en⟩ : ∃ n, n = lnn k (v 7) := ⟨_, rfl⟩
  obtain ⟨l, el⟩ : ∃ l, l = lnf k (v 7) := ⟨_, rfl⟩
  obtain ⟨R, eR⟩ : ∃ R, R = thereZ k l n (k 9 2) ta := ⟨_, rfl⟩
  rw [← en, ← el] at hQ hgi hT hln
  rw [← en] at hn6 hli
  rw [← el] at hli
  rw [← eR] at hQ hT
  have hgi2 : (goZ k (oat l n false) n false (k 9 2) ta) = R := eR.symm
  rw [hgi2] at hgi
  obtain ⟨RH, eRH⟩ : ∃ RH, RH = homeZ k l n R zt := ⟨_, rfl⟩
  rw [← eRH] at hQ
  rw [← en, ← el, ← eR]
  obtain ⟨hkp, t8, t9, t10, t13, t14, t18, t4, t5⟩ := hT
  intro s11 hs11 s12 hs12 s13 hs13
  rw [MS_w82] at hs11
  rw [hs11, MS_w82] at hs12
  rw [hs12, MS_w82, MS_82, upd_ne (by decide), upd_ne (by decide), t13] at hs13
  clear hs11 hs12
  subst hs13
  have v9 : (MS s (upd (upd (upd v1 11 0) 12 (-4)) 15 (I R.2.2.2.2.1)) R.2.2.2.2.2.2 ln1) 82 9 = I R.2.2.1 := t9
  rw [v9]
  constructor
  · intro c
    have c : R.2.2.1 = -4 := by
      rcases hgi.1 with h | h
      · exact h
      · exfalso
        revert c
        simp (disch := (first | omega | (unfold inr; omega))) only [I_lit, I_nI, I_neg, I_add, I_sub, I_mul, I_div, I_le, I_lt, I_eq, I_clamp, I_clampN, I_vin]
        omega
    have eRH2 : goF k (oat l n true) n true n 0 0 0 R.2.2.2.2.1 0 zt = RH := by
      rw [eRH]
      unfold homeZ
      rw [if_pos c]
      rfl
    have hob := oat_in hli true
    intro x15 hx15
    have v18 : (MS s (upd (upd (upd v1 11 0) 12 (-4)) 15 (I R.2.2.2.2.1)) R.2.2.2.2.2.2 ln1) 82 18 = I n := t18
    rw [v18] at hx15
    refine ⟨fun N x s' => ∃ (i : Nat) (v' ts' : Nat → Int32) (cl br brm : Int), x = I ((n : Int) - 1 - i) ∧ i ≤ n ∧ s' = MS s v' R.2.2.2.2.2.2 ln1 ∧ (KP v v' ∧ v' 8 = R.1 ∧ v' 9 = I R.2.2.1 ∧ v' 10 = I R.2.2.2.1 ∧ v' 13 = I R.2.2.2.2.1 ∧ v' 14 = I R.2.2.2.2.2.1 ∧ v' 18 = I n) ∧ v' 4 = I cl ∧ v' 5 = I brm ∧ (0 ≤ cl ∧ cl ≤ k 9 2 + 2160 + 360 * i) ∧ (0 ≤ brm ∧ brm ≤ 72 + 12 * i) ∧ ((N = n - i + 1 ∧ v' 12 = I (-4) ∧ goF k (oat l n true) n true (n - i) i (maxUp k (oat l n true) 0 i) (v' 11) cl br ts' = RH) ∨ (N = 0 ∧ 0 ≤ RH.2.2.1 ∧ RH.2.2.1 ≤ 6 ∧ v' 11 = RH.1 ∧ v' 12 = I RH.2.2.1 ∧ cl = RH.2.2.2.2.1)), ⟨n + 1, 0, _, zt, R.2.2.2.2.1, 0, R.2.2.2.2.2.1, ?_, by omega, rfl, ⟨((hkp.up (by omega)).up (by omega)).up (by omega), t8, t9, t10, t13, t14, t18⟩, t4, t5, ⟨by omega, by omega⟩, ⟨by omega, by omega⟩, Or.inl ⟨by omega, rfl, eRH2⟩⟩, ?_⟩
    · rw [hx15]
      simp (disch := (first | omega | (unfold inr; omega))) only [I_lit, I_nI, I_neg, I_add, I_sub, I_mul, I_div, I_le, I_lt, I_eq, I_clamp, I_clampN, I_vin]
      omega
    rintro N x s' ⟨i, v', ts', cl, br, brm, rfl, hi, rfl, ⟨hkp', w8, w9, w10, w13, w14, w18⟩, e4, e5, hcl, hbr, hcase⟩
    simp only [MS_82, e4, w18]
    have fin : ((N = 0 ∧ 0 ≤ RH.2.2.1 ∧ RH.2.2.1 ≤ 6 ∧ v' 11 = RH.1 ∧ v' 12 = I RH.2.2.1 ∧ cl = RH.2.2.2.2.1) ∨ (RH = (v' 11, (i : Int), -4, -4, cl, br, ts') ∧ v' 12 = I (-4))) → (∀ s21 : St, s21 = wr (MS s v' R.2.2.2.2.2.2 ln1) 82 15 (I cl) → Q s21) := by
      intro hc s21 hs21
      rw [MS_w82] at hs21
      have key : v' 11 = RH.1 ∧ v' 12 = I RH.2.2.1 ∧ cl = RH.2.2.2.2.1 := by
        rcases hc with ⟨-, -, -, h⟩ | ⟨h, h12⟩
        · exact h
        · rw [h]
          exact ⟨rfl, h12, rfl⟩
      obtain ⟨k11, k12, kc⟩ := key
      rw [hs21]
      refine hQ _ ln1 ⟨hkp'.up (by omega), ?_, ?_, ?_, ?_, ?_, ?_, ?_, ?_, ?_⟩
      · rw [upd_ne (by decide)]; exact w8
      · rw [upd_ne (by decide)]; exact w9
      · rw [upd_ne (by decide)]; exact w10
      · rw [upd_ne (by decide)]; exact w13
      · rw [upd_ne (by decide)]; exact w14
      · rw [upd_ne (by decide)]; exact w18
      · rw [upd_ne (by decide)]; exact k11
      · rw [upd_ne (by decide)]; exact k12
      · rw [upd_at, kc]
    refine ⟨_, fin, ?_, ?_⟩
    · intro q
      have q : n = i := by
        revert q
        simp (disch := (first | omega | (unfold inr; omega))) only [I_lit, I_nI, I_neg, I_add, I_sub, I_mul, I_div, I_le, I_lt, I_eq, I_clamp, I_clampN, I_vin]
        omega
      rcases hcase with ⟨-, h12, hw⟩ | h
      · rw [← q, Nat.sub_self] at hw
        subst q
        exact Or.inr ⟨hw.symm, h12⟩
      · exact Or.inl h
    · intro q
      have q : i < n := by
        revert q
        simp (disch := (first | omega | (unfold inr; omega))) only [I_lit, I_nI, I_neg, I_add, I_sub, I_mul, I_div, I_le, I_lt, I_eq, I_clamp, I_clampN, I_vin]
        omega
      constructor
      · intro z
        rcases hcase with ⟨-, h12, -⟩ | h
        · rw [h12] at z
          revert z
          simp (disch := (first | omega | (unfold inr; omega))) only [I_lit, I_nI, I_neg, I_add, I_sub, I_mul, I_div, I_le, I_lt, I_eq, I_clamp, I_clampN, I_vin]
          omega
        · exact Or.inl h
      · intro z
        rcases hcase with ⟨hN, h12, hw⟩ | ⟨hN, h0, h6, h11, h12, -⟩
        · have hobi := hob i q
          have eo : oat l n true i = l (n - 1 - i) := by
            unfold oat
            rw [if_pos rfl]
          have e0 : n - i = (n - (i + 1)) + 1 := by omega
          rw [e0] at hw
          unfold goF at hw
          have hmx := maxUp_in hk (a := 0) hob i (by omega)
          have hpu : ∀ j, j < n → 0 ≤ k 6 (oat l n true j) ∧ k 6 (oat l n true j) ≤ 9 := by
            intro j hj
            have := hk.2.2.2 _ (hob j hj)
            obtain ⟨-, -, -, -, -, -, h7, h8, -⟩ := this
            exact ⟨h7, h8⟩
          obtain ⟨pv, epv⟩ : ∃ x : Int, x = (if i + 1 < n then k 6 (oat l n true (i + 1)) / 3 else 0) := ⟨_, rfl⟩
          have hpv : 0 ≤ pv ∧ pv ≤ 3 := by
            rw [epv]
            split
            · rename_i z
              have := hpu _ z
              omega
            · omega
          rw [← epv] at hw
          obtain ⟨r, er⟩ : ∃ r, r = wayZ k (oat l n true i) true (maxUp k (oat l n true) 0 i / 3 + pv) cl br := ⟨_, rfl⟩
          obtain ⟨r', er'⟩ : ∃ r, r = wayZ k (oat l n true i) true (maxUp k (oat l n true) 0 i / 3 + pv) cl brm := ⟨_, rfl⟩
          have hbrr := way_br k (oat l n true i) true (maxUp k (oat l n true) 0 i / 3 + pv) (k 9 0).toNat 0 cl brm br
          have hb1 : r'.1 = r.1 := by rw [er, er']; exact hbrr.1
          have hb2 : r'.2.1 = r.2.1 := by rw [er, er']; exact hbrr.2
          rw [← er] at hw
          have hwi := wayZ_in hk hobi true (maxUp k (oat l n true) 0 i / 3 + pv) (c := cl) (br := brm) ⟨by omega, by omega⟩
          rw [← er'] at hwi
          have exi : I ((n : Int) - 1 - i) = I ((n - 1 - i : Nat) : Int) := by
            congr 1
            omega
          have hin6 : vp_in (I ((n : Int) - 1 - i)) 6 := by
            rw [exi]
            exact I_vinN (by omega) (by decide)
          have hci : (I ((n : Int) - 1 - i)).toNatClampNeg = n - 1 - i := by
            rw [exi]
            exact I_clampN (by omega)
          have hl1 : ln1 (n - 1 - i) = I (oat l n true i : Nat) := by
            rw [eo]
            exact hln _ (by omega)
          refine ⟨fun x => x = I pv, ?_, ?_, ?_⟩
          · rintro x24 rfl
            refine ⟨hin6, ?_⟩
            have ea : I ((n : Int) - 1 - i) + 1 = I ((n - i : Nat) : Int) := by
              simp (disch := (first | omega | (unfold inr; omega))) only [I_lit, I_nI, I_neg, I_add, I_sub, I_mul, I_div, I_le, I_lt, I_eq, I_clamp, I_clampN, I_vin]
              congr 1
              omega
            refine sp_pulled hk hr hn6 (fun j hj => ⟨hln j hj, hli j hj⟩) (a := n - i) (e := n) (by omega) (by omega) ea rfl ?_
            rw [show n - (n - i) = i by omega, maxUp_rev k l hi, I_add, hci, MS_87, hl1]
            refine sp_goesWay hk hr hobi true ⟨by omega, by omega⟩ ⟨by omega, by omega⟩ ⟨by omega, by omega⟩ e4 e5 rfl ?_
            rw [← er']
            simp only [MS_82, MS_87, wayM6]
            refine ⟨fun s' => ∃ v2 ts2 : Nat → Int32, s' = MS s v2 R.2.2.2.2.2.2 ln1 ∧ (KP v v2 ∧ v2 8 = R.1 ∧ v2 9 = I R.2.2.1 ∧ v2 10 = I R.2.2.2.1 ∧ v2 13 = I R.2.2.2.2.1 ∧ v2 14 = I R.2.2.2.2.2.1 ∧ v2 18 = I n) ∧ v2 4 = I r'.2.1 ∧ v2 5 = I r'.2.2 ∧ ((v2 12 = I (-4) ∧ goF k (oat l n true) n true (n - (i + 1)) (i + 1) (maxUp k (oat l n true) 0 (i + 1)) (v2 11) r.2.1 r.2.2 ts2 = RH) ∨ (0 ≤ RH.2.2.1 ∧ RH.2.2.1 ≤ 6 ∧ v2 11 = RH.1 ∧ v2 12 = I RH.2.2.1 ∧ r.2.1 = RH.2.2.2.2.1)), ?_, ?_, ?_⟩
            · rintro s30 ⟨v2, ts2, rfl, g1, g4, g5, gc⟩ x32 hx32
              have ex : x32 = I ((n : Int) - 1 - (i + 1 : Nat)) := by
                rw [hx32]
                simp (disch := (first | omega | (unfold inr; omega))) only [I_lit, I_nI, I_neg, I_add, I_sub, I_mul, I_div, I_le, I_lt, I_eq, I_clamp, I_clampN, I_vin]
                omega
              rcases gc with ⟨g12, gw⟩ | g
              · exact ⟨n - (i + 1) + 1, by omega, i + 1, v2, ts2, r.2.1, r.2.2, r'.2.2, ex, by omega, rfl, g1, by rw [g4, hb2], g5, ⟨by omega, by omega⟩, ⟨by omega, by omega⟩, Or.inl ⟨rfl, g12, gw⟩⟩
              · exact ⟨0, by omega, i + 1, v2, ts2, r.2.1, r.2.2, r'.2.2, ex, by omega, rfl, g1, by rw [g4, hb2], g5, ⟨by omega, by omega⟩, ⟨by omega, by omega⟩, Or.inr ⟨rfl, g⟩⟩
            · intro c
              have c : r.1 = -4 := by
                rw [← hb1]
                rcases hwi.1 with h | h
                · exact h
                · exfalso
                  revert c
                  simp (disch := (first | omega | (unfold inr; omega))) only [I_lit, I_nI, I_neg, I_add, I_sub, I_mul, I_div, I_le, I_lt, I_eq, I_clamp, I_clampN, I_vin]
                  omega
              rw [if_pos c] at hw
              refine ⟨hin6, ?_⟩
              intro s36 hs36
              rw [MS_w82, hl1, wayM_ne ⟨by decide, by decide, by decide⟩] at hs36
              refine ⟨_, upd ts' i (I r.2.1), hs36, ⟨(hkp'.way).up (by omega), ?_, ?_, ?_, ?_, ?_, ?_⟩, ?_, ?_, Or.inl ⟨?_, ?_⟩⟩
              · rw [upd_ne (by decide), wayM_ne ⟨by decide, by decide, by decide⟩]; exact w8
              · rw [upd_ne (by decide), wayM_ne ⟨by decide, by decide, by decide⟩]; exact w9
              · rw [upd_ne (by decide), wayM_ne ⟨by decide, by decide, by decide⟩]; exact w10
              · rw [upd_ne (by decide), wayM_ne ⟨by decide, by decide, by decide⟩]; exact w13
              · rw [upd_ne (by decide), wayM_ne ⟨by decide, by decide, by decide⟩]; exact w14
              · rw [upd_ne (by decide), wayM_ne ⟨by decide, by decide, by decide⟩]; exact w18
              · rw [upd_ne (by decide)]; rfl
              · rw [upd_ne (by decide)]; rfl
              · rw [upd_ne (by decide), wayM_ne ⟨by decide, by decide, by decide⟩]; exact h12
              · rw [upd_at]
                have em : maxUp k (oat l n true) 0 (i + 1) = max (maxUp k (oat l n true) 0 i) (k 6 (oat l n true i)) := by
                  show max (maxUp k (oat l n true) 0 i) (k 6 (oat l n true (0 + i))) = _
                  rw [Nat.zero_add]
                rw [em]
                exact hw
            · intro c
              have c : ¬ r.1 = -4 := by
                intro z
                rw [hb1, z] at c
                revert c
                simp (disch := (first | omega | (unfold inr; omega))) only [I_lit, I_nI, I_neg, I_add, I_sub, I_mul, I_div, I_le, I_lt, I_eq, I_clamp, I_clampN, I_vin]
                omega
              rw [if_neg c] at hw
              refine ⟨hin6, ?_⟩
              intro s38 hs38
              rw [MS_w82, hl1] at hs38
              refine ⟨_, ts', hs38, ⟨(hkp'.way).up (by omega), ?_, ?_, ?_, ?_, ?_, ?_⟩, ?_, ?_, Or.inr ?_⟩
              · rw [upd_ne (by decide), wayM_ne ⟨by decide, by decide, by decide⟩]; exact w8
              · rw [upd_ne (by decide), wayM_ne ⟨by decide, by decide, by decide⟩]; exact w9
              · rw [upd_ne (by decide), wayM_ne ⟨by decide, by decide, by decide⟩]; exact w10
              · rw [upd_ne (by decide), wayM_ne ⟨by decide, by decide, by decide⟩]; exact w13
              · rw [upd_ne (by decide), wayM_ne ⟨by decide, by decide, by decide⟩]; exact w14
              · rw [upd_ne (by decide), wayM_ne ⟨by decide, by decide, by decide⟩]; exact w18
              · rw [upd_ne (by decide)]; rfl
              · rw [upd_ne (by decide)]; rfl
              · rw [← hw]
                refine ⟨Int.natCast_nonneg _, ?_, ?_, ?_, rfl⟩
                · show ((oat l n true i : Nat) : Int) ≤ 6
                  omega
                · rw [upd_ne (by decide), wayM_ne ⟨by decide, by decide, by decide⟩]
                · rw [upd_at]
          · intro c
            have c : n ≤ i + 1 := by
              revert c
              simp (disch := (first | omega | (unfold inr; omega))) only [I_lit, I_nI, I_neg, I_add, I_sub, I_mul, I_div, I_le, I_lt, I_eq, I_clamp, I_clampN, I_vin]
              omega
            rw [epv, if_neg (by omega)]
            rfl
          · intro c
            have c : i + 1 < n := by
              revert c
              simp (disch := (first | omega | (unfold inr; omega))) only [I_lit, I_nI, I_neg, I_add, I_sub, I_mul, I_div, I_le, I_lt, I_eq, I_clamp, I_clampN, I_vin]
              omega
            have e1 : I ((n : Int) - 1 - i) - 1 = I ((n - 1 - (i + 1) : Nat) : Int) := by
              simp (disch := (first | omega | (unfold inr; omega))) only [I_lit, I_nI, I_neg, I_add, I_sub, I_mul, I_div, I_le, I_lt, I_eq, I_clamp, I_clampN, I_vin]
              congr 1
              omega
            rw [e1]
            have := hpu _ c
            have hl2 := hob _ c
            have eo2 : oat l n true (i + 1) = l (n - 1 - (i + 1)) := by
              unfold oat
              rw [if_pos rfl]
            refine ⟨I_vinN (by omega) (by decide), ?_⟩
            rw [I_clampN (by omega), MS_87, hln _ (by omega), ← eo2]
            refine sp_of (RM_MS ⟨by decide, by decide, by decide⟩ hr) hl2 (by omega) (w := 3) (by decide) rfl ?_
            rw [epv, if_pos c]
            simp only [Nat.reduceAdd]
            simp (disch := (first | omega | (unfold inr; omega))) only [I_lit, I_nI, I_neg, I_add, I_sub, I_mul, I_div, I_le, I_lt, I_eq, I_clamp, I_clampN, I_vin]
        · exfalso
          apply z
          rw [h12]
          simp (disch := (first | omega | (unfold inr; omega))) only [I_lit, I_nI, I_neg, I_add, I_sub, I_mul, I_div, I_le, I_lt, I_eq, I_clamp, I_clampN, I_vin]
          omega
  · intro c
    have c : ¬ R.2.2.1 = -4 := by
      intro z
      rw [z] at c
      revert c
      simp (disch := (first | omega | (unfold inr; omega))) only [I_lit, I_nI, I_neg, I_add, I_sub, I_mul, I_div, I_le, I_lt, I_eq, I_clamp, I_clampN, I_vin]
      omega
    have eRH2 : RH = (0, 0, -4, -4, R.2.2.2.2.1, 0, zt) := by
      rw [eRH]
      unfold homeZ
      rw [if_neg c]
    refine hQ _ ln1 ⟨((hkp.up (by omega)).up (by omega)).up (by omega), t8, t9, t10, t13, t14, t18, ?_, ?_, ?_⟩
    · rw [eRH2]; rfl
    · rw [eRH2]; rfl
    · rw [eRH2]; rfl
