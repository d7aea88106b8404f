/-! THE MODEL: ways and lines -/
def wayM (v : Nat → Int32) (r : Int × Int × Int) : Nat → Int32 := upd (upd (upd v 4 (I r.2.1)) 5 (I r.2.2)) 6 (I r.1)
theorem v_in {a : Int} {n : Nat} (h : 0 ≤ a ∧ a < n) (hn : n < 1000) {x : Int32} (hx : x = I a) : vp_in x n := by
  subst hx
  exact (I_vin ⟨by omega, by omega⟩).mpr h
set_option maxHeartbeats 1000000 in
theorem sp_goesWay {s : St} {k : Kv} (hk : CV k) (hr : RM s 83 k) {v ta ln : Nat → Int32} {b : Nat} (hb : (b : Int) < k 9 1) (back : Bool) {help c0 br0 : Int} (hh : 0 ≤ help ∧ help ≤ 100) (hc0 : 0 ≤ c0 ∧ c0 ≤ 500000) (hb0 : 0 ≤ br0 ∧ br0 ≤ 500000) (e4 : v 4 = I c0) (e5 : v 5 = I br0) {bk : Int32} (hbk : bk = bi back)
    {Q : St → Prop} (hQ : Q (MS s (wayM v (wayZ k b back help c0 br0)) ta ln)) : vc_Mod_goesWay (I b) bk (I help) (MS s v ta ln) Q := by
  obtain ⟨⟨a1, a2, a3, a4⟩, ⟨a5, a6, a7, a8, -⟩, hCY, hCB⟩ := hk
  have hb2 := hCB b hb
  have hb6 : b < 6 := by omega
  obtain ⟨u1, u2, u3, u4, -⟩ := id hb2
  have rm : ∀ w t' l', RM (MS s w t' l') 83 k := fun w t' l' => RM_MS ⟨by decide, by decide, by decide⟩ hr
  have h0 : s 83 (Int32.toNatClampNeg 0) = I (k 9 0) := hr.1 0 (by decide)
  have hv0 : vp_in 0 78 := v_in (a := 0) ⟨by decide, by decide⟩ (by decide) rfl
  unfold vc_Mod_goesWay
  intro s10 hs10
  refine ⟨fun n x s' => ∃ (i : Nat) (cl br : Int), x = I i ∧ (i : Int) ≤ k 9 0 ∧ n = (k 9 0).toNat - i ∧ s' = MS s (wayM v (-4, cl, br)) ta ln ∧ (0 ≤ cl ∧ cl ≤ c0 + 30 * i) ∧ (0 ≤ br ∧ br ≤ br0 + i) ∧ wayF k b back help ((k 9 0).toNat - i) i cl br = wayZ k b back help c0 br0, ⟨_, 0, c0, br0, rfl, by simpa using a1, rfl, ?_, ⟨by omega, by omega⟩, ⟨by omega, by omega⟩, rfl⟩, ?_⟩
  · rw [hs10, MS_w82]
    unfold wayM
    rw [upd_self (f := v) e4, upd_self e5]
    rfl
  rintro n x s' ⟨i, cl, br, rfl, hi, hn, rfl, hcl, hbr, hw⟩
  refine ⟨hv0, ?_⟩
  rw [MS_83, h0]
  have e4' : (MS s (wayM v (-4, cl, br)) ta ln) 82 4 = I cl := rfl
  have e5' : (MS s (wayM v (-4, cl, br)) ta ln) 82 5 = I br := rfl
  rw [e4', e5']
  constructor
  · intro q
    have q : k 9 0 ≤ i := by
      revert q
      simp (disch := (first | omega | (unfold inr; omega))) only [I_lit, I_nI, I_neg, I_add, I_sub, I_mul, I_div, I_le, I_lt, I_eq, I_clamp, I_clampN, I_vin]
      exact id
    have e : (k 9 0).toNat - i = 0 := by omega
    rw [e] at hw
    rw [← hw] at hQ
    exact hQ
  · intro q
    have q : (i : Int) < k 9 0 := by
      revert q
      simp (disch := (first | omega | (unfold inr; omega))) only [I_lit, I_nI, I_neg, I_add, I_sub, I_mul, I_div, I_le, I_lt, I_eq, I_clamp, I_clampN, I_vin]
      omega
    have hy : (yat k back i : Int) < k 9 0 := by
      unfold yat
      split <;> omega
    have hyi : yat k back i < 12 := by omega
    have hy2 := hCY _ hy
    have hlk := lack_in hb2 hy2 (c := cl) ⟨by omega, by omega⟩ ⟨a7, a8⟩
    have hmn := min_in (k := k 0 (yat k back i)) (f := k 1 (yat k back i)) ⟨hy2.2.2.1, hy2.2.2.2.1⟩ back
    have e0 : (k 9 0).toNat - i = ((k 9 0).toNat - (i + 1)) + 1 := by omega
    rw [e0] at hw
    unfold wayF at hw
    have hex := extra_in (lackZ k b (yat k back i) cl) (k 4 b)
    have hbb := br_in (lackZ k b (yat k back i) cl) (k 4 b)
    have hsz := size_in hb2 (yat k back i) (k 7 b) true
    have hwt := water_in (c := cl) (r := k 9 3) ⟨by omega, by omega⟩ ⟨a7, a8⟩
    have hrm := room_in hy2 hwt.1
    have elk : lackZ k b (yat k back i) cl = sizeZ k b (yat k back i) (k 7 b) true - roomZ k (yat k back i) (cl / 60 * k 9 3) := rfl
    have e60 : I cl / 60 = I (cl / 60) := by simp (disch := (first | omega | (unfold inr; omega))) only [I_lit, I_nI, I_neg, I_add, I_sub, I_mul, I_div, I_le, I_lt, I_eq, I_clamp, I_clampN, I_vin]
    refine ⟨fun x => x = I (yat k back i), ?_, ?_, ?_⟩
    · rintro x rfl
      rw [e60]
      refine sp_mfits (rm _ _ _) hb hb6 hy hyi hy2 hb2 ⟨a7, a8⟩ ⟨by omega, by omega⟩ ?_
      rw [fitH_eq]
      -- going on
      have on : ¬ help < lackZ k b (yat k back i) cl → (∃ J23 : Int32 → Prop, (∀ (x22 : Int32), J23 x22 → (∀ s24 : St, s24 = wr (MS s (wayM v (-4, cl, br)) ta ln) 82 5 (I br + x22) → vc_Mod_minutesOf (I (yat k back i)) bk s24 (fun x25 => (∃ J28 : Int32 → Prop, (∀ (x27 : Int32), J28 x27 → (∀ s29 : St, s29 = wr s24 82 4 ((s24 82 4) + (x25 + x27)) → (∀ x30 : Int32, x30 = I i + 1 → ∃ m31, m31 < n ∧ (∃ (i : Nat) (cl br : Int), x30 = I i ∧ (i : Int) ≤ k 9 0 ∧ m31 = (k 9 0).toNat - i ∧ s29 = MS s (wayM v (-4, cl, br)) ta ln ∧ (0 ≤ cl ∧ cl ≤ c0 + 30 * i) ∧ (0 ≤ br ∧ br ≤ br0 + i) ∧ wayF k b back help ((k 9 0).toNat - i) i cl br = wayZ k b back help c0 br0)))) ∧ ((¬ I (fitZ k b (yat k back i) cl) = 1 → ((¬ I (fitZ k b (yat k back i) cl) = 2 → J28 0) ∧ (I (fitZ k b (yat k back i) cl) = 2 → J28 10))) ∧ (I (fitZ k b (yat k back i) cl) = 1 → J28 1)))))) ∧ ((¬ I (fitZ k b (yat k back i) cl) = 1 → J23 0) ∧ (I (fitZ k b (yat k back i) cl) = 1 → J23 1))) := by
        intro hn2
        rw [if_neg hn2] at hw
        refine ⟨fun x => x = I (brZ (lackZ k b (yat k back i) cl) (k 4 b)), ?_, ?_, ?_⟩
        · rintro x22 rfl s24 hs24
          have e24 : s24 = MS s (wayM v (-4, cl, br + brZ (lackZ k b (yat k back i) cl) (k 4 b))) ta ln := by
            rw [hs24, MS_w82, I_add]
            apply congrArg (fun r => MS s r ta ln)
            unfold wayM
            funext j
            by_cases h6 : j = 6
            · subst h6; rfl
            · by_cases h5 : j = 5
              · subst h5; rfl
              · simp [upd, h5, h6]
          subst e24
          refine sp_mmin (rm _ _ _) hy hyi hy2 back hbk ?_
          refine ⟨fun x => x = I (extraZ (lackZ k b (yat k back i) cl) (k 4 b)), ?_, ?_, ?_⟩
          · rintro x27 rfl s29 hs29 x30 hx30
            refine ⟨(k 9 0).toNat - (i + 1), by omega, i + 1, cl + minZ (k 0 (yat k back i)) (k 1 (yat k back i)) back + extraZ (lackZ k b (yat k back i) cl) (k 4 b), br + brZ (lackZ k b (yat k back i) cl) (k 4 b), ?_, by omega, rfl, ?_, ⟨by omega, by omega⟩, ⟨by omega, by omega⟩, hw⟩
            · rw [hx30]
              simp (disch := (first | omega | (unfold inr; omega))) only [I_lit, I_nI, I_neg, I_add, I_sub, I_mul, I_div, I_le, I_lt, I_eq, I_clamp, I_clampN, I_vin]
              congr 1
            · have e44 : (MS s (wayM v (-4, cl, br + brZ (lackZ k b (yat k back i) cl) (k 4 b))) ta ln) 82 4 = I cl := rfl
              rw [hs29, MS_w82, e44, I_add, I_add, ← Int.add_assoc]
              apply congrArg (fun r => MS s r ta ln)
              unfold wayM
              funext j
              by_cases h6 : j = 6
              · subst h6; rfl
              · by_cases h5 : j = 5
                · subst h5; rfl
                · by_cases h4 : j = 4
                  · subst h4; rfl
                  · simp [upd, h4, h5, h6]
          · unfold extraZ fitZ
            intro c
            constructor
            · intro d
              by_cases z : 0 < lackZ k b (yat k back i) cl
              · rw [if_pos z] at d; exact absurd rfl d
              · rw [if_neg z] at c ⊢
                by_cases z2 : 0 < lackZ k b (yat k back i) cl + k 4 b
                · rw [if_pos z2] at c; exact absurd rfl c
                · rw [if_neg z2]; rfl
            · intro d
              by_cases z : 0 < lackZ k b (yat k back i) cl
              · rw [if_pos z]; rfl
              · rw [if_neg z] at d
                by_cases z2 : 0 < lackZ k b (yat k back i) cl + k 4 b
                · rw [if_pos z2] at d; exact absurd d (by decide)
                · rw [if_neg z2] at d; exact absurd d (by decide)
          · unfold extraZ fitZ
            intro c
            by_cases z : 0 < lackZ k b (yat k back i) cl
            · rw [if_pos z] at c; exact absurd c (by decide)
            · rw [if_neg z] at c ⊢
              by_cases z2 : 0 < lackZ k b (yat k back i) cl + k 4 b
              · rw [if_pos z2]; rfl
              · rw [if_neg z2] at c; exact absurd c (by decide)
        · unfold brZ fitZ
          intro c
          by_cases z : 0 < lackZ k b (yat k back i) cl
          · rw [if_pos z]; rfl
          · rw [if_neg z] at c ⊢
            by_cases z2 : 0 < lackZ k b (yat k back i) cl + k 4 b
            · rw [if_pos z2] at c; exact absurd rfl c
            · rw [if_neg z2]; rfl
        · unfold brZ fitZ
          intro c
          by_cases z : 0 < lackZ k b (yat k back i) cl
          · rw [if_pos z] at c; exact absurd c (by decide)
          · rw [if_neg z] at c ⊢
            by_cases z2 : 0 < lackZ k b (yat k back i) cl + k 4 b
            · rw [if_pos z2]; rfl
            · rw [if_neg z2] at c; exact absurd c (by decide)
      refine ⟨¬ help < lackZ k b (yat k back i) cl, on, ?_, ?_⟩
      · intro c
        have c : ¬ 0 < lackZ k b (yat k back i) cl := by
          intro z
          unfold fitZ at c
          rw [if_pos z] at c
          exact c rfl
        omega
      · intro _
        refine sp_msizeNow (rm _ _ _) hb hb6 hy hyi hy2 hb2 true rfl ?_
        refine sp_mroom (rm _ _ _) hy hyi hy2 ⟨a7, a8⟩ ⟨by omega, by omega⟩ ?_
        rw [I_sub, ← elk]
        constructor
        · intro d
          revert d
          simp (disch := (first | omega | (unfold inr; omega))) only [I_lit, I_nI, I_neg, I_add, I_sub, I_mul, I_div, I_le, I_lt, I_eq, I_clamp, I_clampN, I_vin]
          omega
        · intro d
          have d : help < lackZ k b (yat k back i) cl := by
            revert d
            simp (disch := (first | omega | (unfold inr; omega))) only [I_lit, I_nI, I_neg, I_add, I_sub, I_mul, I_div, I_le, I_lt, I_eq, I_clamp, I_clampN, I_vin]
            omega
          rw [if_pos d] at hw
          intro s41 hs41
          rw [hs41, MS_w82]
          rw [← hw] at hQ
          refine q_eq hQ ?_
          apply congrArg (fun r => MS s r ta ln)
          unfold wayM
          rw [upd_upd]
    · intro z
      rw [hbk, bi_f] at z
      subst z
      rfl
    · intro z
      rw [hbk, bi_f] at z
      have z : back = true := by simpa using z
      subst z
      refine ⟨hv0, ?_⟩
      have ey : ((yat k true i : Nat) : Int) = k 9 0 - 1 - i := by
        unfold yat
        rw [if_pos rfl]
        omega
      rw [ey]
      simp (disch := (first | omega | (unfold inr; omega))) only [I_lit, I_nI, I_neg, I_add, I_sub, I_mul, I_div, I_le, I_lt, I_eq, I_clamp, I_clampN, I_vin]
theorem sp_wayAlone {s : St} {k : Kv} (hk : CV k) (hr : RM s 83 k) {v ta ln : Nat → Int32} {b : Nat} (hb : (b : Int) < k 9 1) (back : Bool) {bk : Int32} (hbk : bk = bi back)
    {Q : St → Prop} (hQ : Q (MS s (wayM v (wayZ k b back 0 (k 9 2) 0)) ta ln)) : vc_Mod_wayAlone (I b) bk (MS s v ta ln) Q := by
  have a5 := hk.2.1
  unfold vc_Mod_wayAlone
  refine ⟨v_in (a := 2) ⟨by decide, by decide⟩ (by decide) rfl, ?_⟩
  intro s11 hs11 s12 hs12
  have e2 : MS s v ta ln 83 (Int32.toNatClampNeg 2) = I (k 9 2) := hr.1 2 (by decide)
  rw [e2, MS_w82] at hs11
  rw [hs11, MS_w82] at hs12
  subst hs12
  refine sp_goesWay hk hr hb back (help := 0) (c0 := k 9 2) (br0 := 0) ⟨by omega, by omega⟩ ⟨by omega, by omega⟩ ⟨by omega, by omega⟩ rfl rfl hbk ?_
  refine q_eq hQ ?_
  apply congrArg (fun r => MS s r ta ln)
  unfold wayM
  funext j
  by_cases h6 : j = 6
  · subst h6; rfl
  · by_cases h5 : j = 5
    · subst h5; rfl
    · by_cases h4 : j = 4
      · subst h4; rfl
      · simp [upd, h4, h5, h6]
/-- the greatest PULL of m from the place a on -/
def maxUp (k : Kv) (l : Nat → Nat) (a : Nat) : Nat → Int
  | 0 => 0
  | m + 1 => max (maxUp k l a m) (k 6 (l (a + m)))
theorem maxUp_in {k : Kv} (hk : CV k) {l : Nat → Nat} {a n : Nat} (hl : ∀ j, j < n → (l j : Int) < k 9 1) : ∀ m, a + m ≤ n → 0 ≤ maxUp k l a m ∧ maxUp k l a m ≤ 9 := by
  intro m
  induction m with
  | zero => intro _; exact ⟨Int.le_refl 0, by show (0 : Int) ≤ 9; decide⟩
  | succ m ih =>
    intro h
    have := ih (by omega)
    have hb := hk.2.2.2 _ (hl (a + m) (by omega))
    obtain ⟨-, -, -, -, -, -, h7, h8, -⟩ := hb
    unfold maxUp
    omega
theorem sp_pulled {s : St} {k : Kv} (hk : CV k) (hr : RM s 83 k) {v ta ln : Nat → Int32} {l : Nat → Nat} {n : Nat} (hn : n ≤ 6) (hl : ∀ j, j < n → ln j = I (l j) ∧ (l j : Int) < k 9 1) {a e : Nat} (hae : a ≤ e) (hen : e ≤ n) {x y : Int32} (hx : x = I (a : Int)) (hy : y = I (e : Int)) {Q : Int32 → Prop} (h : Q (I (maxUp k l a (e - a) / 3))) : vc_Mod_pulled x y (MS s v ta ln) Q := by
  subst hx hy
  have hin := maxUp_in hk (a := a) (fun j hj => (hl j hj).2)
  have a4 := hk.1
  unfold vc_Mod_pulled
  refine ⟨fun N m j => ∃ i : Nat, j = I ((a + i : Nat) : Int) ∧ a + i ≤ e ∧ N = e - (a + i) ∧ m = I (maxUp k l a i), ⟨_, 0, rfl, by omega, rfl, rfl⟩, ?_⟩
  rintro N m j ⟨i, rfl, hi, hN, rfl⟩
  have hm := hin i (by omega)
  constructor
  · intro q
    have q : e = a + i := by
      revert q
      simp (disch := (first | omega | (unfold inr; omega))) only [I_lit, I_nI, I_neg, I_add, I_sub, I_mul, I_div, I_le, I_lt, I_eq, I_clamp, I_clampN, I_vin]
      omega
    refine q_eq h ?_
    rw [show e - a = i by omega]
    simp (disch := (first | omega | (unfold inr; omega))) only [I_lit, I_nI, I_neg, I_add, I_sub, I_mul, I_div, I_le, I_lt, I_eq, I_clamp, I_clampN, I_vin]
  · intro q
    have q : a + i < e := by
      revert q
      simp (disch := (first | omega | (unfold inr; omega))) only [I_lit, I_nI, I_neg, I_add, I_sub, I_mul, I_div, I_le, I_lt, I_eq, I_clamp, I_clampN, I_vin]
      omega
    have hlj := hl (a + i) (by omega)
    refine ⟨I_vinN (by omega) (by decide), ?_⟩
    rw [I_clampN (by omega), MS_87, hlj.1]
    have hb := hk.2.2.2 _ hlj.2
    obtain ⟨-, -, -, -, -, -, h7, h8, -⟩ := hb
    refine sp_of (RM_MS ⟨by decide, by decide, by decide⟩ hr) hlj.2 (by omega) (w := 3) (by decide) rfl ?_
    refine sp_mmost ⟨by omega, by omega⟩ ⟨by simp only [Nat.reduceAdd]; omega, by simp only [Nat.reduceAdd]; omega⟩ ?_
    intro x20 hx20
    refine ⟨e - (a + (i + 1)), by omega, i + 1, ?_, by omega, rfl, rfl⟩
    rw [hx20]
    simp (disch := (first | omega | (unfold inr; omega))) only [I_lit, I_nI, I_neg, I_add, I_sub, I_mul, I_div, I_le, I_lt, I_eq, I_clamp, I_clampN, I_vin]
    congr 1
