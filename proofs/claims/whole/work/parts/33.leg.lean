/-! LEGS: one body goes through (class) -/
def LG (s : St) (p : Nat) (v ts : Nat → Int32) : St := fun q j => if q = p then v j else if q = p + 1 then ts j else s q j
theorem LG_p {s : St} {p : Nat} {v ts : Nat → Int32} {j : Nat} : LG s p v ts p j = v j := by simp [LG]
theorem LG_t {s : St} {p : Nat} {v ts : Nat → Int32} {j : Nat} : LG s p v ts (p + 1) j = ts j := by simp [LG]
theorem LG_ne {s : St} {p : Nat} {v ts : Nat → Int32} {q j : Nat} (h : q < p ∨ p + 1 < q) : LG s p v ts q j = s q j := by
  unfold LG
  rw [if_neg (by omega), if_neg (by omega)]
theorem LG_wr {s : St} {p : Nat} {v ts : Nat → Int32} {j : Nat} {x : Int32} : wr (LG s p v ts) p j x = LG s p (upd v j x) ts := by
  funext q i
  unfold wr LG upd
  by_cases h : q = p
  · subst h; simp
  · simp [h]
theorem LG_wt {s : St} {p : Nat} {v ts : Nat → Int32} {j : Nat} {x : Int32} : wr (LG s p v ts) (p + 1) j x = LG s p v (upd ts j x) := by
  funext q i
  unfold wr LG upd
  by_cases h : q = p + 1
  · subst h; simp
  · simp [h]
theorem LG_self (s : St) (p : Nat) : LG s p (s p) (s (p + 1)) = s := by
  funext q i
  unfold LG
  split
  · rename_i h; rw [h]
  · split
    · rename_i h; rw [h]
    · rfl
theorem upd_at {f : Nat → Int32} {j : Nat} {x : Int32} : upd f j x j = x := by simp [upd]
theorem upd_ne {f : Nat → Int32} {j i : Nat} {x : Int32} (h : i ≠ j) : upd f j x i = f i := by simp [upd, h]
theorem upd_self {f : Nat → Int32} {j : Nat} {x : Int32} (h : f j = x) : upd f j x = f := by
  funext i
  unfold upd
  split
  · rename_i e; rw [e, h]
  · rfl
theorem upd_upd {f : Nat → Int32} {j : Nat} {x y : Int32} : upd (upd f j x) j y = upd f j y := by
  funext i
  unfold upd
  split <;> rfl
theorem upd_comm {f : Nat → Int32} {i j : Nat} {x y : Int32} (h : i ≠ j) : upd (upd f i x) j y = upd (upd f j y) i x := by
  funext q
  unfold upd
  by_cases h1 : q = j
  · subst h1; simp [Ne.symm h]
  · simp [h1]
def yat (k : Kv) (back : Bool) (i : Nat) : Nat := if back then (k 9 0).toNat - 1 - i else i
/-- n YARDS are left, the next is the i-th on this way; clock, breaths: the YARD it is stuck at, clock, breaths -/
def wayF (k : Kv) (b : Nat) (back : Bool) (help : Int) : Nat → Nat → Int → Int → Int × Int × Int
  | 0, _, c, br => (-4, c, br)
  | n + 1, i, c, br => if help < lackZ k b (yat k back i) c then ((yat k back i : Nat), c, br) else
      wayF k b back help n (i + 1) (c + minZ (k 0 (yat k back i)) (k 1 (yat k back i)) back + extraZ (lackZ k b (yat k back i) c) (k 4 b)) (br + brZ (lackZ k b (yat k back i) c) (k 4 b))
def wayZ (k : Kv) (b : Nat) (back : Bool) (help c br : Int) : Int × Int × Int := wayF k b back help (k 9 0).toNat 0 c br
def wayRow (v : Nat → Int32) (b : Nat) (r : Int × Int × Int) : Nat → Int32 := if r.1 = -4 then upd (upd v 4 (I r.2.1)) 5 (I r.2.2) else upd (upd (upd (upd v 4 (I r.2.1)) 5 (I r.2.2)) 2 (I b)) 3 (I r.1)
theorem extra_in (l o : Int) : 0 ≤ extraZ l o ∧ extraZ l o ≤ 10 := by
  unfold extraZ
  repeat' split
  all_goals omega
theorem br_in (l o : Int) : 0 ≤ brZ l o ∧ brZ l o ≤ 1 := by
  unfold brZ
  repeat' split
  all_goals omega
set_option maxHeartbeats 1000000 in
theorem sp_passOne {s : St} {p c : Nat} {k : Kv} (hk : CV k) (hr : RC s c k) (hpc : c + 16 < p) {v ts : Nat → Int32} {b : Nat} (hb : (b : Int) < k 9 1) (back : Bool) {help c0 br0 : Int} (hh : 0 ≤ help ∧ help ≤ 100) (hc0 : 0 ≤ c0 ∧ c0 ≤ 500000) (hb0 : 0 ≤ br0 ∧ br0 ≤ 500000) (e4 : v 4 = I c0) (e5 : v 5 = I br0) {bk : Int32} (hbk : bk = bi back)
    {Q : St → Prop} (hQ : Q (LG s p (wayRow v b (wayZ k b back help c0 br0)) ts)) : vc_Leg_passOne p c (I b) bk (I help) (LG s p v ts) Q := by
  obtain ⟨⟨a1, a2, a3, a4⟩, ⟨a5, a6, a7, a8, -⟩, hCY, hCB⟩ := hk
  have hb2 := hCB b hb
  have hb3 := hb2
  obtain ⟨u1, u2, u3, u4, u5, u6, u7, u8, hp⟩ := hb3
  obtain ⟨f1, f2, f3, f4, f5, f6⟩ := hr.2.2 b hb
  obtain ⟨⟨r1, r2, r3, r4, r5, r6⟩, -⟩ := id hr
  have lo : ∀ (w ts' : Nat → Int32) (q j : Nat), q ≤ 16 → LG s p w ts' (c + q) j = s (c + q) j := fun w ts' q j hq => LG_ne (Or.inl (by omega))
  have hinb : vp_in (I (b : Int)) 6 := I_vinN (by omega) (by decide)
  have hcb : (I (b : Int)).toNatClampNeg = b := I_clampN (by omega)
  have hbu := bulk_in hb2 (k 7 b) true
  unfold vc_Leg_passOne
  refine ⟨hinb, ?_⟩
  intro x11 hx11
  rw [hcb, show c + 10 + 5 = c + 15 from rfl, lo _ _ 15 _ (by decide), f5] at hx11
  subst hx11
  refine sp_more hp ?_
  intro _
  have main : ∀ pm : Nat, pm = (if back then c + 7 else c + 6) → vc_Bod_bulkOf (c + 10) (I b) (I (k 7 b)) 1 (LG s p v ts) (fun x16 => (vp_in (I b) 6 ∧ (∀ x19 : Int32, x19 = (LG s p v ts) (c + 10 + 2) (Int32.toNatClampNeg (I b)) → (∃ I22 : Nat → Int32 → St → Prop, (∃ n23, I22 n23 0 (LG s p v ts)) ∧ ∀ (nI22 : Nat) (x20 : Int32) (s21 : St), I22 nI22 x20 s21 → (((s21 (c + 1) 0) ≤ x20 → Q s21) ∧ (¬ (s21 (c + 1) 0) ≤ x20 → (∃ J26 : Int32 → Prop, (∀ (x25 : Int32), J26 x25 → (vp_in x25 12 ∧ vc_Cav_waterAt c (s21 p 4) s21 (fun x28 => vc_Yar_roomAt (c + 1) x25 x28 s21 (fun x30 => (∀ x32 : Int32, x32 = (x16 + (s21 (if 2 ≤ k 7 b then c + 1 + 8 else c + 1 + 7) (Int32.toNatClampNeg x25))) - x30 → ((x32 ≤ (I help) → (vp_in x25 12 ∧ (∀ s35 : St, s35 = wr s21 p 4 ((s21 p 4) + (s21 pm (Int32.toNatClampNeg x25))) → (∃ J37 : St → Prop, (∀ (s36 : St), J37 s36 → (∀ x38 : Int32, x38 = x20 + 1 → ∃ m39, m39 < nI22 ∧ I22 m39 x38 s36)) ∧ ((x32 ≤ 0 → (((x32 + x19) ≤ 0 → J37 s35) ∧ (¬ (x32 + x19) ≤ 0 → (∀ s42 : St, s42 = wr s35 p 4 ((s35 p 4) + 1) → (∀ s43 : St, s43 = wr s42 p 5 ((s42 p 5) + 1) → J37 s43))))) ∧ (¬ x32 ≤ 0 → (∀ s44 : St, s44 = wr s35 p 4 ((s35 p 4) + 10) → J37 s44))))))) ∧ (¬ x32 ≤ (I help) → (∀ s45 : St, s45 = wr s21 p 2 (I b) → (∀ s46 : St, s46 = wr s45 p 3 x25 → Q s46))))))))) ∧ ((bk = 0 → J26 x20) ∧ (¬ bk = 0 → J26 (((s21 (c + 1) 0) - 1) - x20)))))))))) := by
    intro pm hpm
    refine sp_bulk (k := k) (by omega) hb2 ((lo _ _ 11 _ (by decide)).trans f1) ((lo _ _ 12 _ (by decide)).trans f2) ((lo _ _ 13 _ (by decide)).trans f3) hp true rfl ?_
    refine ⟨hinb, ?_⟩
    intro x19 hx19
    rw [hcb, show c + 10 + 2 = c + 12 from rfl, lo _ _ 12 _ (by decide), f2] at hx19
    subst hx19
    refine ⟨fun n x s' => ∃ (i : Nat) (cl br : Int), x = I i ∧ (i : Int) ≤ k 9 0 ∧ n = (k 9 0).toNat - i ∧ s' = LG s p (upd (upd v 4 (I cl)) 5 (I br)) ts ∧ (0 ≤ cl ∧ cl ≤ c0 + 30 * i) ∧ (0 ≤ br ∧ br ≤ br0 + i) ∧ wayF k b back help ((k 9 0).toNat - i) i cl br = wayZ k b back help c0 br0, ⟨_, 0, c0, br0, rfl, by simpa using a1, rfl, ?_, ⟨by omega, by omega⟩, ⟨by omega, by omega⟩, rfl⟩, ?_⟩
    · rw [upd_self (f := v) e4, upd_self e5]
    rintro n x s' ⟨i, cl, br, rfl, hi, hn, rfl, hcl, hbr, hw⟩
    rw [lo _ _ 1 _ (by decide), r1]
    constructor
    · intro q
      have q : k 9 0 ≤ i := by
        revert q
        simp (disch := (first | omega | (unfold inr; omega))) only [I_lit, I_nI, I_neg, I_add, I_sub, I_mul, I_div, I_le, I_lt, I_eq, I_clamp, I_clampN, I_vin]
        exact id
      have e : (k 9 0).toNat - i = 0 := by omega
      rw [e] at hw
      rw [← hw] at hQ
      simpa [wayF, wayRow] using hQ
    · intro q
      have q : (i : Int) < k 9 0 := by
        revert q
        simp (disch := (first | omega | (unfold inr; omega))) only [I_lit, I_nI, I_neg, I_add, I_sub, I_mul, I_div, I_le, I_lt, I_eq, I_clamp, I_clampN, I_vin]
        omega
      have hy : (yat k back i : Int) < k 9 0 := by
        unfold yat
        split <;> omega
      have hyi : yat k back i < 12 := by omega
      have hy2 := hCY _ hy
      obtain ⟨g1, g2, g3, g4, g5, g6, g7, g8⟩ := hr.2.1 _ hy
      have hiny : vp_in (I (yat k back i : Int)) 12 := I_vinN hyi (by decide)
      have hcy : (I (yat k back i : Int)).toNatClampNeg = yat k back i := I_clampN (by omega)
      have hlk := lack_in hb2 hy2 (c := cl) ⟨by omega, by omega⟩ ⟨a7, a8⟩
      have hmn := min_in (k := k 0 (yat k back i)) (f := k 1 (yat k back i)) ⟨hy2.2.2.1, hy2.2.2.2.1⟩ back
      have e0 : (k 9 0).toNat - i = ((k 9 0).toNat - (i + 1)) + 1 := by omega
      rw [e0] at hw
      unfold wayF at hw
      refine ⟨fun x => x = I (yat k back i), ?_, ?_, ?_⟩
      · rintro x rfl
        refine ⟨hiny, ?_⟩
        rw [LG_p, upd_ne (by decide), upd_at]
        refine sp_water (k := k) ((lo _ _ 0 _ (by decide)).trans r4) ⟨by omega, by omega⟩ ?_
        have hwt := water_in (c := cl) (r := k 9 3) ⟨by omega, by omega⟩ ⟨a7, a8⟩
        refine sp_room (k := k) hyi hy2 ((lo _ _ 2 _ (by decide)).trans g1) ((lo _ _ 5 _ (by decide)).trans g4) ⟨by omega, by omega⟩ ?_
        intro x32 hx32
        have hx32 : x32 = I (lackZ k b (yat k back i) cl) := by
          rw [hx32, hcy]
          unfold lackZ sizeZ
          split
          · rename_i q9
            rw [show c + 1 + 8 = c + 9 from rfl, lo _ _ 9 _ (by decide), g8, I_add, I_sub]
            simp [q9]
          · rename_i q9
            rw [show c + 1 + 7 = c + 8 from rfl, lo _ _ 8 _ (by decide), g7, I_add, I_sub]
            simp [q9]
        subst hx32
        have hex := extra_in (lackZ k b (yat k back i) cl) (k 4 b)
        have hbb := br_in (lackZ k b (yat k back i) cl) (k 4 b)
        constructor
        · intro q2
          have q2 : lackZ k b (yat k back i) cl ≤ help := by
            revert q2
            simp (disch := (first | omega | (unfold inr; omega))) only [I_lit, I_nI, I_neg, I_add, I_sub, I_mul, I_div, I_le, I_lt, I_eq, I_clamp, I_clampN, I_vin]
            exact id
          rw [if_neg (by omega)] at hw
          refine ⟨hiny, ?_⟩
          have hmin : LG s p (upd (upd v 4 (I cl)) 5 (I br)) ts pm (Int32.toNatClampNeg (I (yat k back i))) = I (minZ (k 0 (yat k back i)) (k 1 (yat k back i)) back) := by
            rw [hcy, hpm]
            cases back
            · exact (lo _ _ 6 _ (by decide)).trans g5
            · exact (lo _ _ 7 _ (by decide)).trans g6
          rw [hmin, I_add]
          intro s35 hs35
          rw [LG_wr] at hs35
          refine ⟨fun s' => s' = LG s p (upd (upd v 4 (I (cl + minZ (k 0 (yat k back i)) (k 1 (yat k back i)) back + extraZ (lackZ k b (yat k back i) cl) (k 4 b)))) 5 (I (br + brZ (lackZ k b (yat k back i) cl) (k 4 b)))) ts, ?_, ?_, ?_⟩
          · rintro s36 rfl x38 hx38
            refine ⟨(k 9 0).toNat - (i + 1), by omega, i + 1, _, _, ?_, by omega, rfl, rfl, ⟨by omega, by omega⟩, ⟨by omega, by omega⟩, hw⟩
            rw [hx38]
            simp (disch := (first | omega | (unfold inr; omega))) only [I_lit, I_nI, I_neg, I_add, I_sub, I_mul, I_div, I_le, I_lt, I_eq, I_clamp, I_clampN, I_vin]
            congr 1
          · intro q3
            have q3 : lackZ k b (yat k back i) cl ≤ 0 := by
              revert q3
              simp (disch := (first | omega | (unfold inr; omega))) only [I_lit, I_nI, I_neg, I_add, I_sub, I_mul, I_div, I_le, I_lt, I_eq, I_clamp, I_clampN, I_vin]
              exact id
            constructor
            · intro q4
              have q4 : lackZ k b (yat k back i) cl + k 4 b ≤ 0 := by
                revert q4
                simp (disch := (first | omega | (unfold inr; omega))) only [I_lit, I_nI, I_neg, I_add, I_sub, I_mul, I_div, I_le, I_lt, I_eq, I_clamp, I_clampN, I_vin]
                exact id
              rw [hs35]
              unfold extraZ brZ
              rw [if_neg (by omega), if_neg (by omega), if_neg (by omega), Int.add_zero, Int.add_zero]
              rw [upd_comm (by decide), upd_upd]
            · intro q4
              have q4 : 0 < lackZ k b (yat k back i) cl + k 4 b := by
                revert q4
                simp (disch := (first | omega | (unfold inr; omega))) only [I_lit, I_nI, I_neg, I_add, I_sub, I_mul, I_div, I_le, I_lt, I_eq, I_clamp, I_clampN, I_vin]
                omega
              intro s42 hs42 s43 hs43
              rw [hs43, hs42, hs35]
              unfold extraZ brZ
              rw [if_neg (by omega), if_pos (by omega), if_neg (by omega)]
              simp only [LG_p, LG_wr]
              apply congrArg (fun r => LG s p r ts)
              funext q5
              by_cases h5 : q5 = 5
              · subst h5; simp [upd]; simp (disch := (first | omega | (unfold inr; omega))) only [I_lit, I_nI, I_neg, I_add, I_sub, I_mul, I_div, I_le, I_lt, I_eq, I_clamp, I_clampN, I_vin]
              · by_cases h4 : q5 = 4
                · subst h4; simp [upd]; simp (disch := (first | omega | (unfold inr; omega))) only [I_lit, I_nI, I_neg, I_add, I_sub, I_mul, I_div, I_le, I_lt, I_eq, I_clamp, I_clampN, I_vin]
                · simp [upd, h4, h5]
          · intro q3
            have q3 : 0 < lackZ k b (yat k back i) cl := by
              revert q3
              simp (disch := (first | omega | (unfold inr; omega))) only [I_lit, I_nI, I_neg, I_add, I_sub, I_mul, I_div, I_le, I_lt, I_eq, I_clamp, I_clampN, I_vin]
              omega
            intro s44 hs44
            rw [hs44, hs35]
            unfold extraZ brZ
            rw [if_pos (by omega), if_pos (by omega), Int.add_zero]
            simp only [LG_p, LG_wr]
            rw [upd_at, upd_upd, upd_comm (i := 5) (j := 4) (by decide), upd_upd]
            simp (disch := (first | omega | (unfold inr; omega))) only [I_lit, I_nI, I_neg, I_add, I_sub, I_mul, I_div, I_le, I_lt, I_eq, I_clamp, I_clampN, I_vin]
        · intro q2
          have q2 : help < lackZ k b (yat k back i) cl := by
            revert q2
            simp (disch := (first | omega | (unfold inr; omega))) only [I_lit, I_nI, I_neg, I_add, I_sub, I_mul, I_div, I_le, I_lt, I_eq, I_clamp, I_clampN, I_vin]
            omega
          rw [if_pos q2] at hw
          intro s45 hs45 s46 hs46
          rw [hs46, hs45, LG_wr, LG_wr]
          rw [← hw] at hQ
          unfold wayRow at hQ
          rw [if_neg (by simp only []; omega)] at hQ
          exact hQ
      · intro z
        rw [hbk, bi_f] at z
        subst z
        rfl
      · intro z
        rw [hbk, bi_f] at z
        have z : back = true := by simpa using z
        subst z
        have ey : ((yat k true i : Nat) : Int) = k 9 0 - 1 - i := by
          unfold yat
          rw [if_pos rfl]
          omega
        rw [ey]
        simp (disch := (first | omega | (unfold inr; omega))) only [I_lit, I_nI, I_neg, I_add, I_sub, I_mul, I_div, I_le, I_lt, I_eq, I_clamp, I_clampN, I_vin]
  refine ⟨fun pm => pm = (if back then c + 7 else c + 6), fun pm _ hpm => main pm hpm, fun z => ?_, fun z => ?_⟩
  · rw [hbk, bi_f] at z
    subst z
    rfl
  · rw [hbk, bi_f] at z
    have z : back = true := by simpa using z
    subst z
    rfl
