/-! ALL GO: a line of bodies goes through (class) -/
def rowG (v : Nat → Int32) (m : Int32) (a st wh cl br : Int) : Nat → Int32 := fun j => if j = 0 then m else if j = 1 then I a else if j = 2 then I st else if j = 3 then I wh else if j = 4 then I cl else if j = 5 then I br else v j
theorem way_in {k : Kv} (hk : CV k) {b : Nat} (hb : (b : Int) < k 9 1) (back : Bool) (help : Int) : ∀ (n i : Nat) (c br : Int), i + n = (k 9 0).toNat → 0 ≤ c → c + 30 * n ≤ 1000000 → ((wayF k b back help n i c br).1 = -4 ∨ 0 ≤ (wayF k b back help n i c br).1 ∧ (wayF k b back help n i c br).1 < k 9 0) ∧ c ≤ (wayF k b back help n i c br).2.1 ∧ (wayF k b back help n i c br).2.1 ≤ c + 30 * n ∧ br ≤ (wayF k b back help n i c br).2.2 ∧ (wayF k b back help n i c br).2.2 ≤ br + n := by
  obtain ⟨⟨a1, a2, a3, a4⟩, ⟨a5, a6, a7, a8, -⟩, hCY, hCB⟩ := hk
  intro n
  induction n with
  | zero =>
    intro i c br _ _ _
    exact ⟨Or.inl rfl, Int.le_refl _, by show c ≤ _; omega, Int.le_refl _, by show br ≤ _; omega⟩
  | succ n ih =>
    intro i c br h1 h2 h3
    have hy : (yat k back i : Int) < k 9 0 := by
      unfold yat
      split <;> omega
    have hy2 := hCY _ hy
    have hmn := min_in (k := k 0 (yat k back i)) (f := k 1 (yat k back i)) ⟨hy2.2.2.1, hy2.2.2.2.1⟩ back
    have hex := extra_in (lackZ k b (yat k back i) c) (k 4 b)
    have hbb := br_in (lackZ k b (yat k back i) c) (k 4 b)
    unfold wayF
    split
    · simp only []
      omega
    · have := ih (i + 1) (c + minZ (k 0 (yat k back i)) (k 1 (yat k back i)) back + extraZ (lackZ k b (yat k back i) c) (k 4 b)) (br + brZ (lackZ k b (yat k back i) c) (k 4 b)) (by omega) (by omega) (by omega)
      omega
theorem wayZ_in {k : Kv} (hk : CV k) {b : Nat} (hb : (b : Int) < k 9 1) (back : Bool) (help : Int) {c br : Int} (hc : 0 ≤ c ∧ c ≤ 900000) : ((wayZ k b back help c br).1 = -4 ∨ 0 ≤ (wayZ k b back help c br).1 ∧ (wayZ k b back help c br).1 < k 9 0) ∧ c ≤ (wayZ k b back help c br).2.1 ∧ (wayZ k b back help c br).2.1 ≤ c + 360 ∧ br ≤ (wayZ k b back help c br).2.2 ∧ (wayZ k b back help c br).2.2 ≤ br + 12 := by
  have a := hk.1
  have := way_in hk hb back help (k 9 0).toNat 0 c br (by omega) hc.1 (by omega)
  unfold wayZ
  omega
abbrev Gr : Type := Int32 × Int × Int × Int × Int × Int × (Nat → Int32)
/-- n are left, the next is the i-th of them: who has arrived (bits, how many), who is stuck, where, clock, breaths, clocks of arrival -/
def goF (k : Kv) (o : Nat → Nat) (n : Nat) (back : Bool) : Nat → Nat → Int → Int32 → Int → Int → (Nat → Int32) → Gr
  | 0, i, _, m, cl, br, ts => (m, i, -4, -4, cl, br, ts)
  | f + 1, i, mx, m, cl, br, ts =>
    if (wayZ k (o i) back (mx / 3 + if i + 1 < n then k 6 (o (i + 1)) / 3 else 0) cl br).1 = -4 then
      goF k o n back f (i + 1) (max mx (k 6 (o i))) (m ||| (1 <<< (I (o i) &&& 31))) (wayZ k (o i) back (mx / 3 + if i + 1 < n then k 6 (o (i + 1)) / 3 else 0) cl br).2.1 (wayZ k (o i) back (mx / 3 + if i + 1 < n then k 6 (o (i + 1)) / 3 else 0) cl br).2.2 (upd ts i (I (wayZ k (o i) back (mx / 3 + if i + 1 < n then k 6 (o (i + 1)) / 3 else 0) cl br).2.1))
    else (m, i, o i, (wayZ k (o i) back (mx / 3 + if i + 1 < n then k 6 (o (i + 1)) / 3 else 0) cl br).1, (wayZ k (o i) back (mx / 3 + if i + 1 < n then k 6 (o (i + 1)) / 3 else 0) cl br).2.1, (wayZ k (o i) back (mx / 3 + if i + 1 < n then k 6 (o (i + 1)) / 3 else 0) cl br).2.2, ts)
def goZ (k : Kv) (o : Nat → Nat) (n : Nat) (back : Bool) (c : Int) (ts : Nat → Int32) : Gr := goF k o n back n 0 0 0 c 0 ts
def rowR (v : Nat → Int32) (r : Gr) : Nat → Int32 := rowG v r.1 r.2.1 r.2.2.1 r.2.2.2.1 r.2.2.2.2.1 r.2.2.2.2.2.1
theorem wayRow_G {v : Nat → Int32} {m : Int32} {a cl br : Int} {b : Nat} {r : Int × Int × Int} (h : r.1 = -4) : wayRow (rowG v m a (-4) (-4) cl br) b r = rowG v m a (-4) (-4) r.2.1 r.2.2 := by
  unfold wayRow
  rw [if_pos h]
  funext j
  unfold upd rowG
  by_cases h5 : j = 5
  · simp [h5]
  · by_cases h4 : j = 4
    · simp [h4]
    · simp [h4, h5]
theorem wayRow_S {v : Nat → Int32} {m : Int32} {a cl br : Int} {b : Nat} {r : Int × Int × Int} (h : ¬ r.1 = -4) : wayRow (rowG v m a (-4) (-4) cl br) b r = rowG v m a b r.1 r.2.1 r.2.2 := by
  unfold wayRow
  rw [if_neg h]
  funext j
  unfold upd rowG
  by_cases h5 : j = 5
  · simp [h5]
  · by_cases h4 : j = 4
    · simp [h4]
    · by_cases h3 : j = 3
      · simp [h3]
      · by_cases h2 : j = 2
        · simp [h2]
        · simp [h2, h3, h4, h5]
theorem sp_begin {s : St} {p : Nat} {v ts : Nat → Int32} {c : Int} {Q : St → Prop} (h : Q (LG s p (rowG v 0 0 (-4) (-4) c 0) ts)) : vc_Leg_begin p (I c) (LG s p v ts) Q := by
  unfold vc_Leg_begin
  intro s1 h1 s2 h2 s3 h3 s4 h4 s5 h5 s6 h6
  refine q_eq h ?_
  rw [h6, h5, h4, h3, h2, h1]
  simp only [LG_wr]
  apply congrArg (fun r => LG s p r ts)
  funext j
  unfold upd rowG
  by_cases h5 : j = 5
  · simp [h5]; rfl
  · by_cases h4 : j = 4
    · simp [h4]
    · by_cases h3 : j = 3
      · simp [h3]; rfl
      · by_cases h2 : j = 2
        · simp [h2]; rfl
        · by_cases h1 : j = 1
          · simp [h1]; rfl
          · simp [h1, h2, h3, h4, h5]
def oat (l : Nat → Nat) (n : Nat) (back : Bool) (i : Nat) : Nat := if back then l (n - 1 - i) else l i
set_option maxHeartbeats 2000000 in
theorem sp_passAll {s : St} {p c p2 n2 : Nat} {k : Kv} (hk : CV k) (hr : RC s c k) (hpc : c + 16 < p) (hp2 : p2 < p ∨ p + 1 < p2) {v ts : Nat → Int32} {l : Nat → Nat} {n : Nat} (hn : n ≤ 6) (hn2 : n ≤ n2) (hn9 : n2 < 1000) (hl : ∀ j, j < n → s p2 j = I (l j) ∧ (l j : Int) < k 9 1) (back : Bool) {c0 : Int} (hc0 : 0 ≤ c0 ∧ c0 ≤ 400000) {bk : Int32} (hbk : bk = bi back)
    {Q : St → Prop} (hQ : Q (LG s p (rowR v (goZ k (oat l n back) n back c0 ts)) (goZ k (oat l n back) n back c0 ts).2.2.2.2.2.2)) : vc_Leg_passAll p c p2 n2 (I n) bk (I c0) (LG s p v ts) Q := by
  have hk0 := hk
  obtain ⟨⟨a1, a2, a3, a4⟩, ⟨a5, a6, a7, a8, -⟩, hCY, hCB⟩ := hk0
  have lo : ∀ (w ts' : Nat → Int32) (q j : Nat), q ≤ 16 → LG s p w ts' (c + q) j = s (c + q) j := fun w ts' q j hq => LG_ne (Or.inl (by omega))
  have lp2 : ∀ (w ts' : Nat → Int32) (j : Nat), LG s p w ts' p2 j = s p2 j := fun w ts' j => LG_ne hp2
  have ho : ∀ i, i < n → (oat l n back i : Int) < k 9 1 := by
    intro i hi
    unfold oat
    split
    · exact (hl _ (by omega)).2
    · exact (hl _ hi).2
  unfold vc_Leg_passAll
  refine sp_begin ?_
  refine ⟨fun N x11 x12 s' => (∃ (i : Nat) (mx cl br : Int) (m : Int32) (ts' : Nat → Int32), x11 = I mx ∧ x12 = I i ∧ i ≤ n ∧ N = n - i + 1 ∧ (0 ≤ mx ∧ mx ≤ 9) ∧ (0 ≤ cl ∧ cl ≤ c0 + 360 * i) ∧ (0 ≤ br ∧ br ≤ 12 * i) ∧ s' = LG s p (rowG v m i (-4) (-4) cl br) ts' ∧ goF k (oat l n back) n back (n - i) i mx m cl br ts' = goZ k (oat l n back) n back c0 ts) ∨ (¬ (goZ k (oat l n back) n back c0 ts).2.2.1 = -4 ∧ 0 ≤ (goZ k (oat l n back) n back c0 ts).2.2.1 ∧ (goZ k (oat l n back) n back c0 ts).2.2.1 ≤ 100 ∧ s' = LG s p (rowR v (goZ k (oat l n back) n back c0 ts)) (goZ k (oat l n back) n back c0 ts).2.2.2.2.2.2), ⟨n + 1, Or.inl ⟨0, 0, c0, 0, 0, ts, rfl, rfl, by omega, by omega, ⟨by omega, by omega⟩, ⟨by omega, by omega⟩, ⟨by omega, by omega⟩, rfl, rfl⟩⟩, ?_⟩
  rintro N x11 x12 s' (⟨i, mx, cl, br, m, ts', rfl, rfl, hi, hN, hmx, hcl, hbr, rfl, hw⟩ | ⟨hs, hs0, hs1, rfl⟩)
  · constructor
    · intro q
      have q : n ≤ i := by
        revert q
        simp (disch := (first | omega | (unfold inr; omega))) only [I_lit, I_nI, I_neg, I_add, I_sub, I_mul, I_div, I_le, I_lt, I_eq, I_clamp, I_clampN, I_vin]
        omega
      have e : i = n := by omega
      subst e
      rw [Nat.sub_self] at hw
      rw [← hw] at hQ
      simp only [goF, rowR] at hQ
      exact hQ
    · intro q
      have q : i < n := by
        revert q
        simp (disch := (first | omega | (unfold inr; omega))) only [I_lit, I_nI, I_neg, I_add, I_sub, I_mul, I_div, I_le, I_lt, I_eq, I_clamp, I_clampN, I_vin]
        omega
      constructor
      · intro z
        exact absurd (by rw [LG_p]; rfl) z
      · intro _
        have hob := ho i q
        have e0 : n - i = (n - (i + 1)) + 1 := by omega
        rw [e0] at hw
        unfold goF at hw
        have hhelp : ∀ x : Int, x = (mx / 3 + if i + 1 < n then k 6 (oat l n back (i + 1)) / 3 else 0) → 0 ≤ x ∧ x ≤ 6 := by
          intro x hx
          rw [hx]
          split
          · rename_i z
            have := hCB _ (ho (i + 1) z)
            obtain ⟨-, -, -, -, -, -, h7, h8, -⟩ := this
            omega
          · omega
        obtain ⟨hv, ehv⟩ : ∃ x : Int, x = (mx / 3 + if i + 1 < n then k 6 (oat l n back (i + 1)) / 3 else 0) := ⟨_, rfl⟩
        have hh := hhelp hv ehv
        rw [← ehv] at hw
        obtain ⟨r, er⟩ : ∃ r, r = wayZ k (oat l n back i) back hv cl br := ⟨_, rfl⟩
        rw [← er] at hw
        have hwi := wayZ_in hk hob back hv (c := cl) (br := br) ⟨by omega, by omega⟩
        rw [← er] at hwi
        have hpl := hCB _ hob
        obtain ⟨-, -, -, -, -, -, hq7, hq8, -⟩ := hpl
        have hcb : (I (oat l n back i : Int)).toNatClampNeg = oat l n back i := I_clampN (by omega)
        -- behind the index
        have main : ∀ x18 : Int32, (x18 = I ((if back then n - 1 - i else i : Nat) : Int)) → (vp_in x18 n2 ∧ (∀ x21 : Int32, x21 = (LG s p (rowG v m i (-4) (-4) cl br) ts') p2 (Int32.toNatClampNeg x18) → (∃ J23 : Int32 → Prop, (∀ (x22 : Int32), J23 x22 → vc_Leg_passOne p c x21 bk ((I mx / 3) + x22) (LG s p (rowG v m i (-4) (-4) cl br) ts') (fun s24 => (∃ J27 : Int32 → St → Prop, (∀ (x25 : Int32) (s26 : St), J27 x25 s26 → (∀ x28 : Int32, x28 = I i + 1 → ∃ m29, m29 < N ∧ ((∃ (i : Nat) (mx cl br : Int) (m : Int32) (ts' : Nat → Int32), x25 = I mx ∧ x28 = I i ∧ i ≤ n ∧ m29 = n - i + 1 ∧ (0 ≤ mx ∧ mx ≤ 9) ∧ (0 ≤ cl ∧ cl ≤ c0 + 360 * i) ∧ (0 ≤ br ∧ br ≤ 12 * i) ∧ s26 = LG s p (rowG v m i (-4) (-4) cl br) ts' ∧ goF k (oat l n back) n back (n - i) i mx m cl br ts' = goZ k (oat l n back) n back c0 ts) ∨ (¬ (goZ k (oat l n back) n back c0 ts).2.2.1 = -4 ∧ 0 ≤ (goZ k (oat l n back) n back c0 ts).2.2.1 ∧ (goZ k (oat l n back) n back c0 ts).2.2.1 ≤ 100 ∧ s26 = LG s p (rowR v (goZ k (oat l n back) n back c0 ts)) (goZ k (oat l n back) n back c0 ts).2.2.2.2.2.2)))) ∧ ((¬ (s24 p 2) = (-4) → J27 (I mx) s24) ∧ ((s24 p 2) = (-4) → (∀ s31 : St, s31 = wr s24 p 0 ((s24 p 0) ||| (1 <<< (x21 &&& 31))) → (vp_in (s31 p 1) 6 ∧ (∀ s33 : St, s33 = wr s31 (p + 1) (Int32.toNatClampNeg (s31 p 1)) (s31 p 4) → (∀ s34 : St, s34 = wr s33 p 1 ((s33 p 1) + 1) → (vp_in x21 6 ∧ (∀ x36 : Int32, x36 = imax (I mx) (s34 (c + 10 + 4) (Int32.toNatClampNeg x21)) → J27 x36 s34))))))))))) ∧ ((I n ≤ (I i + 1) → J23 0) ∧ (¬ I n ≤ (I i + 1) → (∃ J39 : Int32 → Prop, (∀ (x38 : Int32), J39 x38 → (vp_in x38 n2 ∧ (vp_in ((LG s p (rowG v m i (-4) (-4) cl br) ts') p2 (Int32.toNatClampNeg x38)) 6 ∧ (∀ x42 : Int32, x42 = ((LG s p (rowG v m i (-4) (-4) cl br) ts') (c + 10 + 4) (Int32.toNatClampNeg ((LG s p (rowG v m i (-4) (-4) cl br) ts') p2 (Int32.toNatClampNeg x38)))) / 3 → J23 x42)))) ∧ ((bk = 0 → J39 (I i + 1)) ∧ (¬ bk = 0 → J39 ((I n - 2) - I i))))))))) := by
          rintro x18 rfl
          refine ⟨I_vinN (by split <;> omega) (by omega), ?_⟩
          intro x21 hx21
          have hx21 : x21 = I (oat l n back i : Int) := by
            rw [hx21, I_clampN (by split <;> omega), lp2]
            unfold oat
            cases back
            · exact (hl _ q).1
            · exact (hl _ (by simp; omega)).1
          subst hx21
          refine ⟨fun x22 => x22 = I (if i + 1 < n then k 6 (oat l n back (i + 1)) / 3 else 0), ?_, ?_, ?_⟩
          · rintro x22 rfl
            have ehelp : I mx / 3 + I (if i + 1 < n then k 6 (oat l n back (i + 1)) / 3 else 0) = I hv := by
              rw [ehv]
              simp (disch := (first | omega | (unfold inr; omega))) only [I_lit, I_nI, I_neg, I_add, I_sub, I_mul, I_div, I_le, I_lt, I_eq, I_clamp, I_clampN, I_vin]
            rw [ehelp]
            refine sp_passOne hk hr hpc hob back ⟨by omega, by omega⟩ (c0 := cl) (br0 := br) ⟨by omega, by omega⟩ ⟨by omega, by omega⟩ rfl rfl hbk ?_
            rw [← er]
            by_cases z : r.1 = -4
            · rw [if_pos z] at hw
              rw [wayRow_G z]
              refine ⟨fun x25 s26 => x25 = I (max mx (k 6 (oat l n back i))) ∧ s26 = LG s p (rowG v (m ||| (1 <<< (I (oat l n back i) &&& 31))) (i + 1 : Nat) (-4) (-4) r.2.1 r.2.2) (upd ts' i (I r.2.1)), ?_, ?_, ?_⟩
              · rintro x25 s26 ⟨rfl, rfl⟩ x28 hx28
                refine ⟨n - (i + 1) + 1, by omega, Or.inl ⟨i + 1, max mx (k 6 (oat l n back i)), r.2.1, r.2.2, _, _, rfl, ?_, by omega, rfl, ⟨by omega, by omega⟩, ⟨by omega, by omega⟩, ⟨by omega, by omega⟩, rfl, hw⟩⟩
                rw [hx28]
                simp (disch := (first | omega | (unfold inr; omega))) only [I_lit, I_nI, I_neg, I_add, I_sub, I_mul, I_div, I_le, I_lt, I_eq, I_clamp, I_clampN, I_vin]
                congr 1
              · intro z9
                exact absurd (by rw [LG_p]; rfl) z9
              · intro _ s31 hs31
                have e31 : s31 = LG s p (rowG v (m ||| (1 <<< (I (oat l n back i) &&& 31))) i (-4) (-4) r.2.1 r.2.2) ts' := by
                  rw [hs31, LG_wr]
                  apply congrArg (fun r => LG s p r ts')
                  funext j
                  unfold upd
                  by_cases h0 : j = 0
                  · subst h0; simp [LG_p, rowG]
                  · simp [rowG, h0]
                clear hs31
                subst e31
                have e1 : LG s p (rowG v (m ||| (1 <<< (I (oat l n back i) &&& 31))) i (-4) (-4) r.2.1 r.2.2) ts' p 1 = I i := by rw [LG_p]; rfl
                have e4 : LG s p (rowG v (m ||| (1 <<< (I (oat l n back i) &&& 31))) i (-4) (-4) r.2.1 r.2.2) ts' p 4 = I r.2.1 := by rw [LG_p]; rfl
                rw [e1, e4, I_clampN (by omega)]
                refine ⟨I_vinN (by omega) (by decide), ?_⟩
                intro s33 hs33
                rw [LG_wt] at hs33
                subst hs33
                intro s34 hs34
                have e34 : s34 = LG s p (rowG v (m ||| (1 <<< (I (oat l n back i) &&& 31))) (i + 1 : Nat) (-4) (-4) r.2.1 r.2.2) (upd ts' i (I r.2.1)) := by
                  rw [hs34, LG_wr]
                  apply congrArg (fun r' => LG s p r' (upd ts' i (I r.2.1)))
                  funext j
                  unfold upd
                  by_cases h1 : j = 1
                  · subst h1
                    simp only [if_true, LG_p, rowG]
                    simp
                    simp (disch := (first | omega | (unfold inr; omega))) only [I_lit, I_nI, I_neg, I_add, I_sub, I_mul, I_div, I_le, I_lt, I_eq, I_clamp, I_clampN, I_vin]
                  · by_cases h0 : j = 0
                    · subst h0; simp [rowG]
                    · simp [rowG, h0, h1]
                clear hs34
                subst e34
                refine ⟨I_vinN (by omega) (by decide), ?_⟩
                intro x36 hx36
                refine ⟨?_, rfl⟩
                rw [hx36, hcb, show c + 10 + 4 = c + 14 from rfl, lo _ _ 14 _ (by decide), (hr.2.2 _ hob).2.2.2.1, imax_I ⟨by omega, by omega⟩ ⟨by omega, by omega⟩]
            · rw [if_neg z] at hw
              rw [wayRow_S z]
              have efin : LG s p (rowG v m i (oat l n back i) r.1 r.2.1 r.2.2) ts' = LG s p (rowR v (goZ k (oat l n back) n back c0 ts)) (goZ k (oat l n back) n back c0 ts).2.2.2.2.2.2 := by
                rw [← hw]
                rfl
              have est : (goZ k (oat l n back) n back c0 ts).2.2.1 = (oat l n back i : Int) := by rw [← hw]
              refine ⟨fun _ s26 => s26 = LG s p (rowG v m i (oat l n back i) r.1 r.2.1 r.2.2) ts', ?_, ?_, ?_⟩
              · rintro x25 s26 rfl x28 hx28
                exact ⟨0, by omega, Or.inr ⟨by rw [est]; omega, by rw [est]; omega, by rw [est]; omega, efin⟩⟩
              · intro _
                rfl
              · intro z9
                rw [LG_p] at z9
                have z9 : I (oat l n back i : Int) = -4 := z9
                revert z9
                simp (disch := (first | omega | (unfold inr; omega))) only [I_lit, I_nI, I_neg, I_add, I_sub, I_mul, I_div, I_le, I_lt, I_eq, I_clamp, I_clampN, I_vin]
                omega
          · intro z
            have z : n ≤ i + 1 := by
              revert z
              simp (disch := (first | omega | (unfold inr; omega))) only [I_lit, I_nI, I_neg, I_add, I_sub, I_mul, I_div, I_le, I_lt, I_eq, I_clamp, I_clampN, I_vin]
              omega
            rw [if_neg (by omega)]
            rfl
          · intro z
            have z : i + 1 < n := by
              revert z
              simp (disch := (first | omega | (unfold inr; omega))) only [I_lit, I_nI, I_neg, I_add, I_sub, I_mul, I_div, I_le, I_lt, I_eq, I_clamp, I_clampN, I_vin]
              omega
            rw [if_pos z]
            have hq := ho (i + 1) z
            have hq2 := hCB _ hq
            obtain ⟨-, -, -, -, -, -, hq27, hq28, -⟩ := hq2
            refine ⟨fun x38 => x38 = I ((if back then n - 1 - (i + 1) else i + 1 : Nat) : Int), ?_, ?_, ?_⟩
            · rintro x38 rfl
              have e5 : (LG s p (rowG v m i (-4) (-4) cl br) ts') p2 (Int32.toNatClampNeg (I ((if back then n - 1 - (i + 1) else i + 1 : Nat) : Int))) = I (oat l n back (i + 1) : Int) := by
                rw [I_clampN (by split <;> omega), lp2]
                unfold oat
                cases back
                · exact (hl _ z).1
                · exact (hl _ (by simp; omega)).1
              rw [e5]
              refine ⟨I_vinN (by split <;> omega) (by omega), I_vinN (by omega) (by decide), ?_⟩
              intro x42 hx42
              rw [hx42, I_clampN (by omega), show c + 10 + 4 = c + 14 from rfl, lo _ _ 14 _ (by decide), (hr.2.2 _ hq).2.2.2.1]
              simp (disch := (first | omega | (unfold inr; omega))) only [I_lit, I_nI, I_neg, I_add, I_sub, I_mul, I_div, I_le, I_lt, I_eq, I_clamp, I_clampN, I_vin]
            · intro y
              rw [hbk, bi_f] at y
              subst y
              simp (disch := (first | omega | (unfold inr; omega))) only [I_lit, I_nI, I_neg, I_add, I_sub, I_mul, I_div, I_le, I_lt, I_eq, I_clamp, I_clampN, I_vin]
              simp
            · intro y
              rw [hbk, bi_f] at y
              have y : back = true := by simpa using y
              subst y
              have ey : (((if true = true then n - 1 - (i + 1) else i + 1 : Nat)) : Int) = n - 2 - i := by
                rw [if_pos rfl]
                omega
              rw [ey]
              simp (disch := (first | omega | (unfold inr; omega))) only [I_lit, I_nI, I_neg, I_add, I_sub, I_mul, I_div, I_le, I_lt, I_eq, I_clamp, I_clampN, I_vin]
        refine ⟨fun x18 => x18 = I ((if back then n - 1 - i else i : Nat) : Int), main, ?_, ?_⟩
        · intro y
          rw [hbk, bi_f] at y
          subst y
          rfl
        · intro y
          rw [hbk, bi_f] at y
          have y : back = true := by simpa using y
          subst y
          have ey : (((if true = true then n - 1 - i else i : Nat)) : Int) = n - 1 - i := by
            rw [if_pos rfl]
            omega
          rw [ey]
          simp (disch := (first | omega | (unfold inr; omega))) only [I_lit, I_nI, I_neg, I_add, I_sub, I_mul, I_div, I_le, I_lt, I_eq, I_clamp, I_clampN, I_vin]
  · constructor
    · intro _
      exact hQ
    · intro _
      constructor
      · intro _
        exact hQ
      · intro z
        rw [LG_p] at z
        have z : I (goZ k (oat l n back) n back c0 ts).2.2.1 = -4 := z
        revert z
        simp (disch := (first | omega | (unfold inr; omega))) only [I_lit, I_nI, I_neg, I_add, I_sub, I_mul, I_div, I_le, I_lt, I_eq, I_clamp, I_clampN, I_vin]
        omega
