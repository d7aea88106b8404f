/-! ONE ALONE, in what-ifs -/
theorem RC_put {s : St} {c : Nat} {k : Kv} (h : RC s c k) {a b : Nat} (ha : 3 ≤ a ∧ a ≤ 8) {v : Int} : RC (wr s (c + 8 + a) b (I v)) c (ku k a b v) := by
  obtain ⟨⟨r1, r2, r3, r4, r5, r6⟩, hy, hb⟩ := h
  have k9 : ∀ i, ku k a b v 9 i = k 9 i := fun i => ku_ne (by omega)
  have key : ∀ a' b', 3 ≤ a' → a' ≤ 8 → s (c + 8 + a') b' = I (k a' b') → wr s (c + 8 + a) b (I v) (c + 8 + a') b' = I (ku k a b v a' b') := by
    intro a' b' h1 h2 h3
    by_cases e : a' = a
    · subst e
      by_cases e2 : b' = b
      · subst e2
        rw [wr_at, ku_at]
      · rw [ku_ne (Or.inr e2), ← h3]
        simp [wr, e2]
    · rw [ku_ne (Or.inl e), wr_ne (by omega)]
      exact h3
  refine ⟨⟨?_, ?_, ?_, ?_, ?_, ?_⟩, fun y hyy => ?_, fun b' hb' => ?_⟩
  · rw [wr_ne (by omega), k9]; exact r1
  · rw [wr_ne (by omega), k9]; exact r2
  · rw [wr_ne (by omega), k9]; exact r3
  · rw [wr_ne (by omega), k9]; exact r4
  · rw [wr_ne (by omega), k9]; exact r5
  · rw [wr_ne (by omega), k9]; exact r6
  · rw [k9] at hyy
    have e : ∀ i, i < 3 → ku k a b v i y = k i y := fun i hi => ku_ne (by omega)
    rw [e 0 (by decide), e 1 (by decide), e 2 (by decide)]
    simp (disch := omega) only [wr_ne]
    exact hy y hyy
  · rw [k9] at hb'
    obtain ⟨q1, q2, q3, q4, q5, q6⟩ := hb b' hb'
    exact ⟨key 3 b' (by decide) (by decide) q1, key 4 b' (by decide) (by decide) q2, key 5 b' (by decide) (by decide) q3, key 6 b' (by decide) (by decide) q4, key 7 b' (by decide) (by decide) q5, key 8 b' (by decide) (by decide) q6⟩
theorem RM_put {s s' : St} {q : Nat} {k : Kv} (h : RM s q k) (hk : k 9 1 ≤ 6 ∧ k 9 0 ≤ 12) {a b : Nat} (hb6 : b < 6) (ha : 3 ≤ a ∧ a ≤ 7) {v : Int} (h1 : s' q (42 + 5 * b + (a - 3)) = I v) (h2 : ∀ j, j ≠ 42 + 5 * b + (a - 3) → s' q j = s q j) : RM s' q (ku k a b v) := by
  have k9 : ∀ i, ku k a b v 9 i = k 9 i := fun i => ku_ne (by omega)
  refine ⟨fun i hi => ?_, fun y hy w hw => ?_, fun b' hb' => ⟨fun w hw => ?_, ?_⟩⟩
  · rw [k9, h2 _ (by omega)]; exact h.1 i hi
  · rw [k9] at hy
    rw [ku_ne (by omega), h2 _ (by omega)]
    exact h.2.1 y hy w hw
  · rw [k9] at hb'
    by_cases e : b' = b ∧ 3 + w = a
    · obtain ⟨e1, e2⟩ := e
      subst e1
      subst e2
      rw [ku_at]
      rw [show 3 + w - 3 = w by omega] at h1
      exact h1
    · rw [ku_ne (by omega), h2 _ (by omega)]
      exact (h.2.2 b' hb').1 w hw
  · rw [k9] at hb'
    rw [ku_ne (by omega), h2 _ (by omega)]
    exact (h.2.2 b' hb').2
theorem CV_put {k : Kv} (h : CV k) {a b : Nat} {v : Int} (hv : (a = 3 ∧ 10 ≤ v ∧ v ≤ 50) ∨ (a = 5 ∧ 0 ≤ v ∧ v ≤ 9) ∨ (a = 7 ∧ 0 ≤ v ∧ v ≤ 3)) : CV (ku k a b v) := by
  have k9 : ∀ i, ku k a b v 9 i = k 9 i := fun i => ku_ne (by omega)
  obtain ⟨h1, h2, h3, h4⟩ := h
  refine ⟨by simp only [k9]; exact h1, by simp only [k9]; exact h2, fun y hy => ?_, fun b' hb' => ?_⟩
  · rw [k9] at hy
    have e : ∀ i, i < 3 → ku k a b v i y = k i y := fun i hi => ku_ne (by omega)
    unfold CY
    rw [e 0 (by decide), e 1 (by decide), e 2 (by decide)]
    exact h3 y hy
  · rw [k9] at hb'
    obtain ⟨c1, c2, c3, c4, c5, c6, c7, c8, c9, c10⟩ := h4 b' hb'
    unfold CB ku
    refine ⟨?_, ?_, ?_, ?_, ?_, ?_, ?_, ?_, ?_, ?_⟩ <;> split <;> omega
theorem ku_self {k : Kv} {a b : Nat} : ku k a b (k a b) = k := by
  funext i j
  unfold ku
  split
  · rename_i h; rw [h.1, h.2]
  · rfl
theorem ku_ku {k : Kv} {a b : Nat} {v w : Int} : ku (ku k a b v) a b w = ku k a b w := by
  funext i j
  unfold ku
  split <;> rfl
theorem alone_st (k : Kv) (b : Nat) (back : Bool) (c : Int) (ts : Nat → Int32) : ((aloneR k b back c ts).2.2.1 = -4 ↔ (wayZ k b back 0 c 0).1 = -4) ∧ ((aloneR k b back c ts).2.2.1 = -4 ∨ (aloneR k b back c ts).2.2.1 = b) ∧ (aloneR k b back c ts).2.2.2.1 = (wayZ k b back 0 c 0).1 ∧ (aloneR k b back c ts).2.2.2.2.1 = (wayZ k b back 0 c 0).2.1 ∧ (aloneR k b back c ts).2.2.2.2.2.1 = (wayZ k b back 0 c 0).2.2 := by
  rw [alone_eq]
  split
  · rename_i h
    exact ⟨⟨fun _ => h, fun _ => rfl⟩, Or.inl rfl, h.symm, rfl, rfl⟩
  · rename_i h
    refine ⟨⟨fun z => ?_, fun z => absurd z h⟩, Or.inr rfl, rfl, rfl, rfl⟩
    have z : (b : Int) = -4 := z
    omega
theorem AL_f {s : St} {b p : Nat} {r : Gr} (j : Nat) : AL s b p r p j = rowR (s p) r j := LG_p
theorem AL_st {s : St} {b p : Nat} {r : Gr} (hb : b < 6) (h : r.2.2.1 = -4 ∨ r.2.2.1 = b) : AL s b p r p 2 = -4 ↔ r.2.2.1 = -4 := by
  rw [AL_f, rowR2]
  simp (disch := (first | omega | (unfold inr; omega))) only [I_lit, I_nI, I_neg, I_add, I_sub, I_mul, I_div, I_le, I_lt, I_eq, I_clamp, I_clampN, I_vin]
theorem RC_AL {s : St} {b p c : Nat} {k : Kv} {r : Gr} (hc : c ≤ 35) (hp : p = 53 ∨ p = 55) (h : RC s c k) : RC (AL s b p r) c k := by
  unfold AL
  exact RC_LG (by omega) (RC_ext (fun q j hq => wr_ne (by omega)) h)
/-- the model's one place e of s is otherwise -/
def MV (s s' : St) (e : Nat) : Prop := (∀ p j, (p < 82 ∨ p = 84 ∨ 92 ≤ p) → s' p j = s p j) ∧ s' 82 3 = s 82 3 ∧ ∀ j, j ≠ e → s' 83 j = s 83 j
theorem MV.rf {s : St} {e : Nat} : MV s s e := ⟨fun _ _ _ => rfl, rfl, fun _ _ => rfl⟩
theorem MV.put {s s' : St} {e : Nat} {x : Int32} (h : MV s s' e) : MV s (wr s' 83 e x) e := by
  refine ⟨fun p j hp => ?_, ?_, fun j hj => ?_⟩
  · rw [wr_ne (by omega)]; exact h.1 p j hp
  · rw [wr_ne (by decide)]; exact h.2.1
  · have : wr s' 83 e x 83 j = s' 83 j := by simp [wr, hj]
    rw [this]
    exact h.2.2 j hj
theorem MV.ms {s s' : St} {e : Nat} {v ta ln : Nat → Int32} (h : MV s s' e) (hv : v 3 = s' 82 3) : MV s (MS s' v ta ln) e := by
  refine ⟨fun p j hp => ?_, ?_, fun j hj => ?_⟩
  · rw [MS_ne (by omega)]; exact h.1 p j hp
  · rw [MS_82, hv]; exact h.2.1
  · rw [MS_83]; exact h.2.2 j hj
theorem MV.end {s s' : St} {e : Nat} (h : MV s s' e) {x : Int32} (hx : x = s 83 e) : KM s (wr s' 83 e x) := by
  refine ⟨fun p j hp => ?_, ?_⟩
  · by_cases z : p = 83
    · subst z
      by_cases z2 : j = e
      · subst z2
        rw [wr_at, hx]
      · have : wr s' 83 e x 83 j = s' 83 j := by simp [wr, z2]
        rw [this]
        exact h.2.2 j z2
    · rw [wr_ne z]
      exact h.1 p j (by omega)
  · rw [wr_ne (by decide)]; exact h.2.1
theorem at_body {b : Nat} (hb : b < 6) {w : Nat} (hw : w < 5) {x : Int32} (hx : x = I (w : Int)) {Q : Int32 → Prop} (h : Q (I ((42 + 5 * b + w : Nat) : Int))) : vc_Mod_atBody (I b) x Q := by
  subst hx
  unfold vc_Mod_atBody
  refine q_eq h ?_
  simp (disch := (first | omega | (unfold inr; omega))) only [I_lit, I_nI, I_neg, I_add, I_sub, I_mul, I_div, I_le, I_lt, I_eq, I_clamp, I_clampN, I_vin]
  congr 1
theorem sp_mway {s : St} {k : Kv} (hk : CV k) (hr : RM s 83 k) {b : Nat} (hb : (b : Int) < k 9 1) (back : Bool) {bk : Int32} (hbk : bk = bi back) {Q : St → Prop} (hQ : Q (MS s (wayM (s 82) (wayZ k b back 0 (k 9 2) 0)) (s 86) (s 87))) : vc_Mod_wayAlone (I b) bk s Q := by
  have h := sp_wayAlone (s := s) (v := s 82) (ta := s 86) (ln := s 87) hk hr hb back hbk hQ
  rw [MS_self] at h
  exact h
-- way
def wayA (k : Kv) (b back w : Int) : Int := if (0 ≤ b ∧ b < k 9 1) ∧ (0 ≤ back ∧ back ≤ 1) ∧ (0 ≤ w ∧ w ≤ 2) then (if w = 0 then (wayZ k b.toNat (decide (back = 1)) 0 (k 9 2) 0).1 else if w = 1 then (wayZ k b.toNat (decide (back = 1)) 0 (k 9 2) 0).2.1 - k 9 2 else (wayZ k b.toNat (decide (back = 1)) 0 (k 9 2) 0).2.2) else -1
theorem c_way {s : St} {k : Kv} (hk : CV k) (hr : RC s 1 k) {b t w : Int} (hb : inr b) (ht : inr t) (hw : inr w) {Q : Int32 → St → Prop} (hQ : ∀ s', KC s s' → Q (I (wayA k b t w)) s') : vc_Brt_way (I b) (I t) (I w) s Q := by
  have a := hk.1
  have a5 := hk.2.1
  unfold vc_Brt_way
  refine has_ok (n := k 9 1) ⟨by omega, by omega⟩ hr.1.2.1 hb ?_
  rw [bi_f]
  unfold wayA at hQ
  constructor
  · intro z
    have z : ¬ (0 ≤ b ∧ b < k 9 1) := by simpa using z
    rw [if_neg (fun q => z q.1)] at hQ
    exact hQ s KC.rf
  · intro z
    have z : 0 ≤ b ∧ b < k 9 1 := by simpa using z
    have e0 : vc_Brt_within (I t) 0 1 = vc_Brt_within (I t) (I 0) (I 1) := rfl
    rw [e0]
    refine sp_within ht ⟨by decide, by decide⟩ ⟨by decide, by decide⟩ ?_
    rw [bi_f]
    constructor
    · intro zt
      have zt : 0 ≤ t ∧ t ≤ 1 := by simpa using zt
      obtain ⟨b, rfl, hb1⟩ := nat_of z
      refine ⟨fun x => x = bi (decide (t = 1)), ?_, ?_, ?_⟩
      · rintro x rfl
        refine sp_alone hk hr (by decide) hb1 (decide (t = 1)) rfl ?_
        intro _
        have hp : (if decide (t = 1) = true then 55 else 53) = 53 ∨ (if decide (t = 1) = true then 55 else 53) = 55 := by split <;> simp
        obtain ⟨p, ep⟩ : ∃ p : Nat, p = (if decide (t = 1) = true then 55 else 53) := ⟨_, rfl⟩
        rw [← ep] at hp ⊢
        have hal := alone_st k b (decide (t = 1)) (k 9 2) (s (if decide (t = 1) = true then 56 else 54))
        generalize aloneR k b (decide (t = 1)) (k 9 2) (s (if decide (t = 1) = true then 56 else 54)) = r at hal
        obtain ⟨-, -, h3, h4, h5⟩ := hal
        have hkc : KC s (AL s b p r) := KC.al hp
        have h := hQ _ hkc
        have er3 : AL s b p r p 3 = I r.2.2.2.1 := AL_f 3
        have er4 : AL s b p r p 4 = I r.2.2.2.2.1 := AL_f 4
        have er5 : AL s b p r p 5 = I r.2.2.2.2.2.1 := AL_f 5
        have e15 : AL s b p r 1 5 = I (k 9 2) := (hkc 1 5 (by omega)).trans hr.1.2.2.1
        rw [er3, er4, er5, e15, h3, h4, h5, I_sub]
        have ew0 : (I w = 0) ↔ w = 0 := by simp (disch := (first | omega | (unfold inr; omega))) only [I_lit, I_nI, I_neg, I_add, I_sub, I_mul, I_div, I_le, I_lt, I_eq, I_clamp, I_clampN, I_vin]
        have ew1 : (I w = 1) ↔ w = 1 := by simp (disch := (first | omega | (unfold inr; omega))) only [I_lit, I_nI, I_neg, I_add, I_sub, I_mul, I_div, I_le, I_lt, I_eq, I_clamp, I_clampN, I_vin]
        have ew2 : (I w = 2) ↔ w = 2 := by simp (disch := (first | omega | (unfold inr; omega))) only [I_lit, I_nI, I_neg, I_add, I_sub, I_mul, I_div, I_le, I_lt, I_eq, I_clamp, I_clampN, I_vin]
        rw [ew0, ew1, ew2]
        refine ⟨fun q => ?_, fun q0 => ⟨fun q => ?_, fun q1 => ⟨fun q => ?_, fun q2 => ?_⟩⟩⟩
        · rw [if_pos ⟨⟨by omega, hb1⟩, zt, by omega⟩, if_pos q] at h
          exact h
        · rw [if_pos ⟨⟨by omega, hb1⟩, zt, by omega⟩, if_neg q0, if_pos q] at h
          exact h
        · rw [if_pos ⟨⟨by omega, hb1⟩, zt, by omega⟩, if_neg q0, if_neg q1] at h
          exact h
        · rw [if_neg (by omega)] at h
          exact h
      · intro c
        have c : ¬ t = 1 := by
          intro e
          exact c (by rw [e]; rfl)
        simp [c]
        rfl
      · intro c
        have c : t = 1 := by
          revert c
          simp (disch := (first | omega | (unfold inr; omega))) only [I_lit, I_nI, I_neg, I_add, I_sub, I_mul, I_div, I_le, I_lt, I_eq, I_clamp, I_clampN, I_vin]
          exact id
        simp [c]
        rfl
    · intro zt
      have zt : ¬ (0 ≤ t ∧ t ≤ 1) := by simpa using zt
      rw [if_neg (fun q => zt q.2.1)] at hQ
      exact hQ s KC.rf
theorem mo_way {s : St} {k : Kv} (hk : CV k) (hr : RM s 83 k) {b t w : Int} (hb : inr b) (ht : inr t) (hw : inr w) {Q : Int32 → St → Prop} (hQ : ∀ s', KM s s' → Q (I (wayA k b t w)) s') : vc_Mod_way (I b) (I t) (I w) s Q := by
  have a := hk.1
  have a5 := hk.2.1
  unfold vc_Mod_way
  refine isBody_ok hk hr hb ?_
  rw [bi_f]
  unfold wayA at hQ
  constructor
  · intro z
    have z : ¬ (0 ≤ b ∧ b < k 9 1) := by simpa using z
    rw [if_neg (fun q => z q.1)] at hQ
    exact hQ s KM.rf
  · intro z
    have z : 0 ≤ b ∧ b < k 9 1 := by simpa using z
    have e0 : vc_Mod_isIn (I t) 0 1 = vc_Mod_isIn (I t) (I 0) (I 1) := rfl
    have e1 : vc_Mod_isIn (I w) 0 2 = vc_Mod_isIn (I w) (I 0) (I 2) := rfl
    rw [e0, e1]
    refine sp_isIn ht ⟨by decide, by decide⟩ ⟨by decide, by decide⟩ ?_
    rw [bi_f]
    constructor
    · intro zt
      have zt : ¬ (0 ≤ t ∧ t ≤ 1) := by simpa using zt
      rw [if_neg (fun q => zt q.2.1)] at hQ
      exact hQ s KM.rf
    · intro zt
      have zt : 0 ≤ t ∧ t ≤ 1 := by simpa using zt
      refine sp_isIn hw ⟨by decide, by decide⟩ ⟨by decide, by decide⟩ ?_
      rw [bi_f]
      constructor
      · intro zw
        have zw : 0 ≤ w ∧ w ≤ 2 := by simpa using zw
        obtain ⟨b, rfl, hb1⟩ := nat_of z
        rw [if_pos ⟨⟨by omega, hb1⟩, zt, zw⟩] at hQ
        refine ⟨fun x => x = bi (decide (t = 1)), ?_, ?_, ?_⟩
        · rintro x rfl
          refine sp_mway hk hr hb1 (decide (t = 1)) rfl ?_
          have e6 : ∀ r, MS s (wayM (s 82) r) (s 86) (s 87) 82 6 = I r.1 := fun r => rfl
          have e5 : ∀ r, MS s (wayM (s 82) r) (s 86) (s 87) 82 5 = I r.2.2 := fun r => rfl
          have e4 : ∀ r, MS s (wayM (s 82) r) (s 86) (s 87) 82 4 = I r.2.1 := fun r => rfl
          have e2 : ∀ r, MS s (wayM (s 82) r) (s 86) (s 87) 83 (Int32.toNatClampNeg 2) = I (k 9 2) := fun r => hr.1 2 (by decide)
          rw [e6, e5, e4, e2, I_sub]
          have h := hQ (MS s (wayM (s 82) (wayZ k b (decide (t = 1)) 0 (k 9 2) 0)) (s 86) (s 87)) (KM.ms (wayM_ne ⟨by decide, by decide, by decide⟩))
          have ew0 : (I w = 0) ↔ w = 0 := by simp (disch := (first | omega | (unfold inr; omega))) only [I_lit, I_nI, I_neg, I_add, I_sub, I_mul, I_div, I_le, I_lt, I_eq, I_clamp, I_clampN, I_vin]
          have ew1 : (I w = 1) ↔ w = 1 := by simp (disch := (first | omega | (unfold inr; omega))) only [I_lit, I_nI, I_neg, I_add, I_sub, I_mul, I_div, I_le, I_lt, I_eq, I_clamp, I_clampN, I_vin]
          rw [ew0, ew1]
          refine ⟨fun q0 => ⟨fun q1 => ?_, fun q1 => ⟨v_in (a := 2) ⟨by decide, by decide⟩ (by decide) rfl, ?_⟩⟩, fun q0 => ?_⟩
          · rw [if_neg q0, if_neg q1] at h
            exact h
          · rw [if_neg q0, if_pos q1] at h
            exact h
          · rw [if_pos q0] at h
            exact h
        · intro c
          have c : ¬ t = 1 := by
            intro e
            exact c (by rw [e]; rfl)
          simp [c]
          rfl
        · intro c
          have c : t = 1 := by
            revert c
            simp (disch := (first | omega | (unfold inr; omega))) only [I_lit, I_nI, I_neg, I_add, I_sub, I_mul, I_div, I_le, I_lt, I_eq, I_clamp, I_clampN, I_vin]
            exact id
          simp [c]
          rfl
      · intro zw
        have zw : ¬ (0 ≤ w ∧ w ≤ 2) := by simpa using zw
        rw [if_neg (fun q => zw q.2.2)] at hQ
        exact hQ s KM.rf
theorem e_way {s : St} {A : Ab} (hR : RR s A) (x y z : Int32) : vc_Brt_way x y z s (fun r s1 => vc_Mod_way x y z s1 (fun r' s2 => r = r' ∧ RR s2 A)) := by
  obtain ⟨b, hb, rfl⟩ := I_of x
  obtain ⟨t, ht, rfl⟩ := I_of y
  obtain ⟨w, hw, rfl⟩ := I_of z
  refine c_way hR.2.2.1.1 hR.1.1 hb ht hw (fun s1 h1 => ?_)
  have hR1 := RR_KC h1 hR
  exact mo_way hR1.2.2.1.1 hR1.2.1.1 hb ht hw (fun s2 h2 => ⟨rfl, RR_KM h2 hR1⟩)
