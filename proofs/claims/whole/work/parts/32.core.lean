/-! ONE ALONE: the class -/
theorem sp_bulk {s : St} {p : Nat} {k : Kv} {b : Nat} (hb6 : b < 6) (hb : CB k b) (e1 : s (p + 1) b = I (k 3 b)) (e2 : s (p + 2) b = I (k 4 b)) (e3 : s (p + 3) b = I (k 5 b)) {po : Int} (hp : 0 ≤ po ∧ po ≤ 3) {o : Int32} (ob : Bool) (ho : o = bi ob) {Q : Int32 → Prop} (h : Q (I (bulkZ k b po ob))) : vc_Bod_bulkOf p (I b) (I po) o s Q := by
  have hb2 := hb
  obtain ⟨h1, h2, h3, h4, h5, h6, -⟩ := hb2
  have hin : vp_in (I (b : Int)) 6 := I_vinN hb6 (by decide)
  have hcl : (I (b : Int)).toNatClampNeg = b := I_clampN (by omega)
  have ha := arm_in po
  unfold vc_Bod_bulkOf
  rw [hcl, e1, e2, e3]
  have key : ∀ x : Int32, x = I (armZ po) → (vp_in (I (b : Int)) 6 ∧ (∃ J14 : Int32 → Prop, (∀ (x13 : Int32), J14 x13 → (vp_in (I (b : Int)) 6 ∧ Q (((I (k 3 b) - x13) + (I (k 5 b) / 3)) - x))) ∧ ((o = 0 → J14 0) ∧ (¬ o = 0 → (vp_in (I (b : Int)) 6 ∧ J14 (I (k 4 b))))))) := by
    intro x hx
    refine ⟨hin, _, fun _ h => h, fun c => ⟨hin, ?_⟩, fun c => ⟨hin, hin, ?_⟩⟩
    · rw [ho, bi_f] at c
      subst c
      refine q_eq h ?_
      rw [hx]
      unfold bulkZ
      simp (disch := (first | omega | (unfold inr; omega))) only [I_lit, I_nI, I_neg, I_add, I_sub, I_mul, I_div, I_le, I_lt, I_eq, I_clamp, I_clampN, I_vin]
      simp
    · rw [ho, bi_f] at c
      have c : ob = true := by simpa using c
      subst c
      refine q_eq h ?_
      rw [hx]
      unfold bulkZ
      simp (disch := (first | omega | (unfold inr; omega))) only [I_lit, I_nI, I_neg, I_add, I_sub, I_mul, I_div, I_le, I_lt, I_eq, I_clamp, I_clampN, I_vin]
      simp
  refine ⟨_, fun _ h => h, fun c => key _ ?_, fun c => key _ ?_⟩
  · unfold armZ
    rw [if_neg]
    · rfl
    · intro z
      apply c
      simp (disch := (first | omega | (unfold inr; omega))) only [I_lit, I_nI, I_neg, I_add, I_sub, I_mul, I_div, I_le, I_lt, I_eq, I_clamp, I_clampN, I_vin]
      omega
  · unfold armZ
    rw [if_pos]
    · rfl
    · revert c
      simp (disch := (first | omega | (unfold inr; omega))) only [I_lit, I_nI, I_neg, I_add, I_sub, I_mul, I_div, I_le, I_lt, I_eq, I_clamp, I_clampN, I_vin]
      omega
theorem sp_more {s : St} {p : Nat} {po : Int} (hp : 0 ≤ po ∧ po ≤ 3) {Q : Nat → Prop} (h : Q (if 2 ≤ po then p + 8 else p + 7)) : vc_Yar_moreBy p (I po) s Q := by
  unfold vc_Yar_moreBy
  refine ⟨_, fun _ _ h => h, fun c => ?_, fun c => ?_⟩
  · revert c
    simp (disch := (first | omega | (unfold inr; omega))) only [I_lit, I_nI, I_neg, I_add, I_sub, I_mul, I_div, I_le, I_lt, I_eq, I_clamp, I_clampN, I_vin]
    intro c
    rw [if_neg (by omega)] at h
    exact h
  · revert c
    simp (disch := (first | omega | (unfold inr; omega))) only [I_lit, I_nI, I_neg, I_add, I_sub, I_mul, I_div, I_le, I_lt, I_eq, I_clamp, I_clampN, I_vin]
    intro c
    rw [if_pos (by omega)] at h
    exact h
theorem sp_room {s : St} {p : Nat} {k : Kv} {y : Nat} (hy12 : y < 12) (hy : CY k y) (e1 : s (p + 1) y = I (k 0 y)) (e2 : s (p + 4) y = I (dryZ (k 0 y) (k 1 y) (k 2 y))) {w : Int} (hw : 0 ≤ w ∧ w ≤ 1000000) {Q : Int32 → Prop} (h : Q (I (roomZ k y w))) : vc_Yar_roomAt p (I y) (I w) s Q := by
  have hin : vp_in (I (y : Int)) 12 := I_vinN hy12 (by decide)
  have hcl : (I (y : Int)).toNatClampNeg = y := I_clampN (by omega)
  have hy2 := hy
  obtain ⟨h1, h2, h3, h4, h5, h6⟩ := hy2
  have hd := dry_in ⟨h1, h2⟩ ⟨h3, h4⟩ ⟨h5, h6⟩
  unfold vc_Yar_roomAt
  rw [hcl, e1, e2]
  refine ⟨hin, fun c => ⟨hin, ?_⟩, fun c => ⟨hin, ?_⟩⟩
  · refine q_eq h ?_
    unfold roomZ
    rw [if_neg]
    revert c
    simp (disch := (first | omega | (unfold inr; omega))) only [I_lit, I_nI, I_neg, I_add, I_sub, I_mul, I_div, I_le, I_lt, I_eq, I_clamp, I_clampN, I_vin]
    exact id
  · refine q_eq h ?_
    have c : k 0 y = 5 := by
      revert c
      simp (disch := (first | omega | (unfold inr; omega))) only [I_lit, I_nI, I_neg, I_add, I_sub, I_mul, I_div, I_le, I_lt, I_eq, I_clamp, I_clampN, I_vin]
      exact id
    unfold roomZ
    rw [if_pos c]
    unfold dryZ at hd ⊢
    simp [c] at hd ⊢
    simp (disch := (first | omega | (unfold inr; omega))) only [I_lit, I_nI, I_neg, I_add, I_sub, I_mul, I_div, I_le, I_lt, I_eq, I_clamp, I_clampN, I_vin, imax_I]
theorem sp_water {s : St} {c : Nat} {k : Kv} (e : s c 2 = I (k 9 3)) {t : Int} (ht : 0 ≤ t ∧ t ≤ 1000000) {Q : Int32 → Prop} (h : Q (I (t / 60 * k 9 3))) : vc_Cav_waterAt c (I t) s Q := by
  unfold vc_Cav_waterAt
  refine q_eq h ?_
  rw [e]
  simp (disch := (first | omega | (unfold inr; omega))) only [I_lit, I_nI, I_neg, I_add, I_sub, I_mul, I_div, I_le, I_lt, I_eq, I_clamp, I_clampN, I_vin]
theorem sp_lack {s : St} {c : Nat} {k : Kv} (hk : CV k) (hr : RC s c k) {b y : Nat} (hb : (b : Int) < k 9 1) (hy : (y : Int) < k 9 0) {Q : Int32 → Prop} (h : Q (I (lackZ k b y (k 9 2)))) : vc_Cav_lackingOf c (I b) (I y) s Q := by
  obtain ⟨⟨a1, a2, a3, a4⟩, ⟨a5, a6, a7, a8, -⟩, hCY, hCB⟩ := hk
  have hb2 := hCB b hb
  have hy2 := hCY y hy
  obtain ⟨f1, f2, f3, f4, f5, f6⟩ := hr.2.2 b hb
  obtain ⟨g1, g2, g3, g4, g5, g6, g7, g8⟩ := hr.2.1 y hy
  obtain ⟨⟨r1, r2, r3, r4, r5, r6⟩, -⟩ := id hr
  have hp : 0 ≤ k 7 b ∧ k 7 b ≤ 3 := by obtain ⟨-, -, -, -, -, -, -, -, h1, h2⟩ := hb2; exact ⟨h1, h2⟩
  have hbk := bulk_in hb2 (k 7 b) true
  have hmr := more_in (k 0 y) (decide (2 ≤ k 7 b))
  unfold vc_Cav_lackingOf
  have hinb : vp_in (I (b : Int)) 6 := I_vinN (by omega) (by decide)
  have hiny : vp_in (I (y : Int)) 12 := I_vinN (by omega) (by decide)
  have hcb : (I (b : Int)).toNatClampNeg = b := I_clampN (by omega)
  have hcy : (I (y : Int)).toNatClampNeg = y := I_clampN (by omega)
  refine ⟨hinb, ?_⟩
  intro x11 hx11
  rw [hcb, show c + 10 + 5 = c + 15 from rfl, f5] at hx11
  subst hx11
  refine sp_bulk (k := k) (by omega) hb2 f1 f2 f3 hp true rfl ?_
  refine sp_more hp ?_
  intro _
  refine ⟨hiny, ?_⟩
  intro x17 hx17
  have hx17 : x17 = I (sizeZ k b y (k 7 b) true) := by
    rw [hx17, hcy]
    unfold sizeZ
    split
    · rename_i q
      rw [show c + 1 + 8 = c + 9 from rfl, g8, I_add]
      simp [q]
    · rename_i q
      rw [show c + 1 + 7 = c + 8 from rfl, g7, I_add]
      simp [q]
  rw [r3]
  refine sp_water r4 ⟨by omega, by omega⟩ ?_
  have hwt := water_in (c := k 9 2) (r := k 9 3) ⟨by omega, by omega⟩ ⟨by omega, by omega⟩
  refine sp_room (k := k) (by omega) hy2 g1 g4 ⟨by omega, by omega⟩ ?_
  refine q_eq h ?_
  rw [hx17, I_sub]
  rfl
theorem sp_fit {s : St} {c : Nat} {k : Kv} (hk : CV k) (hr : RC s c k) {b y : Nat} (hb : (b : Int) < k 9 1) (hy : (y : Int) < k 9 0) {Q : Int32 → Prop} (h : Q (I (fitZ k b y (k 9 2)))) : vc_Cav_fitOf c (I b) (I y) s Q := by
  unfold vc_Cav_fitOf
  refine sp_lack hk hr hb hy ?_
  obtain ⟨⟨a1, a2, a3, a4⟩, ⟨a5, a6, a7, a8, -⟩, hCY, hCB⟩ := hk
  have hb2 := hCB b hb
  have hl := lack_in hb2 (hCY y hy) (c := k 9 2) ⟨by omega, by omega⟩ ⟨a7, a8⟩
  obtain ⟨f1, f2, f3, f4, f5, f6⟩ := hr.2.2 b hb
  have hcb : (I (b : Int)).toNatClampNeg = b := I_clampN (by omega)
  obtain ⟨h1, h2, h3, h4, -⟩ := hb2
  rw [hcb, show c + 10 + 2 = c + 12 from rfl, f2]
  unfold fitZ at h
  simp (disch := (first | omega | (unfold inr; omega))) only [I_lit, I_nI, I_neg, I_add, I_sub, I_mul, I_div, I_le, I_lt, I_eq, I_clamp, I_clampN, I_vin]
  refine ⟨fun q => ⟨by omega, fun q2 => ?_, fun q2 => ?_⟩, fun q => ?_⟩
  · rw [if_neg (by omega), if_neg (by omega)] at h; exact h
  · rw [if_neg (by omega), if_pos (by omega)] at h; exact h
  · rw [if_pos (by omega)] at h; exact h
