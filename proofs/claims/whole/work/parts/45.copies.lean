/-! COPIES -/
theorem wcp_ne {s : St} {d e a b n q j : Nat} (h : q ≠ e) : wcp s d e a b n q j = s q j := by simp [wcp, h]
theorem wcp_at {s : St} {d e n j : Nat} (h : j < n) : wcp s d e 0 0 n e j = s d j := by
  simp [wcp, va_cpy, h]
theorem cp_ok (n : Nat) {x : Int32} (hx : x = I (n : Int)) (hn : n < 1000) : cpok 0 0 x n n := by
  subst hx
  refine ⟨by decide, by decide, ?_, ?_, ?_⟩
  · simp (disch := (first | omega | (unfold inr; omega))) only [I_lit, I_nI, I_neg, I_add, I_sub, I_mul, I_div, I_le, I_lt, I_eq, I_clamp, I_clampN, I_vin]
    omega
  · rw [I_clampN (by omega)]; show 0 + n ≤ n; omega
  · rw [I_clampN (by omega)]; show 0 + n ≤ n; omega
theorem sp_Yar_become {s : St} {p q : Nat} (hd : p + 8 < q ∨ q + 8 < p) {Q : St → Prop} (hQ : ∀ s' : St, (∀ r j, (r < p ∨ p + 8 < r) → s' r j = s r j) → s' p 0 = s q 0 → (∀ i j, 1 ≤ i → i ≤ 8 → j < 12 → s' (p + i) j = s (q + i) j) → Q s') : vc_Yar_become p q s Q := by
  unfold vc_Yar_become
  intro s0 h0
  refine ⟨cp_ok 12 rfl (by decide), ?_⟩
  intro s1 h1
  rw [show Int32.toNatClampNeg 0 = 0 from rfl, show Int32.toNatClampNeg 12 = 12 from rfl] at h1
  refine ⟨cp_ok 12 rfl (by decide), ?_⟩
  intro s2 h2
  rw [show Int32.toNatClampNeg 0 = 0 from rfl, show Int32.toNatClampNeg 12 = 12 from rfl] at h2
  refine ⟨cp_ok 12 rfl (by decide), ?_⟩
  intro s3 h3
  rw [show Int32.toNatClampNeg 0 = 0 from rfl, show Int32.toNatClampNeg 12 = 12 from rfl] at h3
  refine ⟨cp_ok 12 rfl (by decide), ?_⟩
  intro s4 h4
  rw [show Int32.toNatClampNeg 0 = 0 from rfl, show Int32.toNatClampNeg 12 = 12 from rfl] at h4
  refine ⟨cp_ok 12 rfl (by decide), ?_⟩
  intro s5 h5
  rw [show Int32.toNatClampNeg 0 = 0 from rfl, show Int32.toNatClampNeg 12 = 12 from rfl] at h5
  refine ⟨cp_ok 12 rfl (by decide), ?_⟩
  intro s6 h6
  rw [show Int32.toNatClampNeg 0 = 0 from rfl, show Int32.toNatClampNeg 12 = 12 from rfl] at h6
  refine ⟨cp_ok 12 rfl (by decide), ?_⟩
  intro s7 h7
  rw [show Int32.toNatClampNeg 0 = 0 from rfl, show Int32.toNatClampNeg 12 = 12 from rfl] at h7
  refine ⟨cp_ok 12 rfl (by decide), ?_⟩
  intro s8 h8
  rw [show Int32.toNatClampNeg 0 = 0 from rfl, show Int32.toNatClampNeg 12 = 12 from rfl] at h8
  subst h0 h1 h2 h3 h4 h5 h6 h7 h8
  refine hQ _ (fun r j hr => ?_) ?_ (fun i j h1 h2 hj => ?_)
  · simp (disch := omega) only [wcp_ne, wr_ne]
  · simp (disch := omega) only [wcp_ne, wr_at]
  · rcases (show i = 1 ∨ i = 2 ∨ i = 3 ∨ i = 4 ∨ i = 5 ∨ i = 6 ∨ i = 7 ∨ i = 8 by omega) with rfl | rfl | rfl | rfl | rfl | rfl | rfl | rfl
    all_goals simp (disch := omega) only [wcp_at, wcp_ne, wr_ne]

theorem sp_Bod_become {s : St} {p q : Nat} (hd : p + 6 < q ∨ q + 6 < p) {Q : St → Prop} (hQ : ∀ s' : St, (∀ r j, (r < p ∨ p + 6 < r) → s' r j = s r j) → s' p 0 = s q 0 → (∀ i j, 1 ≤ i → i ≤ 6 → j < 6 → s' (p + i) j = s (q + i) j) → Q s') : vc_Bod_become p q s Q := by
  unfold vc_Bod_become
  intro s0 h0
  refine ⟨cp_ok 6 rfl (by decide), ?_⟩
  intro s1 h1
  rw [show Int32.toNatClampNeg 0 = 0 from rfl, show Int32.toNatClampNeg 6 = 6 from rfl] at h1
  refine ⟨cp_ok 6 rfl (by decide), ?_⟩
  intro s2 h2
  rw [show Int32.toNatClampNeg 0 = 0 from rfl, show Int32.toNatClampNeg 6 = 6 from rfl] at h2
  refine ⟨cp_ok 6 rfl (by decide), ?_⟩
  intro s3 h3
  rw [show Int32.toNatClampNeg 0 = 0 from rfl, show Int32.toNatClampNeg 6 = 6 from rfl] at h3
  refine ⟨cp_ok 6 rfl (by decide), ?_⟩
  intro s4 h4
  rw [show Int32.toNatClampNeg 0 = 0 from rfl, show Int32.toNatClampNeg 6 = 6 from rfl] at h4
  refine ⟨cp_ok 6 rfl (by decide), ?_⟩
  intro s5 h5
  rw [show Int32.toNatClampNeg 0 = 0 from rfl, show Int32.toNatClampNeg 6 = 6 from rfl] at h5
  refine ⟨cp_ok 6 rfl (by decide), ?_⟩
  intro s6 h6
  rw [show Int32.toNatClampNeg 0 = 0 from rfl, show Int32.toNatClampNeg 6 = 6 from rfl] at h6
  subst h0 h1 h2 h3 h4 h5 h6
  refine hQ _ (fun r j hr => ?_) ?_ (fun i j h1 h2 hj => ?_)
  · simp (disch := omega) only [wcp_ne, wr_ne]
  · simp (disch := omega) only [wcp_ne, wr_at]
  · rcases (show i = 1 ∨ i = 2 ∨ i = 3 ∨ i = 4 ∨ i = 5 ∨ i = 6 by omega) with rfl | rfl | rfl | rfl | rfl | rfl
    all_goals simp (disch := omega) only [wcp_at, wcp_ne, wr_ne]

/-- a Cave becomes another -/
theorem sp_become {s : St} {c d : Nat} {k : Kv} (hk : CV k) (hr : RC s d k) (hd : c + 16 < d ∨ d + 16 < c) {Q : St → Prop} (hQ : ∀ s' : St, (∀ r j, (r < c ∨ c + 16 < r) → s' r j = s r j) → RC s' c k → Q s') : vc_Cav_become c d s Q := by
  have a := hk.1
  obtain ⟨⟨r1, r2, r3, r4, r5, r6⟩, hy, hb⟩ := hr
  unfold vc_Cav_become
  refine sp_Yar_become (by omega) ?_
  intro s1 f1 g1 u1
  refine sp_Bod_become (by omega) ?_
  intro s2 f2 g2 u2
  intro s3 h3 s4 h4 s5 h5 s6 h6
  have fr : ∀ r j, (r ≠ c) → s6 r j = s2 r j := by
    intro r j hr
    rw [h6, h5, h4, h3]
    simp (disch := omega) only [wr_ne]
  have d2 : ∀ j, s2 d j = s d j := fun j => (f2 d j (by omega)).trans (f1 d j (by omega))
  have e2 : s6 c 2 = s d 2 := by
    rw [h6, h5, h4, h3, ← d2 2]
    simp [wr]
  have e3 : s6 c 3 = s d 3 := by
    rw [h6, h5, h4, h3, ← d2 3]
    have : d ≠ c := by omega
    simp [wr, this]
  have e4 : s6 c 4 = s d 4 := by
    rw [h6, h5, h4, h3, ← d2 4]
    have : d ≠ c := by omega
    simp [wr, this]
  have e5 : s6 c 5 = s d 5 := by
    rw [h6, h5, h4, h3, ← d2 5]
    have : d ≠ c := by omega
    simp [wr, this]
  refine hQ s6 (fun r j hr => ?_) ⟨⟨?_, ?_, e5.trans r3, e2.trans r4, e3.trans r5, e4.trans r6⟩, fun y hyy => ?_, fun b hbb => ?_⟩
  · rw [fr r j (by omega), f2 r j (by omega), f1 r j (by omega)]
  · rw [fr _ _ (by omega), f2 _ _ (by omega)]; exact g1.trans r1
  · rw [fr _ _ (by omega)]; exact g2.trans ((f1 _ _ (by omega)).trans r2)
  · have hY : ∀ i, 1 ≤ i → i ≤ 8 → s6 (c + 1 + i) y = s (d + 1 + i) y := by
      intro i h1 h2
      rw [fr _ _ (by omega), f2 _ _ (by omega)]
      exact u1 i y h1 h2 (by omega)
    obtain ⟨q1, q2, q3, q4, q5, q6, q7, q8⟩ := hy y hyy
    exact ⟨(hY 1 (by decide) (by decide)).trans q1, (hY 2 (by decide) (by decide)).trans q2, (hY 3 (by decide) (by decide)).trans q3, (hY 4 (by decide) (by decide)).trans q4, (hY 5 (by decide) (by decide)).trans q5, (hY 6 (by decide) (by decide)).trans q6, (hY 7 (by decide) (by decide)).trans q7, (hY 8 (by decide) (by decide)).trans q8⟩
  · have hB : ∀ i, 1 ≤ i → i ≤ 6 → s6 (c + 10 + i) b = s (d + 10 + i) b := by
      intro i h1 h2
      rw [fr _ _ (by omega)]
      exact (u2 i b h1 h2 (by omega)).trans (f1 _ _ (by omega))
    obtain ⟨q1, q2, q3, q4, q5, q6⟩ := hb b hbb
    exact ⟨(hB 1 (by decide) (by decide)).trans q1, (hB 2 (by decide) (by decide)).trans q2, (hB 3 (by decide) (by decide)).trans q3, (hB 4 (by decide) (by decide)).trans q4, (hB 5 (by decide) (by decide)).trans q5, (hB 6 (by decide) (by decide)).trans q6⟩
theorem sp_copies {s : St} {p q : Nat} (hd : p ≠ q) {Q : St → Prop} (hQ : ∀ s' : St, (∀ r j, r ≠ q → s' r j = s r j) → (∀ j, j < 78 → s' q j = s p j) → Q s') : vc_Mod_copies p 78 q 78 s Q := by
  unfold vc_Mod_copies
  refine ⟨fun N x s' => ∃ i : Nat, x = I i ∧ i ≤ 78 ∧ N = 78 - i ∧ (∀ r j, r ≠ q → s' r j = s r j) ∧ ∀ j, j < i → s' q j = s p j, ⟨_, 0, rfl, by omega, rfl, fun _ _ _ => rfl, fun j hj => absurd hj (Nat.not_lt_zero j)⟩, ?_⟩
  rintro N x s' ⟨i, rfl, hi, hN, h1, h2⟩
  constructor
  · intro z
    have z : i = 78 := by
      revert z
      simp (disch := (first | omega | (unfold inr; omega))) only [I_lit, I_nI, I_neg, I_add, I_sub, I_mul, I_div, I_le, I_lt, I_eq, I_clamp, I_clampN, I_vin]
      omega
    subst z
    exact hQ s' h1 h2
  · intro z
    have z : i < 78 := by
      revert z
      simp (disch := (first | omega | (unfold inr; omega))) only [I_lit, I_nI, I_neg, I_add, I_sub, I_mul, I_div, I_le, I_lt, I_eq, I_clamp, I_clampN, I_vin]
      omega
    refine ⟨I_vinN z (by decide), I_vinN z (by decide), ?_⟩
    intro s17 hs x18 hx
    rw [I_clampN (by omega)] at hs
    refine ⟨78 - (i + 1), by omega, i + 1, ?_, by omega, rfl, fun r j hr => ?_, fun j hj => ?_⟩
    · rw [hx]
      simp (disch := (first | omega | (unfold inr; omega))) only [I_lit, I_nI, I_neg, I_add, I_sub, I_mul, I_div, I_le, I_lt, I_eq, I_clamp, I_clampN, I_vin]
      congr 1
    · rw [hs, wr_ne hr]
      exact h1 r j hr
    · rw [hs]
      by_cases e : j = i
      · subst e
        rw [wr_at]
        exact h1 p j hd
      · have : wr s' q i (s' p i) q j = s' q j := by simp [wr, e]
        rw [this]
        exact h2 j (by omega)
theorem sp_fill {s : St} {p n : Nat} (hn : n < 1000) {x : Int32} {Q : St → Prop} (hQ : ∀ s' : St, (∀ r j, r ≠ p → s' r j = s r j) → (∀ j, j < n → s' p j = x) → Q s') : vc_Arr_fill p n x s Q := by
  unfold vc_Arr_fill
  intro x10 hx10
  subst hx10
  refine ⟨fun N y s' => ∃ i : Nat, y = I i ∧ i ≤ n ∧ N = n - i ∧ (∀ r j, r ≠ p → s' r j = s r j) ∧ ∀ j, j < i → s' p j = x, ⟨_, 0, rfl, by omega, rfl, fun _ _ _ => rfl, fun j hj => absurd hj (Nat.not_lt_zero j)⟩, ?_⟩
  rintro N y s' ⟨i, rfl, hi, hN, h1, h2⟩
  constructor
  · intro z
    have z : i = n := by
      revert z
      simp (disch := (first | omega | (unfold inr; omega))) only [I_lit, I_nI, I_neg, I_add, I_sub, I_mul, I_div, I_le, I_lt, I_eq, I_clamp, I_clampN, I_vin]
      omega
    subst z
    exact hQ s' h1 h2
  · intro z
    have z : i < n := by
      revert z
      simp (disch := (first | omega | (unfold inr; omega))) only [I_lit, I_nI, I_neg, I_add, I_sub, I_mul, I_div, I_le, I_lt, I_eq, I_clamp, I_clampN, I_vin]
      omega
    refine ⟨I_vinN z (by omega), ?_⟩
    intro s17 hs x18 hx
    rw [I_clampN (by omega)] at hs
    refine ⟨n - (i + 1), by omega, i + 1, ?_, by omega, rfl, fun r j hr => ?_, fun j hj => ?_⟩
    · rw [hx]
      simp (disch := (first | omega | (unfold inr; omega))) only [I_lit, I_nI, I_neg, I_add, I_sub, I_mul, I_div, I_le, I_lt, I_eq, I_clamp, I_clampN, I_vin]
      congr 1
    · rw [hs, wr_ne hr]
      exact h1 r j hr
    · rw [hs]
      by_cases e : j = i
      · subst e
        exact wr_at
      · have : wr s' p i x p j = s' p j := by simp [wr, e]
        rw [this]
        exact h2 j (by omega)
/-- a cave with one number otherwise -/
def ku (k : Kv) (a i : Nat) (v : Int) : Kv := fun b j => if b = a ∧ j = i then v else k b j
theorem ku_at {k : Kv} {a i : Nat} {v : Int} : ku k a i v a i = v := by simp [ku]
theorem ku_ne {k : Kv} {a i b j : Nat} {v : Int} (h : b ≠ a ∨ j ≠ i) : ku k a i v b j = k b j := by
  unfold ku
  rw [if_neg (by omega)]

