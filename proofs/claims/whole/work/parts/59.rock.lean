/-! ROCKS -/
/-- r is the first of l places at which P holds; l if there is none -/
def FU (P : Nat → Prop) (l r : Nat) : Prop := r ≤ l ∧ (∀ y, y < r → ¬ P y) ∧ (r < l → P r)
theorem FU_ex (P : Nat → Prop) : ∀ l, ∃ r, FU P l r := by
  intro l
  induction l with
  | zero => exact ⟨0, Nat.le_refl 0, fun y hy => absurd hy (Nat.not_lt_zero y), fun h => absurd h (Nat.lt_irrefl 0)⟩
  | succ l ih =>
    obtain ⟨r, h1, h2, h3⟩ := ih
    by_cases e : r < l
    · exact ⟨r, by omega, h2, fun _ => h3 e⟩
    · have er : r = l := by omega
      by_cases p : P l
      · exact ⟨l, by omega, by rw [← er]; exact h2, fun _ => p⟩
      · refine ⟨l + 1, by omega, fun y hy => ?_, fun h => absurd h (by omega)⟩
        by_cases ey : y = l
        · rw [ey]; exact p
        · exact h2 y (by omega)
noncomputable def fst1 (P : Nat → Prop) (l : Nat) : Nat := Classical.choose (FU_ex P l)
theorem FU_uni {P : Nat → Prop} {l r : Nat} (h : FU P l r) : r = fst1 P l := by
  have g : FU P l (fst1 P l) := Classical.choose_spec (FU_ex P l)
  obtain ⟨h1, h2, h3⟩ := h
  obtain ⟨g1, g2, g3⟩ := g
  rcases Nat.lt_trichotomy r (fst1 P l) with w | w | w
  · exact absurd (h3 (by omega)) (g2 r w)
  · exact w
  · exact absurd (g3 (by omega)) (h2 _ w)
theorem fst1_le (P : Nat → Prop) (l : Nat) : fst1 P l ≤ l := (Classical.choose_spec (FU_ex P l)).1
def leastI (so : Int) : Int32 := if so = 0 then -128 else if so = 1 then -32768 else -2147483648
theorem sp_skip {s : St} {p : Nat} {so : Int} {sc : Nat → Int32} (hso : 0 ≤ so ∧ so ≤ 2) (e3 : s p 3 = I so) {y : Nat} (hy : y < 100) (ec : s (p + 1) y = sc y) {Q : Bool → Prop} (h : Q (decide (sc y = leastI so))) : vc_She_isSkipped p (I y) s Q := by
  have e0 : (I so = 0) ↔ so = 0 := by simp (disch := (first | omega | (unfold inr; omega))) only [I_lit, I_nI, I_neg, I_add, I_sub, I_mul, I_div, I_le, I_lt, I_eq, I_clamp, I_clampN, I_vin]
  have e1 : (I so = 1) ↔ so = 1 := by simp (disch := (first | omega | (unfold inr; omega))) only [I_lit, I_nI, I_neg, I_add, I_sub, I_mul, I_div, I_le, I_lt, I_eq, I_clamp, I_clampN, I_vin]
  unfold vc_She_isSkipped
  rw [e3, e0, e1, I_clampN (by omega), ec]
  refine ⟨I_vinN hy (by decide), fun x => x = leastI so, ?_, fun z0 => ⟨fun z1 => ?_, fun z1 => ?_⟩, fun z0 => ?_⟩
  · rintro x rfl
    exact ⟨fun c => q_eq h (by simp [c]), fun c => q_eq h (by simp [c])⟩
  · unfold leastI; rw [if_neg z0, if_neg z1]
  · unfold leastI; rw [if_neg z0, if_pos z1]
  · unfold leastI; rw [if_pos z0]
theorem sp_least {so : Int} (hso : 0 ≤ so ∧ so ≤ 2) {Q : Int32 → Prop} (h : Q (leastI so)) : vc_Mod_leastOf (I so) Q := by
  have e0 : (I so = 0) ↔ so = 0 := by simp (disch := (first | omega | (unfold inr; omega))) only [I_lit, I_nI, I_neg, I_add, I_sub, I_mul, I_div, I_le, I_lt, I_eq, I_clamp, I_clampN, I_vin]
  have e1 : (I so = 1) ↔ so = 1 := by simp (disch := (first | omega | (unfold inr; omega))) only [I_lit, I_nI, I_neg, I_add, I_sub, I_mul, I_div, I_le, I_lt, I_eq, I_clamp, I_clampN, I_vin]
  unfold vc_Mod_leastOf
  rw [e0, e1]
  unfold leastI at h
  refine ⟨fun z0 => ⟨fun z1 => ?_, fun z1 => ?_⟩, fun z0 => ?_⟩
  · rw [if_neg z0, if_neg z1] at h; exact h
  · rw [if_neg z0, if_pos z1] at h; exact h
  · rw [if_pos z0] at h; exact h
def badP (k : Kv) (b : Nat) (so : Int) (sc : Nat → Int32) (y : Nat) : Prop := ¬ sc y = leastI so ∧ ¬ sc y = I (fitZ k b y (k 9 2))
theorem c_first {s : St} {k : Kv} (hk : CV k) (hr : RC s 35 k) {p : Nat} {so : Int} {l : Nat} {sc : Nat → Int32} (hso : 0 ≤ so ∧ so ≤ 2) (e3 : s p 3 = I so) (e4 : s p 4 = I (l : Nat)) (hl : l ≤ 100) (hl2 : (l : Int) ≤ k 9 0) (ec : ∀ j, j < 100 → s (p + 1) j = sc j) {b : Nat} (hb : (b : Int) < k 9 1) {Q : Int32 → Prop} (hQ : Q (I (fst1 (badP k b so sc) l : Nat))) : vc_Brt_firstUnlike (I b) p s Q := by
  have a := hk.1
  unfold vc_Brt_firstUnlike
  refine ⟨fun N t => ∃ y : Nat, t = I y ∧ y ≤ l ∧ N = l - y ∧ ∀ y', y' < y → ¬ badP k b so sc y', ⟨_, 0, rfl, by omega, rfl, fun y hy => absurd hy (Nat.not_lt_zero y)⟩, ?_⟩
  rintro N t ⟨y, rfl, hy, hN, hb0⟩
  rw [e4, show s 36 0 = I (k 9 0) from hr.1.1]
  refine ⟨y = l, fun c => ?_, fun z => ?_, fun z => ⟨fun z2 => ?_, fun z2 => ?_⟩⟩
  · subst c
    have : y = fst1 (badP k b so sc) y := FU_uni ⟨by omega, hb0, fun h => absurd h (Nat.lt_irrefl _)⟩
    rw [← this] at hQ
    exact hQ
  · revert z
    simp (disch := (first | omega | (unfold inr; omega))) only [I_lit, I_nI, I_neg, I_add, I_sub, I_mul, I_div, I_le, I_lt, I_eq, I_clamp, I_clampN, I_vin]
    omega
  · exfalso
    revert z z2
    simp (disch := (first | omega | (unfold inr; omega))) only [I_lit, I_nI, I_neg, I_add, I_sub, I_mul, I_div, I_le, I_lt, I_eq, I_clamp, I_clampN, I_vin]
    omega
  · have z : y < l := by
      revert z
      simp (disch := (first | omega | (unfold inr; omega))) only [I_lit, I_nI, I_neg, I_add, I_sub, I_mul, I_div, I_le, I_lt, I_eq, I_clamp, I_clampN, I_vin]
      omega
    refine sp_skip hso e3 (by omega) (ec y (by omega)) ?_
    rw [bi_f]
    have nx : ¬ badP k b so sc y → ∀ x19 : Int32, x19 = I (y : Int) + 1 → ∃ m20, m20 < N ∧ ∃ y : Nat, x19 = I y ∧ y ≤ l ∧ m20 = l - y ∧ ∀ y', y' < y → ¬ badP k b so sc y' := by
      intro hn x hx
      refine ⟨l - (y + 1), by omega, y + 1, ?_, by omega, rfl, fun y' hy' => ?_⟩
      · rw [hx]
        simp (disch := (first | omega | (unfold inr; omega))) only [I_lit, I_nI, I_neg, I_add, I_sub, I_mul, I_div, I_le, I_lt, I_eq, I_clamp, I_clampN, I_vin]
        congr 1
      · by_cases e : y' = y
        · rw [e]; exact hn
        · exact hb0 y' (by omega)
    refine ⟨¬ badP k b so sc y, nx, fun c => ?_, fun c => ⟨I_vinN (by omega) (by decide), ?_⟩⟩
    · have c : sc y = leastI so := by simpa using c
      exact fun q => q.1 c
    · have c : ¬ sc y = leastI so := by simpa using c
      refine sp_fit hk hr hb (by omega) ?_
      rw [I_clampN (by omega), ec y (by omega)]
      refine ⟨fun c2 q => q.2 c2, fun c2 => ?_⟩
      have : y = fst1 (badP k b so sc) l := FU_uni ⟨by omega, hb0, fun _ => ⟨c, c2⟩⟩
      rw [← this] at hQ
      exact hQ
theorem m_wrong {s : St} {k : Kv} (hk : CV k) (hr : RM s 83 k) {b d : Nat} (hb : (b : Int) < k 9 1) (hd : d < 8) {so : Int} {l : Nat} {sc : Nat → Int32} (hso : 0 ≤ so ∧ so ≤ 2) (e3 : s 95 d = I so) (e4 : s 96 d = I (l : Nat)) (hl : l ≤ 100) (hl2 : (l : Int) ≤ k 9 0) (ec : ∀ j, j < 100 → s 97 (100 * d + j) = sc j) {c : Int} (hc : 10 ≤ c ∧ c ≤ 50) {Q : Int32 → St → Prop} (hQ : ∀ s', KM s s' → Q (I (fst1 (badP (ku k 3 b c) b so sc) l : Nat)) s') : vc_Mod_wrongRock (I b) (I d) (I c) s Q := by
  have a := hk.1
  have a2 := hk.2.1
  have hind : vp_in (I (d : Int)) 8 := I_vinN (by omega) (by decide)
  have hcv : CV (ku k 3 b c) := CV_put hk (Or.inl ⟨rfl, hc.1, hc.2⟩)
  have h9 : ∀ i, ku k 3 b c 9 i = k 9 i := ku9 (by omega)
  unfold vc_Mod_wrongRock
  refine sp_of hr hb (by omega) (w := 0) (by decide) rfl ?_
  rw [I_clampN (by omega), e4]
  refine ⟨hind, ?_⟩
  intro x13 hx13
  refine at_body (b := b) (by omega) (w := 0) (by decide) rfl ⟨I_vinN (by omega) (by decide), ?_⟩
  rw [I_clampN (by omega)]
  intro s17 h17
  have hr2 : RM s17 83 (ku k 3 b c) := RM_put hr ⟨by omega, by omega⟩ (by omega) (by decide) (by rw [h17]; exact wr_at) (fun j hj => by rw [h17]; exact wr_off hj)
  have f1 : ∀ p j, p ≠ 83 → s17 p j = s p j := fun p j hp => by rw [h17]; exact wr_ne hp
  refine ⟨hind, ?_⟩
  intro x19 hx19
  rw [f1 96 d (by decide), e4] at hx19
  refine ⟨fun N f t => ∃ n : Nat, n ≤ l ∧ N = n ∧ t = I ((n : Int) - 1) ∧ ∃ r : Nat, f = I (r : Nat) ∧ n ≤ r ∧ r ≤ l ∧ (∀ y', n ≤ y' → y' < r → ¬ badP (ku k 3 b c) b so sc y') ∧ (r < l → badP (ku k 3 b c) b so sc r), ⟨l, l, Nat.le_refl l, rfl, ?_, l, hx13, Nat.le_refl l, Nat.le_refl l, fun y' h1 h2 => by omega, fun h => absurd h (Nat.lt_irrefl l)⟩, ?_⟩
  · rw [hx19]
    simp (disch := (first | omega | (unfold inr; omega))) only [I_lit, I_nI, I_neg, I_add, I_sub, I_mul, I_div, I_le, I_lt, I_eq, I_clamp, I_clampN, I_vin]
  rintro N f t ⟨n, hn, hN, rfl, r, rfl, h1, h2, h3, h4⟩
  constructor
  · intro z
    have z : n = 0 := by
      revert z
      simp (disch := (first | omega | (unfold inr; omega))) only [I_lit, I_nI, I_neg, I_add, I_sub, I_mul, I_div, I_le, I_lt, I_eq, I_clamp, I_clampN, I_vin]
      omega
    subst z
    refine at_body (b := b) (by omega) (w := 0) (by decide) rfl ⟨I_vinN (by omega) (by decide), ?_⟩
    rw [I_clampN (by omega)]
    intro s28 h28
    have e : r = fst1 (badP (ku k 3 b c) b so sc) l := FU_uni ⟨h2, fun y hy => h3 y (by omega) hy, h4⟩
    rw [e]
    refine hQ s28 ?_
    rw [h28]
    have hmv : MV s s17 (42 + 5 * b + 0) := by rw [h17]; exact MV.rf.put
    exact hmv.end ((hr.2.2 b hb).1 0 (by decide)).symm
  · intro z
    have z : 0 < n := by
      revert z
      simp (disch := (first | omega | (unfold inr; omega))) only [I_lit, I_nI, I_neg, I_add, I_sub, I_mul, I_div, I_le, I_lt, I_eq, I_clamp, I_clampN, I_vin]
      omega
    have ey : (n : Int) - 1 = ((n - 1 : Nat) : Int) := by omega
    rw [ey]
    have ei : 100 * I (d : Int) + I ((n - 1 : Nat) : Int) = I ((100 * d + (n - 1) : Nat) : Int) := by
      simp (disch := (first | omega | (unfold inr; omega))) only [I_lit, I_nI, I_neg, I_add, I_sub, I_mul, I_div, I_le, I_lt, I_eq, I_clamp, I_clampN, I_vin]
      congr 1
    rw [ei, I_clampN (by omega), f1 97 _ (by decide), ec _ (by omega), f1 95 _ (by decide), e3]
    refine ⟨I_vinN (by omega) (by decide), ?_⟩
    intro x30 hx30
    refine ⟨hind, sp_least hso ?_⟩
    have nx : ∀ r' : Nat, n - 1 ≤ r' → r' ≤ l → (∀ y', n - 1 ≤ y' → y' < r' → ¬ badP (ku k 3 b c) b so sc y') → (r' < l → badP (ku k 3 b c) b so sc r') → ∀ x36 : Int32, x36 = I ((n - 1 : Nat) : Int) + -1 → ∃ m37, m37 < N ∧ ∃ n : Nat, n ≤ l ∧ m37 = n ∧ x36 = I ((n : Int) - 1) ∧ ∃ r : Nat, I (r' : Int) = I (r : Nat) ∧ n ≤ r ∧ r ≤ l ∧ (∀ y', n ≤ y' → y' < r → ¬ badP (ku k 3 b c) b so sc y') ∧ (r < l → badP (ku k 3 b c) b so sc r) := by
      intro r' g1 g2 g3 g4 x36 hx36
      refine ⟨n - 1, by omega, n - 1, by omega, rfl, ?_, r', rfl, g1, g2, g3, g4⟩
      rw [hx36]
      simp (disch := (first | omega | (unfold inr; omega))) only [I_lit, I_nI, I_neg, I_add, I_sub, I_mul, I_div, I_le, I_lt, I_eq, I_clamp, I_clampN, I_vin]
      congr 1
    have keep : ¬ badP (ku k 3 b c) b so sc (n - 1) → ∀ x36 : Int32, x36 = I ((n - 1 : Nat) : Int) + -1 → ∃ m37, m37 < N ∧ ∃ n : Nat, n ≤ l ∧ m37 = n ∧ x36 = I ((n : Int) - 1) ∧ ∃ r' : Nat, I (r : Int) = I (r' : Nat) ∧ n ≤ r' ∧ r' ≤ l ∧ (∀ y', n ≤ y' → y' < r' → ¬ badP (ku k 3 b c) b so sc y') ∧ (r' < l → badP (ku k 3 b c) b so sc r') := by
      intro hnb
      refine nx r (by omega) h2 (fun y' g1 g2 => ?_) h4
      by_cases e : y' = n - 1
      · rw [e]; exact hnb
      · exact h3 y' (by omega) g2
    refine ⟨fun v => (v = I (r : Nat) ∧ ¬ badP (ku k 3 b c) b so sc (n - 1)) ∨ (v = I ((n - 1 : Nat) : Int) ∧ badP (ku k 3 b c) b so sc (n - 1)), ?_, fun z2 => Or.inl ⟨rfl, fun q => q.1 (hx30 ▸ z2)⟩, fun z2 => ?_⟩
    · rintro v (⟨rfl, hnb⟩ | ⟨rfl, hbb⟩)
      · exact keep hnb
      · exact nx (n - 1) (Nat.le_refl _) (by omega) (fun y' g1 g2 => by omega) (fun _ => hbb)
    · refine hour_ok hcv hr2 ?_
      rw [h9]
      have hyy : ((n - 1 : Nat) : Int) < ku k 3 b c 9 0 := by rw [h9]; omega
      have hbb : (b : Int) < ku k 3 b c 9 1 := by rw [h9]; exact hb
      refine sp_mfits hr2 hbb (by omega) hyy (by omega) (hcv.2.2.1 _ hyy) (hcv.2.2.2 _ hbb) (by rw [h9]; omega) ⟨by omega, by omega⟩ ?_
      rw [fitH_eq]
      refine ⟨fun c2 => Or.inl ⟨rfl, fun q => q.2 ?_⟩, fun c2 => Or.inr ⟨rfl, ?_, ?_⟩⟩
      · rw [h9, ← hx30]; exact c2
      · rw [← hx30]; exact z2
      · rw [h9, ← hx30]; exact c2
