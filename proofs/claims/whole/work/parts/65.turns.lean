-- turns: who starts later is nowhere earlier
theorem lack_mono {k : Kv} {b y : Nat} (hr : 0 ≤ k 9 3) {c c' : Int} (h : c ≤ c') : lackZ k b y c ≤ lackZ k b y c' := by
  have h1 : c / 60 ≤ c' / 60 := Int.ediv_le_ediv (by decide) h
  have h2 : c / 60 * k 9 3 ≤ c' / 60 * k 9 3 := Int.mul_le_mul_of_nonneg_right h1 hr
  have := room_mono (k := k) (y := y) h2
  unfold lackZ
  omega
theorem extra_mono {l l' o : Int} (h : l ≤ l') : extraZ l o ≤ extraZ l' o := by
  unfold extraZ
  repeat' split
  all_goals omega
theorem way_mono {k : Kv} (hr : 0 ≤ k 9 3) (b : Nat) (back : Bool) (help : Int) : ∀ (n i : Nat) (c c' br br' : Int), c ≤ c' → (wayF k b back help n i c' br').1 = -4 → (wayF k b back help n i c br).1 = -4 ∧ (wayF k b back help n i c br).2.1 ≤ (wayF k b back help n i c' br').2.1 := by
  intro n
  induction n with
  | zero =>
    intro i c c' br br' h _
    exact ⟨rfl, h⟩
  | succ n ih =>
    intro i c c' br br' h h4
    have hl := lack_mono (k := k) (b := b) (y := yat k back i) hr h
    unfold wayF at h4 ⊢
    by_cases e : help < lackZ k b (yat k back i) c'
    · rw [if_pos e] at h4
      have h4 : ((yat k back i : Nat) : Int) = -4 := h4
      omega
    · rw [if_neg e] at h4 ⊢
      rw [if_neg (by omega)]
      have := extra_mono (o := k 4 b) hl
      exact ih (i + 1) _ _ _ _ (by omega) h4
theorem go_mono {k : Kv} (hr : 0 ≤ k 9 3) {o : Nat → Nat} {n : Nat} (back : Bool) : ∀ (f i : Nat) (mx c c' br br' : Int) (m m' : Int32) (ts ts' : Nat → Int32), c ≤ c' → (goF k o n back f i mx m' c' br' ts').2.2.1 = -4 → (goF k o n back f i mx m c br ts).2.2.1 = -4 ∧ (goF k o n back f i mx m c br ts).2.2.2.2.1 ≤ (goF k o n back f i mx m' c' br' ts').2.2.2.2.1 := by
  intro f
  induction f with
  | zero =>
    intro i mx c c' br br' m m' ts ts' h _
    exact ⟨rfl, h⟩
  | succ f ih =>
    intro i mx c c' br br' m m' ts ts' h h4
    rw [goF_s] at h4 ⊢
    rw [goF_s (m := m')]
    by_cases e : (wayZ k (o i) back (hlpG k o n i mx) c' br').1 = -4
    · rw [if_pos e] at h4 ⊢
      obtain ⟨w1, w2⟩ := way_mono hr (o i) back (hlpG k o n i mx) (k 9 0).toNat 0 c c' br br' h e
      have w1 : (wayZ k (o i) back (hlpG k o n i mx) c br).1 = -4 := w1
      rw [if_pos w1]
      exact ih (i + 1) _ _ _ _ _ _ _ _ _ w2 h4
    · rw [if_neg e] at h4
      have h4 : ((o i : Nat) : Int) = -4 := h4
      omega
def TW (k : Kv) (w : Int) : Gr := thereZ k (ordK k) (nB k) (k 9 2 + w) zt
def HW (k : Kv) (w : Int) : Gr := homeZ k (ordK k) (nB k) (TW k w) zt
/-- all are back in the LIGHT, w MINUTES later -/
def LPm (k : Kv) (w : Int) : Prop := okZ (TW k w) (HW k w) = true ∧ (HW k w).2.2.2.2.1 ≤ k 9 5
theorem LP_mono {k : Kv} (hr : 0 ≤ k 9 3) {w w' : Int} (h : w ≤ w') (hp : LPm k w') : LPm k w := by
  obtain ⟨h1, h2⟩ := hp
  unfold okZ at h1
  obtain ⟨a1, a2⟩ := of_decide_eq_true h1
  obtain ⟨b1, b2⟩ := go_mono hr (o := oat (ordK k) (nB k) false) (n := nB k) false (nB k) 0 0 (k 9 2 + w) (k 9 2 + w') 0 0 0 0 zt zt (by omega) a1
  have b1 : (TW k w).2.2.1 = -4 := b1
  have b2 : (TW k w).2.2.2.2.1 ≤ (TW k w').2.2.2.2.1 := b2
  have e1 : HW k w = goZ k (oat (ordK k) (nB k) true) (nB k) true (TW k w).2.2.2.2.1 zt := by unfold HW homeZ; rw [if_pos b1]
  have e2 : HW k w' = goZ k (oat (ordK k) (nB k) true) (nB k) true (TW k w').2.2.2.2.1 zt := by unfold HW homeZ; rw [if_pos a1]
  rw [e2] at a2 h2
  obtain ⟨c1, c2⟩ := go_mono hr (o := oat (ordK k) (nB k) true) (n := nB k) true (nB k) 0 0 _ _ 0 0 0 0 zt zt b2 a2
  refine ⟨?_, ?_⟩
  · unfold okZ
    rw [e1]
    exact decide_eq_true ⟨b1, c1⟩
  · rw [e1]
    exact Int.le_trans c2 h2
theorem W_in {k : Kv} (hv : CV k) (ho : CO k) {w : Int} (hw : 0 ≤ w ∧ w ≤ 1000) : ((HW k w).2.2.1 = -4 ∨ 0 ≤ (HW k w).2.2.1 ∧ (HW k w).2.2.1 < k 9 1) ∧ (0 ≤ (HW k w).2.1 ∧ (HW k w).2.1 ≤ nB k) ∧ (k 9 2 + w ≤ (HW k w).2.2.2.2.1 ∧ (HW k w).2.2.2.2.1 ≤ k 9 2 + w + 4320) := by
  have a5 := hv.2.1
  have ht := goZ_in hv (nB_le hv) (oat_in (ord_in hv ho) false) false (c := k 9 2 + w) ⟨by omega, by omega⟩ zt
  have t2 := ht.2.2.2.1
  have e : goZ k (oat (ordK k) (nB k) false) (nB k) false (k 9 2 + w) zt = TW k w := rfl
  rw [e] at t2
  unfold HW homeZ
  split
  · have h := goZ_in hv (nB_le hv) (oat_in (ord_in hv ho) true) true (c := (TW k w).2.2.2.2.1) ⟨by omega, by omega⟩ zt
    refine ⟨h.1, h.2.2.1, ?_⟩
    have := h.2.2.2.1
    omega
  · refine ⟨Or.inl rfl, ⟨Int.le_refl 0, Int.natCast_nonneg _⟩, ?_⟩
    show k 9 2 + w ≤ (TW k w).2.2.2.2.1 ∧ (TW k w).2.2.2.2.1 ≤ k 9 2 + w + 4320
    omega
-- another CLOCK
theorem lack_ku {k : Kv} {v : Int} : lackZ (ku k 9 2 v) = lackZ k := by
  funext b y c
  simp [lackZ, sizeZ, bulkZ, roomZ, ku]
theorem way_ku {k : Kv} {v : Int} (b : Nat) (back : Bool) (help : Int) : ∀ (n i : Nat) (c br : Int), wayF (ku k 9 2 v) b back help n i c br = wayF k b back help n i c br := by
  intro n
  induction n with
  | zero => intro i c br; rfl
  | succ n ih =>
    intro i c br
    have e1 : yat (ku k 9 2 v) back i = yat k back i := by simp [yat, ku]
    have e2 : ∀ x j, x ≠ 9 → ku k 9 2 v x j = k x j := fun x j h => ku_ne (Or.inl h)
    unfold wayF
    rw [e1, lack_ku, e2 0 _ (by decide), e2 1 _ (by decide), e2 4 _ (by decide), ih]
theorem go_ku {k : Kv} {v : Int} {o : Nat → Nat} {n : Nat} (back : Bool) : ∀ (f i : Nat) (mx cl br : Int) (m : Int32) (ts : Nat → Int32), goF (ku k 9 2 v) o n back f i mx m cl br ts = goF k o n back f i mx m cl br ts := by
  intro f
  induction f with
  | zero => intro i mx cl br m ts; rfl
  | succ f ih =>
    intro i mx cl br m ts
    have e2 : ∀ x j, x ≠ 9 → ku k 9 2 v x j = k x j := fun x j h => ku_ne (Or.inl h)
    have e3 : hlpG (ku k 9 2 v) o n i mx = hlpG k o n i mx := by
      unfold hlpG
      rw [e2 6 _ (by decide)]
    have e4 : ∀ b help c br, wayZ (ku k 9 2 v) b back help c br = wayZ k b back help c br := by
      intro b help c br
      unfold wayZ
      rw [way_ku, ku_ne (by decide)]
    rw [goF_s, goF_s, e3, e4, e2 6 _ (by decide), ih]
theorem TK_ku {k : Kv} {w : Int} : TK (ku k 9 2 (k 9 2 + w)) = TW k w := by
  have e1 : ordK (ku k 9 2 (k 9 2 + w)) = ordK k := by funext j; unfold ordK; rw [ku_ne (Or.inl (by decide))]
  have e2 : nB (ku k 9 2 (k 9 2 + w)) = nB k := by unfold nB; rw [ku_ne (by decide)]
  unfold TK TW thereZ goZ
  rw [e1, e2, ku_at, go_ku]
theorem HK_ku {k : Kv} {w : Int} : HK (ku k 9 2 (k 9 2 + w)) = HW k w := by
  have e1 : ordK (ku k 9 2 (k 9 2 + w)) = ordK k := by funext j; unfold ordK; rw [ku_ne (Or.inl (by decide))]
  have e2 : nB (ku k 9 2 (k 9 2 + w)) = nB k := by unfold nB; rw [ku_ne (by decide)]
  unfold HK HW homeZ goZ
  rw [e1, e2, TK_ku, go_ku]
theorem m_allL {s : St} {k : Kv} (hv : CV k) (ho : CO k) (hl : LI (ordK k) (nB k)) (hr : RM s 83 k) (h7 : s 82 7 = 0) {Q : Bool → St → Prop} (hQ : ∀ s', KG s s' → ModT s' (TK k) → ModH s' (HK k) → Q (okZ (TK k) (HK k)) s') : vc_Mod_areAllBack s Q := by
  have hin := HK_in hv ho
  have hn := nB_le hv
  unfold vc_Mod_areAllBack
  refine m_tab hv ho hr h7 ?_
  intro s' hkg ht hh h18
  refine sp_bits ?_
  have hpop : popF (HK k).1 6 = I (HK k).2.1 := pop_home hl _ _
  rw [hh.1, h18, hpop, I_eq ⟨by omega, by omega⟩ ⟨by omega, by omega⟩]
  have hq := hQ s' hkg ht hh
  rw [ok_HK] at hq
  refine ⟨fun c => ?_, fun c => ?_⟩
  · rw [decide_eq_false c] at hq; exact hq
  · rw [decide_eq_true c] at hq; exact hq
/-- v is the greatest below n at which P holds, -4 if there is none -/
def GR (P : Int → Prop) (n : Nat) (v : Int) : Prop := (v = -4 ∧ ∀ w : Nat, w < n → ¬ P w) ∨ ∃ e : Nat, v = e ∧ e < n ∧ P e ∧ ∀ d : Nat, e < d → d < n → ¬ P d
theorem GR_uni {P : Int → Prop} {n : Nat} {v v' : Int} (h : GR P n v) (h' : GR P n v') : v = v' := by
  rcases h with ⟨rfl, h1⟩ | ⟨e, rfl, h1, h2, h3⟩
  · rcases h' with ⟨rfl, g1⟩ | ⟨e', rfl, g1, g2, g3⟩
    · rfl
    · exact absurd g2 (h1 e' g1)
  · rcases h' with ⟨rfl, g1⟩ | ⟨e', rfl, g1, g2, g3⟩
    · exact absurd h2 (g1 e h1)
    · rcases Nat.lt_trichotomy e e' with c | c | c
      · exact absurd g2 (h3 e' c g1)
      · rw [c]
      · exact absurd h2 (g3 e c h1)
theorem GR_s {P : Int → Prop} {n : Nat} {v : Int} (h : GR P n v) : (¬ P n → GR P (n + 1) v) ∧ (P n → GR P (n + 1) n) := by
  refine ⟨fun hn => ?_, fun hn => Or.inr ⟨n, rfl, by omega, hn, fun d a b => by omega⟩⟩
  rcases h with ⟨rfl, h1⟩ | ⟨e, rfl, h1, h2, h3⟩
  · refine Or.inl ⟨rfl, fun w hw => ?_⟩
    by_cases c : w = n
    · rw [c]; exact hn
    · exact h1 w (by omega)
  · refine Or.inr ⟨e, rfl, by omega, h2, fun d a b => ?_⟩
    by_cases c : d = n
    · rw [c]; exact hn
    · exact h3 d a (by omega)
