-- order: the model
def permsM (n : Nat) : Nat → Nat → List (List Nat)
  | 0, _ => [[]]
  | f + 1, M => (List.range n).flatMap (fun b => if M.testBit b then (permsM n f (M ^^^ 2 ^ b)).map (b :: ·) else [])
theorem permsM_ok : ∀ n, n < 7 → permsM n n (2 ^ n - 1) = perms n := by decide +kernel
theorem permsM_s (n f M : Nat) : permsM n (f + 1) M = (List.range n).flatMap (fun b => if M.testBit b then (permsM n f (M ^^^ 2 ^ b)).map (b :: ·) else []) := rfl
theorem tb_1 : ∀ M, M < 64 → ∀ b, b < 6 → awb (I (M : Nat)) b = M.testBit b := by decide +kernel
theorem tb_2 : ∀ M, M < 64 → ∀ b, b < 6 → M.testBit b = true → (I (M : Nat) &&& ((1 <<< (I (b : Nat) &&& 31)) ^^^ (-1)) = I (M ^^^ 2 ^ b : Nat) ∧ M ^^^ 2 ^ b < 64 ∧ pcN (M ^^^ 2 ^ b) + 1 = pcN M ∧ (M ^^^ 2 ^ b).testBit b = false) := by decide +kernel
theorem tb_3 : ∀ M, M < 64 → ∀ b, b < 6 → ∀ c, c < 6 → M.testBit b = true → M.testBit c = false → (M ^^^ 2 ^ b).testBit c = false := by decide +kernel
theorem pc_0 : ∀ M, M < 64 → (pcN M = 0 ↔ M = 0) := by decide +kernel
theorem pc_full : ∀ n, n < 7 → (pcN (2 ^ n - 1) = n ∧ 2 ^ n - 1 < 64 ∧ (1 : Int32) <<< (I (n : Nat) &&& 31) - 1 = I (2 ^ n - 1 : Nat)) := by decide +kernel
def kord (k : Kv) (p : List Nat) : Kv := fun x j => if x = 8 then ((p.getD j 0 : Nat) : Int) else k x j
theorem kord_ne {k : Kv} {p : List Nat} {x j : Nat} (h : x ≠ 8) : kord k p x j = k x j := by simp [kord, h]
theorem kord_at {k : Kv} {p : List Nat} {j : Nat} : kord k p 8 j = ((p.getD j 0 : Nat) : Int) := by simp [kord]
theorem lack_kord {k : Kv} {p : List Nat} : lackZ (kord k p) = lackZ k := by
  funext b y c
  simp [lackZ, sizeZ, bulkZ, roomZ, kord]
theorem way_kord {k : Kv} {p : List Nat} (b : Nat) (back : Bool) (help : Int) : ∀ (n i : Nat) (c br : Int), wayF (kord k p) b back help n i c br = wayF k b back help n i c br := by
  intro n
  induction n with
  | zero => intro i c br; rfl
  | succ n ih =>
    intro i c br
    have e1 : yat (kord k p) back i = yat k back i := by simp [yat, kord]
    unfold wayF
    rw [e1, lack_kord, kord_ne (by decide), kord_ne (by decide), kord_ne (by decide), ih]
theorem go_kord {k : Kv} {p : List Nat} {o : Nat → Nat} {n : Nat} (back : Bool) : ∀ (f i : Nat) (mx cl br : Int) (m : Int32) (ts : Nat → Int32), goF (kord k p) o n back f i mx m cl br ts = goF k o n back f i mx m cl br ts := by
  intro f
  induction f with
  | zero => intro i mx cl br m ts; rfl
  | succ f ih =>
    intro i mx cl br m ts
    have e3 : hlpG (kord k p) o n i mx = hlpG k o n i mx := by
      unfold hlpG
      rw [kord_ne (by decide)]
    have e4 : ∀ b help c br, wayZ (kord k p) b back help c br = wayZ k b back help c br := by
      intro b help c br
      unfold wayZ
      rw [way_kord, kord_ne (by decide)]
    rw [goF_s, goF_s, e3, e4, kord_ne (by decide), ih]
theorem ord_kord (k : Kv) (p : List Nat) : ordK (kord k p) = fun j => p.getD j 0 := by
  funext j
  unfold ordK
  rw [kord_at, Int.toNat_natCast]
theorem nB_kord (k : Kv) (p : List Nat) : nB (kord k p) = nB k := by
  unfold nB
  rw [kord_ne (by decide)]
theorem TK_kord (k : Kv) (p : List Nat) : TK (kord k p) = thereZ k (fun j => p.getD j 0) (nB k) (k 9 2) zt := by
  unfold TK thereZ goZ
  rw [ord_kord, nB_kord, kord_ne (by decide), go_kord]
theorem HK_kord (k : Kv) (p : List Nat) : HK (kord k p) = homeZ k (fun j => p.getD j 0) (nB k) (thereZ k (fun j => p.getD j 0) (nB k) (k 9 2) zt) zt := by
  unfold HK homeZ goZ
  rw [ord_kord, nB_kord, TK_kord, go_kord]
/-- the model's cave but for ORDER -/
def RO (s : St) (k : Kv) : Prop := (∀ i, i < 6 → s 83 i = I (k 9 i)) ∧ (∀ y : Nat, (y : Int) < k 9 0 → ∀ w, w < 3 → s 83 (6 + 3 * y + w) = I (k w y)) ∧ ∀ b : Nat, (b : Int) < k 9 1 → ∀ w, w < 5 → s 83 (42 + 5 * b + w) = I (k (3 + w) b)
def PO (s : St) (p : List Nat) : Prop := ∀ j, j < p.length → s 83 (72 + j) = I (p.getD j 0 : Nat)
def BM (s : St) (n : Nat) (b : Int × Int × List Nat) : Prop := s 82 23 = I b.1 ∧ (0 ≤ b.1 → s 82 24 = I b.2.1 ∧ ∀ j, j < n → s 89 j = I (b.2.2.getD j 0 : Nat))
/-- the chosen are different, and not of the rest M -/
def PI (n : Nat) (p : List Nat) (M : Nat) : Prop := (∀ j, j < p.length → p.getD j 0 < n ∧ M.testBit (p.getD j 0) = false) ∧ ∀ i j, i < p.length → j < p.length → p.getD i 0 = p.getD j 0 → i = j
theorem RO_put {s : St} {k : Kv} (hk : CV k) (h : RO s k) {j : Nat} {x : Int32} : RO (wr s 83 (72 + j) x) k := by
  have a := hk.1
  exact ⟨fun i hi => by rw [wr_off (by omega)]; exact h.1 i hi, fun y hy w hw => by rw [wr_off (by omega)]; exact h.2.1 y hy w hw, fun b hb w hw => by rw [wr_off (by omega)]; exact h.2.2 b hb w hw⟩
theorem RO_ext {s s' : St} {k : Kv} (h : ∀ j, s' 83 j = s 83 j) (hr : RO s k) : RO s' k := ⟨fun i hi => (h _).trans (hr.1 i hi), fun y hy w hw => (h _).trans (hr.2.1 y hy w hw), fun b hb w hw => (h _).trans (hr.2.2 b hb w hw)⟩
theorem m_leaf {s0 s : St} {k : Kv} (hk : CC k) {d : Nat} {p : List Nat} {b : Int × Int × List Nat} (hp : p.length = nB k) (hpi : PI (nB k) p 0) (hmt : MT s0 s) (hro : RO s k) (hpo : PO s p) (hbm : BM s (nB k) b) (hbi : bIn k (nB k) b) {x : Int32} {Q : St → Prop} (hQ : ∀ s', MT s0 s' → RO s' k → PO s' p → BM s' (nB k) (bestP k (nB k) b p) → Q s') : vc_Mod_eachOrder (d + 1) x (I (0 : Nat)) s Q := by
  have hv := hk.1
  have a := hv.1
  have a5 := hv.2.1
  have hn := nB_le hv
  have en : ((nB k : Nat) : Int) = k 9 1 := by unfold nB; omega
  have hpl : ∀ j, j < nB k → ((p.getD j 0 : Nat) : Int) < k 9 1 := fun j hj => by
    have := (hpi.1 j (by omega)).1
    omega
  have hLI : LI (fun j => p.getD j 0) (nB k) := ⟨hn, fun i hi => by have := (hpi.1 i (by omega)).1; show p.getD i 0 < 6; omega, fun i j hi hj e => hpi.2 i j (by omega) (by omega) e⟩
  have ht := tab_in hv hn (l := fun j => p.getD j 0) hpl
  have k9 : ∀ i, kord k p 9 i = k 9 i := fun i => kord_ne (by decide)
  have hv2 : CV (kord k p) := by
    obtain ⟨h1, h2, h3, h4⟩ := hv
    refine ⟨by simp only [k9]; exact h1, by simp only [k9]; exact h2, fun y hy => ?_, fun b hb => ?_⟩
    · rw [k9] at hy
      unfold CY
      rw [kord_ne (by decide), kord_ne (by decide), kord_ne (by decide)]
      exact h3 y hy
    · rw [k9] at hb
      unfold CB
      rw [kord_ne (by decide), kord_ne (by decide), kord_ne (by decide), kord_ne (by decide), kord_ne (by decide)]
      exact h4 b hb
  have ho2 : CO (kord k p) := by
    intro j hj
    rw [k9] at hj ⊢
    rw [kord_at]
    exact ⟨Int.natCast_nonneg _, hpl j (by omega)⟩
  have hrm : RM s 83 (kord k p) := by
    refine ⟨fun i hi => by rw [k9]; exact hro.1 i hi, fun y hy w hw => ?_, fun b hb => ⟨fun w hw => ?_, ?_⟩⟩
    · rw [k9] at hy
      rw [kord_ne (by omega)]
      exact hro.2.1 y hy w hw
    · rw [k9] at hb
      rw [kord_ne (by omega)]
      exact hro.2.2 b hb w hw
    · rw [k9] at hb
      rw [kord_at]
      exact hpo b (by omega)
  unfold vc_Mod_eachOrder
  refine ⟨fun q => absurd rfl q, fun _ => ?_⟩
  refine m_tab hv2 ho2 hrm hmt.2.2.2 ?_
  rw [TK_kord, HK_kord]
  intro s25 hkg ht25 hh25 _
  have eN : popF (homeZ k (fun j => p.getD j 0) (nB k) (thereZ k (fun j => p.getD j 0) (nB k) (k 9 2) zt) zt).1 6 = I (tabN k (fun j => p.getD j 0) (nB k)) := pop_home hLI _ _
  have e15 : s25 82 15 = I (tabC k (fun j => p.getD j 0) (nB k)) := hh25.2.2
  have e23 : s25 82 23 = I b.1 := (hkg.2 23 (by omega)).trans hbm.1
  have hmt25 := hmt.kg hkg
  have f83 : ∀ j, s25 83 j = s 83 j := fun j => hkg.1 83 j (by decide) (by decide) (by decide)
  have hro25 : RO s25 k := RO_ext f83 hro
  have hpo25 : PO s25 p := fun j hj => (f83 _).trans (hpo j hj)
  have hbm25 : BM s25 (nB k) b := ⟨e23, fun h => ⟨(hkg.2 24 (by omega)).trans (hbm.2 h).1, fun j hj => (hkg.1 89 j (by decide) (by decide) (by decide)).trans ((hbm.2 h).2 j hj)⟩⟩
  obtain ⟨b1, b2, b3⟩ := hbi
  have hbp : bestP k (nB k) b p = if b.1 < tabN k (fun j => p.getD j 0) (nB k) ∨ (b.1 = tabN k (fun j => p.getD j 0) (nB k) ∧ tabC k (fun j => p.getD j 0) (nB k) < b.2.1) then (tabN k (fun j => p.getD j 0) (nB k), tabC k (fun j => p.getD j 0) (nB k), p) else b := rfl
  refine sp_bits ?_
  rw [hh25.1, eN, e23, e15]
  generalize bestP k (nB k) b p = b' at hbp hQ
  generalize tabN k (fun j => p.getD j 0) (nB k) = N at ht hbp
  generalize tabC k (fun j => p.getD j 0) (nB k) = C at ht hbp e15
  have keep : ¬ (b.1 < N ∨ (b.1 = N ∧ C < b.2.1)) → Q s25 := by
    intro h
    refine hQ s25 hmt25 hro25 hpo25 ?_
    rw [hbp, if_neg h]
    exact hbm25
  rw [show (I N < I b.1) ↔ N < b.1 from by simp (disch := (first | omega | (unfold inr; omega))) only [I_lit, I_nI, I_neg, I_add, I_sub, I_mul, I_div, I_le, I_lt, I_eq, I_clamp, I_clampN, I_vin], show (I N = I b.1) ↔ N = b.1 from by simp (disch := (first | omega | (unfold inr; omega))) only [I_lit, I_nI, I_neg, I_add, I_sub, I_mul, I_div, I_le, I_lt, I_eq, I_clamp, I_clampN, I_vin]]
  refine ⟨fun c => keep (by omega), fun c => ⟨b.1 < N ∨ (b.1 = N ∧ C < b.2.1), fun hbt => ?_, fun c2 => Or.inl (by omega), fun c2 => ?_⟩⟩
  · intro s30 h30 s31 h31
    have e31 : ∀ p j, p ≠ 82 → s31 p j = s25 p j := fun p j hp => by rw [h31, wr_ne hp, h30, wr_ne hp]
    have e3123 : s31 82 23 = I N := by rw [h31, wr_off (by decide), h30, wr_at]
    have e3124 : s31 82 24 = I C := by rw [h31, wr_at, h30, wr_off (by decide), e15]
    refine ⟨fun N t s' => ∃ i : Nat, t = I (i : Nat) ∧ i ≤ 6 ∧ N = 6 - i ∧ (∀ p j, p ≠ 89 → s' p j = s31 p j) ∧ ∀ j, j < i → s' 89 j = s31 83 (72 + j), ⟨_, 0, rfl, by omega, rfl, fun _ _ _ => rfl, fun j hj => absurd hj (Nat.not_lt_zero j)⟩, ?_⟩
    rintro N2 t s' ⟨i, rfl, hi, hN, f1, f2⟩
    constructor
    · intro z
      have z : i = 6 := by
        revert z
        simp (disch := (first | omega | (unfold inr; omega))) only [I_lit, I_nI, I_neg, I_add, I_sub, I_mul, I_div, I_le, I_lt, I_eq, I_clamp, I_clampN, I_vin]
        omega
      subst z
      refine hQ s' ⟨fun p j hp => by rw [f1 p j (by omega), e31 p j (by omega)]; exact hmt25.1 p j hp, ?_, fun j hj => by rw [f1 _ _ (by decide), e31 _ _ (by decide)]; exact hmt25.2.2.1 j hj, ?_⟩ (RO_ext (fun j => by rw [f1 _ _ (by decide), e31 _ _ (by decide)]) hro25) (fun j hj => by rw [f1 _ _ (by decide), e31 _ _ (by decide)]; exact hpo25 j hj) ?_
      · rw [f1 _ _ (by decide), h31, wr_off (by decide), h30, wr_off (by decide)]; exact hmt25.2.1
      · rw [f1 _ _ (by decide), h31, wr_off (by decide), h30, wr_off (by decide)]; exact hmt25.2.2.2
      · rw [hbp, if_pos hbt]
        refine ⟨(f1 _ _ (by decide)).trans e3123, fun _ => ⟨(f1 _ _ (by decide)).trans e3124, fun j hj => ?_⟩⟩
        rw [f2 j (by omega), e31 _ _ (by decide)]
        exact hpo25 j (by omega)
    · intro z
      have z : i < 6 := by
        revert z
        simp (disch := (first | omega | (unfold inr; omega))) only [I_lit, I_nI, I_neg, I_add, I_sub, I_mul, I_div, I_le, I_lt, I_eq, I_clamp, I_clampN, I_vin]
        omega
      have ei : (72 : Int32) + I (i : Int) = I ((72 + i : Nat) : Int) := by
        simp (disch := (first | omega | (unfold inr; omega))) only [I_lit, I_nI, I_neg, I_add, I_sub, I_mul, I_div, I_le, I_lt, I_eq, I_clamp, I_clampN, I_vin]
        congr 1
      rw [ei, I_clampN (by omega), I_clampN (by omega)]
      refine ⟨I_vinN (by omega) (by decide), I_vinN (by omega) (by decide), ?_⟩
      intro s39 h39 x40 h40
      refine ⟨6 - (i + 1), by omega, i + 1, ?_, by omega, rfl, fun p j hp => by rw [h39, wr_ne hp]; exact f1 p j hp, fun j hj => ?_⟩
      · rw [h40]
        simp (disch := (first | omega | (unfold inr; omega))) only [I_lit, I_nI, I_neg, I_add, I_sub, I_mul, I_div, I_le, I_lt, I_eq, I_clamp, I_clampN, I_vin]
        congr 1
      · rw [h39]
        by_cases e : j = i
        · subst e
          rw [wr_at]
          exact f1 _ _ (by decide)
        · rw [wr_off e]
          exact f2 j (by omega)
  · have e24 := (hbm25.2 (by omega)).1
    have b4 := b3 (by omega)
    rw [e24, show (I C < I b.2.1) ↔ C < b.2.1 from by simp (disch := (first | omega | (unfold inr; omega))) only [I_lit, I_nI, I_neg, I_add, I_sub, I_mul, I_div, I_le, I_lt, I_eq, I_clamp, I_clampN, I_vin]]
    exact ⟨fun c3 => Or.inr ⟨c2.symm, c3⟩, fun c3 => keep (by omega)⟩
