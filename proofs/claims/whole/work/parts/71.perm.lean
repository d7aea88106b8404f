/-! BEST ORDER: all orders, one behind the other -/
def ris (f : Nat → Nat) : Nat → Int
  | 0 => -1
  | m + 1 => if f (m + 1) < f m then ris f m else (m : Int)
def lar (f : Nat → Nat) (r : Nat) : Nat → Nat
  | 0 => 0
  | m + 1 => if m + 1 ≤ r ∨ f r ≤ f (m + 1) then m + 1 else lar f r m
def sw (f : Nat → Nat) (i j : Nat) : Nat → Nat := fun x => if x = j then f i else if x = i then f j else f x
def rv : Nat → (Nat → Nat) → Nat → Nat → (Nat → Nat)
  | 0, f, _, _ => f
  | m + 1, f, a, b => if b ≤ a then f else rv m (sw f a b) (a + 1) (b - 1)
def npF (f : Nat → Nat) (n : Nat) : Option (Nat → Nat) := if ris f (n - 1) < 0 then none else some (rv 6 (sw f (ris f (n - 1)).toNat (lar f (ris f (n - 1)).toNat (n - 1))) ((ris f (n - 1)).toNat + 1) (n - 1))
def npL (n : Nat) (l : List Nat) : Option (List Nat) := (npF (fun j => l.getD j 0) n).map (fun g => (List.range n).map g)
def chkP (n : Nat) : List (List Nat) → Bool
  | [] => true
  | l :: t => (match t with
    | [] => (npL n l).isNone
    | l' :: _ => npL n l == some l') && chkP n t
def okL (n : Nat) (l : List Nat) : Bool := l.length == n && ((List.range n).all (fun i => decide (l.getD i 0 < n) && (List.range n).all (fun j => i == j || !(l.getD i 0 == l.getD j 0))))
theorem perms_ok : ∀ n, n < 7 → ((perms n).head? = some (List.range n) ∧ chkP n (perms n) = true ∧ (perms n).all (okL n) = true ∧ (perms n).length ≤ 720) := by decide +kernel
theorem chk_at {n : Nat} : ∀ (L : List (List Nat)), chkP n L = true → ∀ i, (h : i < L.length) → (npL n L[i] = if h2 : i + 1 < L.length then some L[i + 1] else none) := by
  intro L
  induction L with
  | nil => intro _ i h; exact absurd h (Nat.not_lt_zero i)
  | cons l t ih =>
    intro hc i h
    unfold chkP at hc
    rw [Bool.and_eq_true] at hc
    cases i with
    | zero =>
      cases t with
      | nil =>
        rw [dif_neg (by simp)]
        have := hc.1
        simpa using this
      | cons l' t' =>
        rw [dif_pos (by simp)]
        have := hc.1
        simpa using this
    | succ i =>
      have h' : i < t.length := by simpa using h
      have := ih hc.2 i h'
      show npL n t[i] = _
      rw [this]
      by_cases c : i + 1 < t.length
      · rw [dif_pos c, dif_pos (by simpa using c)]
        rfl
      · rw [dif_neg c, dif_neg (by simpa using c)]
theorem sp_exch {s : St} {p : Nat} {f : Nat → Nat} {n i j : Nat} (hn : n ≤ 6) (hi : i < n) (hj : j < n) (hf : ∀ x, x < n → s (p + 2) x = I (f x : Nat)) {Q : St → Prop} (hQ : ∀ s', (∀ q x, q ≠ p + 2 → s' q x = s q x) → (∀ x, x < n → s' (p + 2) x = I (sw f i j x : Nat)) → Q s') : vc_Best_exchange p (I (i : Nat)) (I (j : Nat)) s Q := by
  have hini : vp_in (I (i : Int)) 6 := I_vinN (by omega) (by decide)
  have hinj : vp_in (I (j : Int)) 6 := I_vinN (by omega) (by decide)
  unfold vc_Best_exchange
  rw [I_clampN (by omega), I_clampN (by omega), hf i hi, hf j hj]
  refine ⟨hini, ?_⟩
  intro x11 h11
  refine ⟨hinj, hini, ?_⟩
  intro s14 h14
  refine ⟨hinj, ?_⟩
  intro s16 h16
  refine hQ s16 (fun q x hq => by rw [h16, wr_ne hq, h14, wr_ne hq]) (fun x hx => ?_)
  unfold sw
  rw [h16]
  by_cases c : x = j
  · subst c
    rw [wr_at, if_pos rfl, h11]
  · rw [wr_off c, if_neg c, h14]
    by_cases c2 : x = i
    · subst c2
      rw [wr_at, if_pos rfl]
    · rw [wr_off c2, if_neg c2]
      exact hf x hx
theorem sp_next {s : St} {p : Nat} {f : Nat → Nat} {n : Nat} (hn : n ≤ 6) (h6 : ∀ x, x < n → f x < 6) (hf : ∀ x, x < n → s (p + 2) x = I (f x : Nat)) {Q : Bool → St → Prop} (h0 : npF f n = none → Q false s) (h1 : ∀ g, npF f n = some g → ∀ s', (∀ q x, q ≠ p + 2 → s' q x = s q x) → (∀ x, x < n → s' (p + 2) x = I (g x : Nat)) → Q true s') : vc_Best_goToNext p (I (n : Nat)) s Q := by
  have fr : ∀ i j, i < n → j < n → ((I (f i : Nat) ≤ I (f j : Nat)) ↔ f i ≤ f j) := fun i j hi hj => by
    have a := h6 i hi
    have b := h6 j hj
    simp (disch := (first | omega | (unfold inr; omega))) only [I_lit, I_nI, I_neg, I_add, I_sub, I_mul, I_div, I_le, I_lt, I_eq, I_clamp, I_clampN, I_vin]
    omega
  unfold vc_Best_goToNext
  intro x10 h10
  rw [show I (n : Int) - 2 = I ((n : Int) - 2) from by simp (disch := (first | omega | (unfold inr; omega))) only [I_lit, I_nI, I_neg, I_add, I_sub, I_mul, I_div, I_le, I_lt, I_eq, I_clamp, I_clampN, I_vin]] at h10
  subst h10
  by_cases hz : n = 0
  · subst hz
    refine ⟨fun N t => t = I (-2), ⟨0, rfl⟩, ?_⟩
    rintro N t rfl
    have hm : I (-2) < 0 := by
      simp (disch := (first | omega | (unfold inr; omega))) only [I_lit, I_nI, I_neg, I_add, I_sub, I_mul, I_div, I_le, I_lt, I_eq, I_clamp, I_clampN, I_vin]
      omega
    refine ⟨True, fun _ => ⟨fun c => ?_, fun _ => h0 ?_⟩, fun _ => trivial, fun q => absurd hm q⟩
    · exfalso
      revert c
      simp (disch := (first | omega | (unfold inr; omega))) only [I_lit, I_nI, I_neg, I_add, I_sub, I_mul, I_div, I_le, I_lt, I_eq, I_clamp, I_clampN, I_vin]
      omega
    · unfold npF
      rw [if_pos (show ris f (0 - 1) < 0 from (by decide : (-1 : Int) < 0))]
  refine ⟨fun N t => ∃ m : Nat, t = I ((m : Int) - 1) ∧ m ≤ n - 1 ∧ N = m ∧ ris f (n - 1) = ris f m, ⟨_, n - 1, by congr 1; omega, Nat.le_refl _, rfl, rfl⟩, ?_⟩
  rintro N t ⟨m, rfl, hm, hN, hr⟩
  have stop : ris f m = (m : Int) - 1 → ((0 ≤ I ((m : Int) - 1) → (∀ x16 : Int32, x16 = I (n : Int) - 1 → (∃ I18 : Nat → Int32 → Prop, (∃ n19, I18 n19 x16) ∧ ∀ (nI18 : Nat) (x17 : Int32), I18 nI18 x17 → (∃ J20 : Prop, (J20 → vc_Best_exchange p (I ((m : Int) - 1)) x17 s (fun s21 => (∀ x22 : Int32, x22 = (I ((m : Int) - 1)) + 1 → (∀ x23 : Int32, x23 = I (n : Int) - 1 → (∃ I27 : Nat → Int32 → Int32 → St → Prop, (∃ n28, I27 n28 x22 x23 s21) ∧ ∀ (nI27 : Nat) (x24 : Int32) (x25 : Int32) (s26 : St), I27 nI27 x24 x25 s26 → ((x25 ≤ x24 → Q true s26) ∧ (¬ x25 ≤ x24 → vc_Best_exchange p x24 x25 s26 (fun s30 => (∀ x31 : Int32, x31 = x24 + 1 → (∀ x32 : Int32, x32 = x25 + (-1) → ∃ m33, m33 < nI27 ∧ I27 m33 x31 x32 s30)))))))))) ∧ ((x17 ≤ I ((m : Int) - 1) → J20) ∧ (¬ x17 ≤ I ((m : Int) - 1) → (vp_in x17 6 ∧ (vp_in (I ((m : Int) - 1)) 6 ∧ (((s (p + 2) (Int32.toNatClampNeg (I ((m : Int) - 1)))) ≤ (s (p + 2) (Int32.toNatClampNeg x17)) → J20) ∧ (¬ (s (p + 2) (Int32.toNatClampNeg (I ((m : Int) - 1)))) ≤ (s (p + 2) (Int32.toNatClampNeg x17)) → (∀ x38 : Int32, x38 = x17 + (-1) → ∃ m39, m39 < nI18 ∧ I18 m39 x38))))))))))) ∧ (¬ 0 ≤ I ((m : Int) - 1) → Q false s)) := by
    intro hs
    rw [hs] at hr
    constructor
    · intro c
      have c : 1 ≤ m := by
        revert c
        simp (disch := (first | omega | (unfold inr; omega))) only [I_lit, I_nI, I_neg, I_add, I_sub, I_mul, I_div, I_le, I_lt, I_eq, I_clamp, I_clampN, I_vin]
        omega
      obtain ⟨r, er⟩ : ∃ r : Nat, (m : Int) - 1 = (r : Int) := ⟨m - 1, by omega⟩
      rw [er]
      have hnp : npF f n = some (rv 6 (sw f r (lar f r (n - 1))) (r + 1) (n - 1)) := by
        unfold npF
        rw [hr, er, if_neg (by omega), Int.toNat_natCast]
      have h1 := h1 _ hnp
      intro x16 h16
      rw [show I (n : Int) - 1 = I ((n - 1 : Nat) : Int) from by
        simp (disch := (first | omega | (unfold inr; omega))) only [I_lit, I_nI, I_neg, I_add, I_sub, I_mul, I_div, I_le, I_lt, I_eq, I_clamp, I_clampN, I_vin]
        congr 1
        omega] at h16
      subst h16
      refine ⟨fun N t => ∃ g : Nat, t = I (g : Nat) ∧ r ≤ g ∧ g ≤ n - 1 ∧ N = g ∧ lar f r (n - 1) = lar f r g, ⟨_, n - 1, rfl, by omega, Nat.le_refl _, rfl, rfl⟩, ?_⟩
      rintro N2 t ⟨g, rfl, hg1, hg2, hN2, hg3⟩
      refine ⟨lar f r g = g, fun hl => ?_, fun q => ?_, fun q => ⟨I_vinN (by omega) (by decide), I_vinN (by omega) (by decide), ?_⟩⟩
      · rw [hl] at hg3
        rw [hg3] at h1
        refine sp_exch (f := f) hn (by omega) (by omega) hf ?_
        intro s21 f21 g21 x22 h22 x23 h23
        rw [show I (r : Int) + 1 = I ((r + 1 : Nat) : Int) from by
          simp (disch := (first | omega | (unfold inr; omega))) only [I_lit, I_nI, I_neg, I_add, I_sub, I_mul, I_div, I_le, I_lt, I_eq, I_clamp, I_clampN, I_vin]
          congr 1] at h22
        rw [show I (n : Int) - 1 = I ((n - 1 : Nat) : Int) from by
          simp (disch := (first | omega | (unfold inr; omega))) only [I_lit, I_nI, I_neg, I_add, I_sub, I_mul, I_div, I_le, I_lt, I_eq, I_clamp, I_clampN, I_vin]
          congr 1
          omega] at h23
        subst h22 h23
        refine ⟨fun N x y s' => ∃ (m a b : Nat) (h : Nat → Nat), x = I (a : Nat) ∧ y = I (b : Nat) ∧ N = m ∧ a ≤ n ∧ b ≤ n - 1 ∧ b ≤ a + m ∧ (∀ q x, q ≠ p + 2 → s' q x = s q x) ∧ (∀ x, x < n → s' (p + 2) x = I (h x : Nat)) ∧ rv 6 (sw f r g) (r + 1) (n - 1) = rv m h a b, ⟨_, 6, r + 1, n - 1, _, rfl, rfl, rfl, by omega, by omega, by omega, f21, g21, rfl⟩, ?_⟩
        rintro N x y s' ⟨m, a, b, h, rfl, rfl, hN, ha, hb, hab, f1, f2, hrv⟩
        constructor
        · intro c2
          have c2 : b ≤ a := by
            revert c2
            simp (disch := (first | omega | (unfold inr; omega))) only [I_lit, I_nI, I_neg, I_add, I_sub, I_mul, I_div, I_le, I_lt, I_eq, I_clamp, I_clampN, I_vin]
            omega
          refine h1 s' f1 (fun x hx => ?_)
          rw [f2 x hx, hrv]
          cases m with
          | zero => rfl
          | succ m =>
            unfold rv
            rw [if_pos c2]
        · intro c2
          have c2 : a < b := by
            revert c2
            simp (disch := (first | omega | (unfold inr; omega))) only [I_lit, I_nI, I_neg, I_add, I_sub, I_mul, I_div, I_le, I_lt, I_eq, I_clamp, I_clampN, I_vin]
            omega
          cases m with
          | zero => omega
          | succ m =>
            refine sp_exch (f := h) hn (by omega) (by omega) f2 ?_
            intro s30 f30 g30 x31 h31 x32 h32
            refine ⟨m, by omega, m, a + 1, b - 1, _, ?_, ?_, rfl, by omega, by omega, by omega, fun q x hq => (f30 q x hq).trans (f1 q x hq), g30, ?_⟩
            · rw [h31]
              simp (disch := (first | omega | (unfold inr; omega))) only [I_lit, I_nI, I_neg, I_add, I_sub, I_mul, I_div, I_le, I_lt, I_eq, I_clamp, I_clampN, I_vin]
              congr 1
            · rw [h32]
              simp (disch := (first | omega | (unfold inr; omega))) only [I_lit, I_nI, I_neg, I_add, I_sub, I_mul, I_div, I_le, I_lt, I_eq, I_clamp, I_clampN, I_vin]
              congr 1
              omega
            · rw [hrv]
              show (if b ≤ a then h else rv m (sw h a b) (a + 1) (b - 1)) = _
              rw [if_neg (by omega)]
      · have q : g ≤ r := by
          revert q
          simp (disch := (first | omega | (unfold inr; omega))) only [I_lit, I_nI, I_neg, I_add, I_sub, I_mul, I_div, I_le, I_lt, I_eq, I_clamp, I_clampN, I_vin]
          omega
        cases g with
        | zero => rfl
        | succ g =>
          unfold lar
          rw [if_pos (Or.inl q)]
      · have q : r < g := by
          revert q
          simp (disch := (first | omega | (unfold inr; omega))) only [I_lit, I_nI, I_neg, I_add, I_sub, I_mul, I_div, I_le, I_lt, I_eq, I_clamp, I_clampN, I_vin]
          omega
        rw [I_clampN (by omega), I_clampN (by omega), hf r (by omega), hf g (by omega), fr r g (by omega) (by omega)]
        obtain ⟨g, rfl⟩ : ∃ g', g = g' + 1 := ⟨g - 1, by omega⟩
        refine ⟨fun c2 => ?_, fun c2 => ?_⟩
        · unfold lar
          rw [if_pos (Or.inr c2)]
        · intro x38 h38
          refine ⟨g, by omega, g, ?_, by omega, by omega, rfl, ?_⟩
          · rw [h38]
            simp (disch := (first | omega | (unfold inr; omega))) only [I_lit, I_nI, I_neg, I_add, I_sub, I_mul, I_div, I_le, I_lt, I_eq, I_clamp, I_clampN, I_vin]
            congr 1
            omega
          · rw [hg3]
            show (if g + 1 ≤ r ∨ f r ≤ f (g + 1) then g + 1 else lar f r g) = _
            rw [if_neg (by omega)]
    · intro c
      have c : m = 0 := by
        revert c
        simp (disch := (first | omega | (unfold inr; omega))) only [I_lit, I_nI, I_neg, I_add, I_sub, I_mul, I_div, I_le, I_lt, I_eq, I_clamp, I_clampN, I_vin]
        omega
      subst c
      refine h0 ?_
      unfold npF
      rw [hr, if_pos (by decide)]
  refine ⟨ris f m = (m : Int) - 1, stop, fun q => ?_, fun q => ?_⟩
  · have q : m = 0 := by
      revert q
      simp (disch := (first | omega | (unfold inr; omega))) only [I_lit, I_nI, I_neg, I_add, I_sub, I_mul, I_div, I_le, I_lt, I_eq, I_clamp, I_clampN, I_vin]
      omega
    subst q
    rfl
  · have q : 1 ≤ m := by
      revert q
      simp (disch := (first | omega | (unfold inr; omega))) only [I_lit, I_nI, I_neg, I_add, I_sub, I_mul, I_div, I_le, I_lt, I_eq, I_clamp, I_clampN, I_vin]
      omega
    obtain ⟨m, rfl⟩ : ∃ m', m = m' + 1 := ⟨m - 1, by omega⟩
    rw [show ((m + 1 : Nat) : Int) - 1 = (m : Int) by omega, show I (m : Int) + 1 = I ((m + 1 : Nat) : Int) from by
      simp (disch := (first | omega | (unfold inr; omega))) only [I_lit, I_nI, I_neg, I_add, I_sub, I_mul, I_div, I_le, I_lt, I_eq, I_clamp, I_clampN, I_vin]
      congr 1, I_clampN (by omega), I_clampN (by omega), hf m (by omega), hf (m + 1) (by omega), fr m (m + 1) (by omega) (by omega)]
    refine ⟨I_vinN (by omega) (by decide), I_vinN (by omega) (by decide), fun c => ?_, fun c => ?_⟩
    · show (if f (m + 1) < f m then ris f m else (m : Int)) = (m : Int)
      rw [if_neg (by omega)]
    · intro x44 h44
      refine ⟨m, by omega, m, ?_, by omega, rfl, ?_⟩
      · rw [h44]
        simp (disch := (first | omega | (unfold inr; omega))) only [I_lit, I_nI, I_neg, I_add, I_sub, I_mul, I_div, I_le, I_lt, I_eq, I_clamp, I_clampN, I_vin]
        congr 1
      · rw [hr]
        show (if f (m + 1) < f m then ris f m else (m : Int)) = _
        rw [if_pos (by omega)]
