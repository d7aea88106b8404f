/-- the odds of a set of panics, of so many BODIES -/
def wN (k : Kv) (C : Int32) : Nat → Nat
  | 0 => 1
  | i + 1 => wN k C i * (if awb C i then (k 5 i).toNat else (10 - k 5 i).toNat)
theorem wN_s (k : Kv) (C : Int32) (i : Nat) : wN k C (i + 1) = wN k C i * (if awb C i then (k 5 i).toNat else (10 - k 5 i).toNat) := rfl
theorem wN_le {k : Kv} (hk : CV k) (C : Int32) : ∀ i : Nat, (i : Int) ≤ k 9 1 → wN k C i ≤ 10 ^ i := by
  intro i
  induction i with
  | zero => intro _; exact Nat.le_refl 1
  | succ i ih =>
    intro h
    obtain ⟨-, -, -, -, h5, h6, -⟩ := hk.2.2.2 i (by omega)
    rw [wN_s, Nat.pow_succ]
    refine Nat.mul_le_mul (ih (by omega)) ?_
    split <;> omega
def kpn (k : Kv) (C : Int32) : Kv := kst k 5 (fun b => if awb C b then 9 else k 5 b)
theorem CC_kpn {k : Kv} (h : CC k) (C : Int32) : CC (kpn k C) := CC_kst h (Or.inl rfl) (fun b hb => Or.inl ⟨rfl, by
  obtain ⟨-, -, -, -, h5, h6, -⟩ := h.1.2.2.2 b hb
  split <;> omega⟩)
/-- all odds by which all are back, of so many sets -/
def aN (k : Kv) : Nat → Nat
  | 0 => 0
  | i + 1 => if 0 < wN k (I (i : Nat)) (nB k) ∧ okZ (TK (kpn k (I (i : Nat)))) (HK (kpn k (I (i : Nat)))) = true then aN k i + wN k (I (i : Nat)) (nB k) else aN k i
theorem aN_s (k : Kv) (i : Nat) : aN k (i + 1) = if 0 < wN k (I (i : Nat)) (nB k) ∧ okZ (TK (kpn k (I (i : Nat)))) (HK (kpn k (I (i : Nat)))) = true then aN k i + wN k (I (i : Nat)) (nB k) else aN k i := rfl
theorem wN_6 {k : Kv} (hk : CV k) (C : Int32) : wN k C (nB k) ≤ 1000000 := by
  have a := hk.1
  have hn := nB_le hk
  have h := wN_le hk C (nB k) (by unfold nB; omega)
  have h2 : 10 ^ nB k ≤ 10 ^ 6 := Nat.pow_le_pow_right (by decide) hn
  have h3 : (10 : Nat) ^ 6 = 1000000 := by decide
  omega
theorem aN_le {k : Kv} (hk : CV k) : ∀ i, aN k i ≤ i * 1000000 := by
  intro i
  induction i with
  | zero => exact Nat.le_refl 0
  | succ i ih =>
    have := wN_6 hk (I (i : Nat))
    rw [aN_s, Nat.succ_mul]
    split
    · exact Nat.add_le_add ih this
    · exact Nat.le_trans ih (Nat.le_add_right _ _)
theorem K_pos {n : Nat} (h : n < 1000000000000) : (lg_cmp (K (n : Nat)) 0 ≤ 0) ↔ ¬ 0 < n := by
  rw [lg_cmp_le, ← K0, Int64.le_iff_toInt_le, K_in ⟨by omega, by omega⟩, K_in ⟨by omega, by omega⟩]
  omega
theorem c_panicOf {s s0 : St} {k : Kv} (hk : CC k) (h1 : RC s0 1 k) {f : Nat → Int} {C : Int32} (hkc : KC s0 s) (hr : RC s 35 (kst k 5 f)) {Q : Int64 → St → Prop} (hQ : ∀ s', KC s0 s' → RC s' 35 (kpn k C) → Q (K (wN k C (nB k) : Nat)) s') : vc_Brt_panicOf C s Q := by
  have a := hk.1.1
  have hn := nB_le hk.1
  have en : ((nB k : Nat) : Int) = k 9 1 := by unfold nB; omega
  unfold vc_Brt_panicOf
  refine ⟨fun N x t s' => ∃ i : Nat, t = I (i : Nat) ∧ i ≤ nB k ∧ N = nB k - i ∧ x = K (wN k C i : Nat) ∧ KC s0 s' ∧ RC s' 35 (kst k 5 (fun b => if b < i then (if awb C b then 9 else k 5 b) else f b)), ⟨_, 0, rfl, by omega, rfl, rfl, hkc, RC_kc (by decide) (fun b _ => by simp) hr⟩, ?_⟩
  rintro N x t s' ⟨i, rfl, hi, hN, rfl, hks, hrs⟩
  have hr1 : RC s' 1 k := RC_ext (fun q j hq => hks _ _ (by omega)) h1
  rw [show s' 11 0 = I (nB k : Nat) from by rw [show s' 11 0 = I (k 9 1) from hr1.1.2.1, en]]
  constructor
  · intro z
    have z : i = nB k := by
      revert z
      simp (disch := (first | omega | (unfold inr; omega))) only [I_lit, I_nI, I_neg, I_add, I_sub, I_mul, I_div, I_le, I_lt, I_eq, I_clamp, I_clampN, I_vin]
      omega
    subst z
    exact hQ s' hks (RC_kc (by decide) (fun b hb => by rw [if_pos (by omega)]) hrs)
  · intro z
    have z : i < nB k := by
      revert z
      simp (disch := (first | omega | (unfold inr; omega))) only [I_lit, I_nI, I_neg, I_add, I_sub, I_mul, I_div, I_le, I_lt, I_eq, I_clamp, I_clampN, I_vin]
      omega
    obtain ⟨-, -, -, -, h5, h6, -⟩ := hk.1.2.2.2 i (by omega)
    have e14 : s' 14 i = I (k 5 i) := (hr1.2.2 i (by omega)).2.2.1
    rw [I_clampN (by omega), e14]
    refine ⟨I_vinN (by omega) (by decide), ?_⟩
    intro x17 h17
    subst h17
    have hin : vp_in (I (i : Int)) 6 := I_vinN (by omega) (by decide)
    have nx : ∀ (x22 : Int64) (v : Int), x22 = K (wN k C (i + 1) : Nat) → v = (if awb C i then 9 else k 5 i) → ∀ s26 : St, s26 = wr s' 48 i (I v) → (∀ x27 : Int32, x27 = I (i : Int) + 1 → ∃ m28, m28 < N ∧ ∃ i : Nat, x27 = I (i : Nat) ∧ i ≤ nB k ∧ m28 = nB k - i ∧ x22 = K (wN k C i : Nat) ∧ KC s0 s26 ∧ RC s26 35 (kst k 5 (fun b => if b < i then (if awb C b then 9 else k 5 b) else f b))) := by
      intro x22 v h22 hv s26 h26 x27 h27
      refine ⟨nB k - (i + 1), by omega, i + 1, ?_, by omega, rfl, h22, by rw [h26]; exact hks.tr (KC.wr (by omega)), ?_⟩
      · rw [h27]
        simp (disch := (first | omega | (unfold inr; omega))) only [I_lit, I_nI, I_neg, I_add, I_sub, I_mul, I_div, I_le, I_lt, I_eq, I_clamp, I_clampN, I_vin]
        congr 1
      · have := RC_put hrs (a := 5) (b := i) (v := v) (by decide)
        rw [kst_ku] at this
        rw [h26]
        refine RC_kc (by decide) (fun b _ => ?_) this
        by_cases e : b = i
        · rw [if_pos e, if_pos (show b < i + 1 by omega), hv, e]
        · rw [if_neg e]
          by_cases e2 : b < i
          · rw [if_pos e2, if_pos (show b < i + 1 by omega)]
          · rw [if_neg e2, if_neg (show ¬ b < i + 1 by omega)]
    have ez : ∀ b : Bool, (bi b = 0) ↔ b = false := fun b => bi_f
    refine ⟨fun x => x = bi (awb C i), ?_, fun c => ?_, fun c => ?_⟩
    · rintro x18 rfl
      rw [ez]
      refine ⟨fun v => v = K ((if awb C i then (k 5 i).toNat else (10 - k 5 i).toNat : Nat) : Int), ?_, fun c => ?_, fun c => ?_⟩
      · rintro v rfl
        intro x22 h22
        rw [K_mul] at h22
        refine ⟨fun u => u = I (if awb C i then 9 else k 5 i), ?_, fun c => ?_, fun c => ?_⟩
        · rintro u rfl
          exact ⟨hin, nx x22 _ (by rw [h22, wN_s, Int.natCast_mul]) rfl⟩
        · show I (k 5 i) = I (if awb C i then 9 else k 5 i)
          rw [if_neg (by rw [c]; decide)]
        · show (9 : Int32) = I (if awb C i then 9 else k 5 i)
          rw [if_pos (by simpa using c)]
          rfl
      · show Int32.toInt64 (10 - I (k 5 i)) = _
        rw [if_neg (by rw [c]; decide), show (10 : Int32) - I (k 5 i) = I (10 - k 5 i) from by simp (disch := (first | omega | (unfold inr; omega))) only [I_lit, I_nI, I_neg, I_add, I_sub, I_mul, I_div, I_le, I_lt, I_eq, I_clamp, I_clampN, I_vin], K_I ⟨by omega, by omega⟩]
        congr 1
        omega
      · show Int32.toInt64 (I (k 5 i)) = _
        rw [if_pos (by simpa using c), K_I ⟨by omega, by omega⟩]
        congr 1
        omega
    · show (0 : Int32) = bi (awb C i)
      rw [awb_1] at c
      have c : awb C i = false := by simpa using c
      rw [c]
      rfl
    · show (1 : Int32) = bi (awb C i)
      rw [awb_1] at c
      rw [c]
      rfl
theorem m_weigh {s s0 : St} {k : Kv} (hk : CC k) (h1 : RM s0 83 k) {f : Nat → Int} {C : Int32} (hmt : MT s0 s) (hr : RM s 83 (kst k 5 f)) {P : Int64 → St → Prop} (hP : ∀ s', MT s0 s' → RM s' 83 (kpn k C) → P (K (wN k C (nB k) : Nat)) s') : (∃ I39 : Nat → Int64 → Int32 → St → Prop, (∃ n40, I39 n40 1 0 s) ∧ ∀ (nI39 : Nat) (x36 : Int64) (x37 : Int32) (s38 : St), I39 nI39 x36 x37 s38 → (vp_in 1 78 ∧ (((s38 83 (Int32.toNatClampNeg 1)) ≤ x37 → P x36 s38) ∧ (¬ (s38 83 (Int32.toNatClampNeg 1)) ≤ x37 → (∃ J54 : Int32 → Prop, (∀ (x53 : Int32), J54 x53 → (∃ J56 : Int64 → Prop, (∀ (x55 : Int64), J56 x55 → (∀ x57 : Int64, x57 = x36 * x55 → vc_Mod_atBody x37 2 (fun x58 => (∃ J61 : Int32 → Prop, (∀ (x60 : Int32), J61 x60 → (vp_in x58 78 ∧ (∀ s63 : St, s63 = wr s38 83 (Int32.toNatClampNeg x58) x60 → (∀ x64 : Int32, x64 = x37 + 1 → ∃ m65, m65 < nI39 ∧ I39 m65 x57 x64 s63)))) ∧ ((x53 = 0 → vc_Mod_atBody x37 2 (fun x67 => (vp_in x67 78 ∧ J61 (s38 85 (Int32.toNatClampNeg x67))))) ∧ (¬ x53 = 0 → J61 9)))))) ∧ ((x53 = 0 → vc_Mod_atBody x37 2 (fun x71 => (vp_in x71 78 ∧ J56 (Int32.toInt64 (10 - (s38 85 (Int32.toNatClampNeg x71))))))) ∧ (¬ x53 = 0 → vc_Mod_atBody x37 2 (fun x74 => (vp_in x74 78 ∧ J56 (Int32.toInt64 (s38 85 (Int32.toNatClampNeg x74))))))))) ∧ ((¬ ((C >>> (x37 &&& 31)) &&& 1) = 1 → J54 0) ∧ (((C >>> (x37 &&& 31)) &&& 1) = 1 → J54 1))))))) := by
  have a := hk.1.1
  have hn := nB_le hk.1
  have en : ((nB k : Nat) : Int) = k 9 1 := by unfold nB; omega
  have vi : vp_in (1 : Int32) 78 := v_in (a := 1) ⟨by decide, by decide⟩ (by decide) rfl
  refine ⟨fun N x t s' => ∃ i : Nat, t = I (i : Nat) ∧ i ≤ nB k ∧ N = nB k - i ∧ x = K (wN k C i : Nat) ∧ MT s0 s' ∧ RM s' 83 (kst k 5 (fun b => if b < i then (if awb C b then 9 else k 5 b) else f b)), ⟨_, 0, rfl, by omega, rfl, rfl, hmt, RM_kc (by decide) (fun b _ => by simp) hr⟩, ?_⟩
  rintro N x t s' ⟨i, rfl, hi, hN, rfl, hks, hrs⟩
  have e1 : s' 83 (Int32.toNatClampNeg 1) = I (nB k : Nat) := (hrs.1 1 (by decide)).trans (by rw [kst_ne (by decide), en])
  rw [e1]
  refine ⟨vi, fun z => ?_, fun z => ?_⟩
  · have z : i = nB k := by
      revert z
      simp (disch := (first | omega | (unfold inr; omega))) only [I_lit, I_nI, I_neg, I_add, I_sub, I_mul, I_div, I_le, I_lt, I_eq, I_clamp, I_clampN, I_vin]
      omega
    subst z
    exact hP s' hks (RM_kc (by decide) (fun b hb => by rw [if_pos (by omega)]) hrs)
  · have z : i < nB k := by
      revert z
      simp (disch := (first | omega | (unfold inr; omega))) only [I_lit, I_nI, I_neg, I_add, I_sub, I_mul, I_div, I_le, I_lt, I_eq, I_clamp, I_clampN, I_vin]
      omega
    obtain ⟨-, -, -, -, h5, h6, -⟩ := hk.1.2.2.2 i (by omega)
    have e85 : s' 85 (42 + 5 * i + 2) = I (k 5 i) := (hks.2.2.1 _ (by omega)).trans ((h1.2.2 i (by omega)).1 2 (by decide))
    have hin : vp_in (I ((42 + 5 * i + 2 : Nat) : Int)) 78 := I_vinN (by omega) (by decide)
    have hcl : (I ((42 + 5 * i + 2 : Nat) : Int)).toNatClampNeg = 42 + 5 * i + 2 := I_clampN (by omega)
    have ez : ∀ b : Bool, (bi b = 0) ↔ b = false := fun b => bi_f
    refine ⟨fun x => x = bi (awb C i), ?_, fun c => ?_, fun c => ?_⟩
    · rintro x18 rfl
      rw [ez]
      refine ⟨fun v => v = K ((if awb C i then (k 5 i).toNat else (10 - k 5 i).toNat : Nat) : Int), ?_, fun c => ?_, fun c => ?_⟩
      · rintro v rfl
        intro x22 h22
        rw [K_mul] at h22
        refine at_body (b := i) (by omega) (w := 2) (by decide) rfl ?_
        refine ⟨fun u => u = I (if awb C i then 9 else k 5 i), ?_, fun c => ?_, fun c => ?_⟩
        · rintro u rfl
          rw [hcl]
          refine ⟨hin, ?_⟩
          intro s63 h63 x64 h64
          refine ⟨nB k - (i + 1), by omega, i + 1, ?_, by omega, rfl, by rw [h22, wN_s, Int.natCast_mul], by rw [h63]; exact hks.put, ?_⟩
          · rw [h64]
            simp (disch := (first | omega | (unfold inr; omega))) only [I_lit, I_nI, I_neg, I_add, I_sub, I_mul, I_div, I_le, I_lt, I_eq, I_clamp, I_clampN, I_vin]
            congr 1
          · have := RM_put hrs (s' := s63) (by rw [kst_ne (by decide), kst_ne (by decide)]; omega) (a := 5) (b := i) (v := if awb C i then 9 else k 5 i) (by omega) (by decide) (by rw [h63]; exact wr_at) (fun j hj => by rw [h63]; exact wr_off hj)
            rw [kst_ku] at this
            refine RM_kc (by decide) (fun b _ => ?_) this
            by_cases e : b = i
            · rw [if_pos e, if_pos (show b < i + 1 by omega), e]
            · rw [if_neg e]
              by_cases e2 : b < i
              · rw [if_pos e2, if_pos (show b < i + 1 by omega)]
              · rw [if_neg e2, if_neg (show ¬ b < i + 1 by omega)]
        · refine at_body (b := i) (by omega) (w := 2) (by decide) rfl ⟨hin, ?_⟩
          rw [hcl]
          show s' 85 (42 + 5 * i + 2) = I (if awb C i then 9 else k 5 i)
          rw [if_neg (by rw [c]; decide)]
          exact e85
        · show (9 : Int32) = I (if awb C i then 9 else k 5 i)
          rw [if_pos (by simpa using c)]
          rfl
      · refine at_body (b := i) (by omega) (w := 2) (by decide) rfl ⟨hin, ?_⟩
        rw [hcl]
        show Int32.toInt64 (10 - s' 85 (42 + 5 * i + 2)) = _
        rw [e85, if_neg (by rw [c]; decide), show (10 : Int32) - I (k 5 i) = I (10 - k 5 i) from by simp (disch := (first | omega | (unfold inr; omega))) only [I_lit, I_nI, I_neg, I_add, I_sub, I_mul, I_div, I_le, I_lt, I_eq, I_clamp, I_clampN, I_vin], K_I ⟨by omega, by omega⟩]
        congr 1
        omega
      · refine at_body (b := i) (by omega) (w := 2) (by decide) rfl ⟨hin, ?_⟩
        rw [hcl]
        show Int32.toInt64 (s' 85 (42 + 5 * i + 2)) = _
        rw [e85, if_pos (by simpa using c), K_I ⟨by omega, by omega⟩]
        congr 1
        omega
    · show (0 : Int32) = bi (awb C i)
      rw [awb_1] at c
      have c : awb C i = false := by simpa using c
      rw [c]
      rfl
    · show (1 : Int32) = bi (awb C i)
      rw [awb_1] at c
      rw [c]
      rfl
/-- above, below the line -/
def panN (k : Kv) : Nat × Nat := (aN k (2 ^ nB k), 10 ^ nB k)
def panA (k : Kv) (w : Int) : Int64 := if 0 ≤ w ∧ w ≤ 1 then (if w = 0 then K ((panN k).1 / Nat.gcd (panN k).2 (panN k).1 : Nat) else K ((panN k).2 / Nat.gcd (panN k).2 (panN k).1 : Nat)) else -1000000001
theorem e_panic {s : St} {A : Ab} (hR : RR s A) (x : Int32) : vc_Brt_panic x s (fun r s1 => vc_Mod_panic x s1 (fun r' s2 => r = r' ∧ RR s2 A)) := by
  obtain ⟨w, hw, rfl⟩ := I_of x
  have hC := hR.2.2.1
  have hk := hC.1
  have a := hk.1
  have hn := nB_le hk
  have en : ((nB A.1 : Nat) : Int) = A.1 9 1 := by unfold nB; omega
  obtain ⟨es, e64⟩ := shl_1 (nB A.1) (by omega)
  have vi : vp_in (1 : Int32) 78 := v_in (a := 1) ⟨by decide, by decide⟩ (by decide) rfl
  have b1 : vc_Brt_within (I w) 0 1 = vc_Brt_within (I w) (I 0) (I 1) := rfl
  have n1 : vc_Mod_isIn (I w) 0 1 = vc_Mod_isIn (I w) (I 0) (I 1) := rfl
  have ew : (I w = 0) ↔ w = 0 := by simp (disch := (first | omega | (unfold inr; omega))) only [I_lit, I_nI, I_neg, I_add, I_sub, I_mul, I_div, I_le, I_lt, I_eq, I_clamp, I_clampN, I_vin]
  have p10 : 10 ^ nB A.1 ≤ 1000000 := by
    have h2 : 10 ^ nB A.1 ≤ 10 ^ 6 := Nat.pow_le_pow_right (by decide) hn
    have h3 : (10 : Nat) ^ 6 = 1000000 := by decide
    omega
  have p1 : 0 < 10 ^ nB A.1 := Nat.pow_pos (by decide)
  have hal := aN_le hk
  have hal2 := hal (2 ^ nB A.1)
  have hg0 : 0 < Nat.gcd (10 ^ nB A.1) (aN A.1 (2 ^ nB A.1)) := Nat.gcd_pos_of_pos_left _ p1
  have hg1 : Nat.gcd (10 ^ nB A.1) (aN A.1 (2 ^ nB A.1)) ≤ 10 ^ nB A.1 := Nat.gcd_le_left _ p1
  have Kd : ∀ u v : Nat, u < 1000000000000 → 0 < v → v < 1000000000000 → K (u : Nat) / K (v : Nat) = K ((u / v : Nat) : Int) := fun u v h1 h2 h3 => by
    rw [K_div (by omega) (by omega) (by omega) (by omega), Int.natCast_ediv]
  have mod : ∀ s1 : St, RR s1 A → vc_Mod_panic (I w) s1 (fun r' s2 => panA A.1 w = r' ∧ RR s2 A) := by
    intro s1 hR1
    unfold vc_Mod_panic
    rw [n1]
    refine sp_isIn hw ⟨by decide, by decide⟩ ⟨by decide, by decide⟩ ?_
    rw [bi_f, ew]
    refine ⟨fun q => ?_, fun q => ⟨by unfold panA; rw [if_neg (of_decide_eq_false q)], hR1⟩⟩
    have q : 0 ≤ w ∧ w ≤ 1 := by simpa using q
    refine sp_copies (by decide) ?_
    intro s13 g1 g2 s14 h14
    obtain ⟨mt14, hm14⟩ := MT_begin g1 g2 h14 hR1.2.1.1
    have e1 : s14 83 (Int32.toNatClampNeg 1) = I (nB A.1 : Nat) := (hm14.1 1 (by decide)).trans (by rw [en])
    refine ⟨fun N u t => ∃ i : Nat, t = I (i : Nat) ∧ i ≤ nB A.1 ∧ N = nB A.1 - i ∧ u = K (10 ^ i : Nat), ⟨_, 0, rfl, by omega, rfl, rfl⟩, ?_⟩
    rintro N u t ⟨i, rfl, hi, hN, rfl⟩
    rw [e1]
    refine ⟨vi, fun z => ?_, fun z => ?_⟩
    · have z : i = nB A.1 := by
        revert z
        simp (disch := (first | omega | (unfold inr; omega))) only [I_lit, I_nI, I_neg, I_add, I_sub, I_mul, I_div, I_le, I_lt, I_eq, I_clamp, I_clampN, I_vin]
        omega
      subst z
      refine ⟨fun N u t s' => ∃ i : Nat, t = I (i : Nat) ∧ i ≤ 2 ^ nB A.1 ∧ N = 2 ^ nB A.1 - i ∧ u = K (aN A.1 i : Nat) ∧ MT s1 s' ∧ ∃ f, RM s' 83 (kst A.1 5 f), ⟨_, 0, rfl, Nat.zero_le _, rfl, rfl, mt14, A.1 5, by rw [kst_self]; exact hm14⟩, ?_⟩
      rintro N u t s' ⟨i, rfl, hi, hN, rfl, hmt, f, hrm⟩
      have hai := hal i
      have e2 : s' 83 (Int32.toNatClampNeg 1) = I (nB A.1 : Nat) := (hrm.1 1 (by decide)).trans (by rw [kst_ne (by decide), en])
      rw [e2, es]
      refine ⟨vi, fun z => ?_, fun z => ?_⟩
      · have z : i = 2 ^ nB A.1 := by
          revert z
          simp (disch := (first | omega | (unfold inr; omega))) only [I_lit, I_nI, I_neg, I_add, I_sub, I_mul, I_div, I_le, I_lt, I_eq, I_clamp, I_clampN, I_vin]
          omega
        subst z
        refine hmt.end hR1 ?_
        intro s28 hR28 _
        rw [lg_cmp_eq, K_z (by omega)]
        unfold panA panN
        rw [if_pos q]
        refine ⟨fun c => ?_, fun c => ⟨?_, hR28⟩⟩
        · refine ⟨fun v => v = if w = 0 then K (aN A.1 (2 ^ nB A.1) : Nat) else K (10 ^ nB A.1 : Nat), ?_, fun c2 => by show _ = _; rw [if_neg c2], fun c2 => by show _ = _; rw [if_pos c2]⟩
          rintro v rfl
          refine m_gcd (by omega) (by omega) ?_
          rw [Nat.gcd_comm]
          refine ⟨fun c2 => ?_, ?_, hR28⟩
          · have := (K_z (by omega)).mp c2
            omega
          · by_cases c2 : w = 0
            · rw [if_pos c2, if_pos c2, Kd _ _ (by omega) hg0 (by omega)]
            · rw [if_neg c2, if_neg c2, Kd _ _ (by omega) hg0 (by omega)]
        · rw [c, Nat.gcd_zero_right, K_I hw]
          by_cases c2 : w = 0
          · rw [if_pos c2, c2, Nat.zero_div]
            rfl
          · rw [if_neg c2, show w = 1 by omega, Nat.div_self p1]
            rfl
      · have z : i < 2 ^ nB A.1 := by
          revert z
          simp (disch := (first | omega | (unfold inr; omega))) only [I_lit, I_nI, I_neg, I_add, I_sub, I_mul, I_div, I_le, I_lt, I_eq, I_clamp, I_clampN, I_vin]
          omega
        refine m_weigh hC hR1.2.1.1 hmt hrm ?_
        intro s38 hmt38 hm38
        have hC5 := CC_kpn hC (I (i : Nat))
        have hw6 := wN_6 hk (I (i : Nat))
        have nx : ∀ s44 : St, MT s1 s44 → (∃ f, RM s44 83 (kst A.1 5 f)) → ∀ x43 : Int64, x43 = K (aN A.1 (i + 1) : Nat) → (∀ x46 : Int32, x46 = I (i : Int) + 1 → ∃ m47, m47 < N ∧ ∃ i : Nat, x46 = I (i : Nat) ∧ i ≤ 2 ^ nB A.1 ∧ m47 = 2 ^ nB A.1 - i ∧ x43 = K (aN A.1 i : Nat) ∧ MT s1 s44 ∧ ∃ f, RM s44 83 (kst A.1 5 f)) := by
          intro s44 h1 h2 x43 h43 x46 h46
          refine ⟨2 ^ nB A.1 - (i + 1), by omega, i + 1, ?_, by omega, rfl, h43, h1, h2⟩
          rw [h46]
          simp (disch := (first | omega | (unfold inr; omega))) only [I_lit, I_nI, I_neg, I_add, I_sub, I_mul, I_div, I_le, I_lt, I_eq, I_clamp, I_clampN, I_vin]
          congr 1
        rw [K_pos (by omega)]
        refine ⟨fun v s44 => v = K (aN A.1 (i + 1) : Nat) ∧ MT s1 s44 ∧ ∃ f, RM s44 83 (kst A.1 5 f), ?_, fun c => ⟨?_, hmt38, _, hm38⟩, fun c => ?_⟩
        · rintro v s44 ⟨rfl, h1, h2⟩
          exact nx s44 h1 h2 _ rfl
        · rw [aN_s, if_neg (fun q2 => c q2.1)]
        · refine m_all hC5 hm38 hmt38.2.2.2 ?_
          intro s50 hkg ht hh
          have hm50 : RM s50 83 (kpn A.1 (I (i : Nat))) := RM_ext (fun j => hkg.1 83 j (by decide) (by decide) (by decide)) hm38
          rw [bi_f]
          refine ⟨fun c2 => ⟨?_, hmt38.kg hkg, _, hm50⟩, fun c2 x52 h52 => ⟨?_, hmt38.kg hkg, _, hm50⟩⟩
          · rw [aN_s, if_neg (fun q2 => by rw [q2.2] at c2; cases c2)]
          · rw [h52, aN_s, if_pos ⟨Decidable.not_not.mp c, by simpa using c2⟩, K_add, Int.natCast_add]
    · have z : i < nB A.1 := by
        revert z
        simp (disch := (first | omega | (unfold inr; omega))) only [I_lit, I_nI, I_neg, I_add, I_sub, I_mul, I_div, I_le, I_lt, I_eq, I_clamp, I_clampN, I_vin]
        omega
      intro x78 h78 x79 h79
      refine ⟨nB A.1 - (i + 1), by omega, i + 1, ?_, by omega, rfl, ?_⟩
      · rw [h79]
        simp (disch := (first | omega | (unfold inr; omega))) only [I_lit, I_nI, I_neg, I_add, I_sub, I_mul, I_div, I_le, I_lt, I_eq, I_clamp, I_clampN, I_vin]
        congr 1
      · rw [h78, show (10 : Int64) = K 10 from rfl, K_mul, Nat.pow_succ, Int.natCast_mul]
        rfl
  unfold vc_Brt_panic
  rw [b1]
  refine sp_within hw ⟨by decide, by decide⟩ ⟨by decide, by decide⟩ ?_
  rw [bi_f, ew]
  refine ⟨fun q => ?_, fun q => ?_⟩
  · have q : 0 ≤ w ∧ w ≤ 1 := by simpa using q
    refine sp_become hk hR.1.1 (by omega) ?_
    intro s13 f13 hr13 x14 h14
    rw [f13 11 0 (by omega), show s 11 0 = I (A.1 9 1) from hR.1.1.1.2.1, ← en] at h14
    subst h14
    refine ⟨fun N u t => ∃ i : Nat, t = I (i : Nat) ∧ i ≤ nB A.1 ∧ N = nB A.1 - i ∧ u = K (10 ^ i : Nat), ⟨_, 0, rfl, by omega, rfl, rfl⟩, ?_⟩
    rintro N u t ⟨i, rfl, hi, hN, rfl⟩
    constructor
    · intro z
      have z : i = nB A.1 := by
        revert z
        simp (disch := (first | omega | (unfold inr; omega))) only [I_lit, I_nI, I_neg, I_add, I_sub, I_mul, I_div, I_le, I_lt, I_eq, I_clamp, I_clampN, I_vin]
        omega
      subst z
      intro x20 h20
      rw [es] at h20
      subst h20
      refine ⟨fun N u t s' => ∃ i : Nat, t = I (i : Nat) ∧ i ≤ 2 ^ nB A.1 ∧ N = 2 ^ nB A.1 - i ∧ u = K (aN A.1 i : Nat) ∧ KC s s' ∧ ∃ f, RC s' 35 (kst A.1 5 f), ⟨_, 0, rfl, Nat.zero_le _, rfl, rfl, KC_become f13, A.1 5, by rw [kst_self]; exact hr13⟩, ?_⟩
      rintro N u t s' ⟨i, rfl, hi, hN, rfl, hkc, f, hrc⟩
      have hai := hal i
      constructor
      · intro z
        have z : i = 2 ^ nB A.1 := by
          revert z
          simp (disch := (first | omega | (unfold inr; omega))) only [I_lit, I_nI, I_neg, I_add, I_sub, I_mul, I_div, I_le, I_lt, I_eq, I_clamp, I_clampN, I_vin]
          omega
        subst z
        refine c_gcd (by omega) (by omega) ?_
        have hm := mod s' (RR_KC hkc hR)
        unfold panA panN at hm
        rw [if_pos q] at hm
        rw [lg_cmp_gt, ← K0, Int64.lt_iff_toInt_lt, K_in ⟨by omega, by omega⟩, K_in ⟨by omega, by omega⟩]
        refine ⟨fun c => ⟨fun c2 => ⟨fun c3 => ?_, ?_⟩, fun c2 => ⟨fun c3 => ?_, ?_⟩⟩, fun c => absurd (by omega) c⟩
        · have := (K_z (by omega)).mp c3
          omega
        · rw [Kd _ _ (by omega) hg0 (by omega)]
          rw [if_neg c2] at hm
          exact hm
        · have := (K_z (by omega)).mp c3
          omega
        · rw [Kd _ _ (by omega) hg0 (by omega)]
          rw [if_pos c2] at hm
          exact hm
      · intro z
        have z : i < 2 ^ nB A.1 := by
          revert z
          simp (disch := (first | omega | (unfold inr; omega))) only [I_lit, I_nI, I_neg, I_add, I_sub, I_mul, I_div, I_le, I_lt, I_eq, I_clamp, I_clampN, I_vin]
          omega
        refine c_panicOf hC hR.1.1 hkc hrc ?_
        intro s34 hkc34 hr34
        have hC5 := CC_kpn hC (I (i : Nat))
        have hw6 := wN_6 hk (I (i : Nat))
        rw [K_pos (by omega)]
        refine ⟨fun v s44 => v = K (aN A.1 (i + 1) : Nat) ∧ KC s s44 ∧ ∃ f, RC s44 35 (kst A.1 5 f), ?_, fun c => ⟨?_, hkc34, _, hr34⟩, fun c => ?_⟩
        · rintro v s44 ⟨rfl, h1, h2⟩ x38 h38
          refine ⟨2 ^ nB A.1 - (i + 1), by omega, i + 1, ?_, by omega, rfl, rfl, h1, h2⟩
          rw [h38]
          simp (disch := (first | omega | (unfold inr; omega))) only [I_lit, I_nI, I_neg, I_add, I_sub, I_mul, I_div, I_le, I_lt, I_eq, I_clamp, I_clampN, I_vin]
          congr 1
        · rw [aN_s, if_neg (fun q2 => c q2.1)]
        · refine c_allReturn hC5.1 hC5.2.2.1 hr34 (by decide) ?_
          intro s42 hkl ht hh
          have hr42 : RC s42 35 (kpn A.1 (I (i : Nat))) := RC_ext (fun q j hq => hkl _ _ (by omega)) hr34
          rw [bi_f]
          refine ⟨fun c2 => ⟨?_, hkc34.tr hkl.kc, _, hr42⟩, fun c2 x44 h44 => ⟨?_, hkc34.tr hkl.kc, _, hr42⟩⟩
          · rw [aN_s, if_neg (fun q2 => by rw [q2.2] at c2; cases c2)]
          · rw [h44, aN_s, if_pos ⟨Decidable.not_not.mp c, by simpa using c2⟩, K_add, Int.natCast_add]
    · intro z
      have z : i < nB A.1 := by
        revert z
        simp (disch := (first | omega | (unfold inr; omega))) only [I_lit, I_nI, I_neg, I_add, I_sub, I_mul, I_div, I_le, I_lt, I_eq, I_clamp, I_clampN, I_vin]
        omega
      intro x45 h45 x46 h46
      refine ⟨nB A.1 - (i + 1), by omega, i + 1, ?_, by omega, rfl, ?_⟩
      · rw [h46]
        simp (disch := (first | omega | (unfold inr; omega))) only [I_lit, I_nI, I_neg, I_add, I_sub, I_mul, I_div, I_le, I_lt, I_eq, I_clamp, I_clampN, I_vin]
        congr 1
      · rw [h45, show (10 : Int64) = K 10 from rfl, K_mul, Nat.pow_succ, Int.natCast_mul]
        rfl
  · have hm := mod s hR
    unfold panA at hm
    rw [if_neg (of_decide_eq_false q)] at hm
    exact hm
