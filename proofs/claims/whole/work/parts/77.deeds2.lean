theorem lack_fear {k : Kv} {b y : Nat} {f c : Int} : lackZ (ku k 5 b f) b y c = lackZ k b y c - k 5 b / 3 + f / 3 := by
  have e : sizeZ (ku k 5 b f) b y (ku k 5 b f 7 b) true = sizeZ k b y (k 7 b) true - k 5 b / 3 + f / 3 := by
    unfold sizeZ bulkZ
    rw [ku_at, ku_ne (Or.inl (by decide)), ku_ne (Or.inl (by decide)), ku_ne (Or.inl (by decide)), ku_ne (Or.inl (by decide))]
    omega
  have e2 : ∀ w, roomZ (ku k 5 b f) y w = roomZ k y w := fun w => by simp [roomZ, ku]
  unfold lackZ
  rw [e, e2, ku_ne (Or.inl (by decide))]
  omega
def MBs (s : St) : Bst → Prop
  | none => s 82 28 = 1000000000 ∧ s 82 29 = 0
  | some q => s 82 28 = I q.1 ∧ s 82 29 = I (q.2.length : Nat) ∧ ∀ j, j < q.2.length → s 91 j = I (q.2.getD j 0 : Nat)
def MDs (s0 s : St) (k : Kv) (b : Nat) (f sz wk : Int) : Prop := (∀ p j, (p < 82 ∨ p = 84 ∨ 92 ≤ p) → s p j = s0 p j) ∧ s 82 3 = s0 82 3 ∧ RM s 83 (ku k 5 b f) ∧ s 82 30 = I sz ∧ s 82 31 = I wk
def MPs (s : St) (pre : List Nat) : Prop := ∀ j, j < pre.length → s 90 j = I (pre.getD j 0 : Nat)
theorem MB_ext {s s' : St} {b : Bst} (h : ∀ p j, (p = 82 ∧ (j = 28 ∨ j = 29)) ∨ p = 91 → s' p j = s p j) (hb : MBs s b) : MBs s' b := by
  cases b with
  | none => exact ⟨(h _ _ (by omega)).trans hb.1, (h _ _ (by omega)).trans hb.2⟩
  | some q => exact ⟨(h _ _ (by omega)).trans hb.1, (h _ _ (by omega)).trans hb.2.1, fun j hj => (h _ _ (by omega)).trans (hb.2.2 j hj)⟩
theorem m_deed {s0 : St} {k : Kv} (hk : CC k) {b y n : Nat} (hb : (b : Int) < k 9 1) (hy : (y : Int) < k 9 0) (hn : n ≤ 6) {sz wk : Int} (hsz : 0 ≤ sz ∧ sz ≤ 9) (hwk : 0 ≤ wk ∧ wk ≤ 9) : ∀ (m d : Nat) (pre : List Nat) (f h t : Int) (s : St) (bs : Bst), m < d → pre.length + m = n → (0 ≤ f ∧ f ≤ 9) → (0 ≤ h ∧ h ≤ 10 * pre.length) → (0 ≤ t ∧ t ≤ 60 * pre.length) → MDs s0 s k b f sz wk → MPs s pre → MBs s bs → bOK bs → ∀ Q : St → Prop, (∀ s', MDs s0 s' k b f sz wk → MPs s' pre → MBs s' (mdF (lackZ k b y (k 9 2) - k 5 b / 3) (sz / 3) (wk / 3) (k 9 4) m f h t pre bs) → bOK (mdF (lackZ k b y (k 9 2) - k 5 b / 3) (sz / 3) (wk / 3) (k 9 4) m f h t pre bs) → Q s') → vc_Mod_eachDeed d (I (b : Nat)) (I (y : Nat)) (I (pre.length : Nat)) (I (n : Nat)) (I h) (I t) s Q := by
  have hv := hk.1
  have a := hv.1
  have a5 := hv.2.1
  have hcy := hv.2.2.1 y hy
  have hcb0 := hv.2.2.2 b hb
  have hc : 1 ≤ k 9 4 ∧ k 9 4 ≤ 60 := by omega
  generalize eL : lackZ k b y (k 9 2) - k 5 b / 3 = L
  generalize eP : sz / 3 = P
  generalize eU : wk / 3 = U
  have hLb : ∀ f, (0 ≤ f ∧ f ≤ 9) → (CV (ku k 5 b f) ∧ lackZ (ku k 5 b f) b y (k 9 2) = L + f / 3 ∧ -200 ≤ L + f / 3 ∧ L + f / 3 ≤ 200) := by
    intro f hf
    have h1 : CV (ku k 5 b f) := CV_put hv (Or.inr (Or.inl ⟨rfl, hf.1, hf.2⟩))
    have h2 := lack_fear (k := k) (b := b) (y := y) (f := f) (c := k 9 2)
    have h3 := lack_in (h1.2.2.2 b (by rw [ku_ne (Or.inl (by decide))]; exact hb)) (h1.2.2.1 y (by rw [ku_ne (Or.inl (by decide))]; exact hy)) (c := k 9 2) ⟨by omega, by omega⟩ (by rw [ku_ne (Or.inl (by decide))]; omega)
    refine ⟨h1, by omega, by omega, by omega⟩
  have vi4 : vp_in (4 : Int32) 78 := v_in (a := 4) ⟨by decide, by decide⟩ (by decide) rfl
  -- what is lacking, reckoned
  have front : ∀ (d : Nat) (pre : List Nat) (f h : Int) (s : St), (0 ≤ f ∧ f ≤ 9) → MDs s0 s k b f sz wk → ∀ R : Int32 → Prop, R (I (L + f / 3)) → vc_Mod_sizeNow (I (b : Nat)) (I (y : Nat)) 1 s (fun x10 => vc_Mod_hour s (fun x12 => vc_Mod_roomOf (I (y : Nat)) x12 s (fun x14 => R (x10 - x14)))) := by
    intro d pre f h s hf hmd R hR
    obtain ⟨h1, h2, h3⟩ := hLb f hf
    have k9 : ∀ i, ku k 5 b f 9 i = k 9 i := fun i => ku_ne (Or.inl (by decide))
    have hyy : (y : Int) < ku k 5 b f 9 0 := by rw [k9]; exact hy
    have hbb : (b : Int) < ku k 5 b f 9 1 := by rw [k9]; exact hb
    have hs := size_in (h1.2.2.2 b hbb) y (ku k 5 b f 7 b) true
    refine sp_msizeNow hmd.2.2.1 hbb (by omega) hyy (by omega) (h1.2.2.1 y hyy) (h1.2.2.2 b hbb) true rfl ?_
    refine hour_ok h1 hmd.2.2.1 ?_
    rw [k9]
    have hw := water_in (c := k 9 2) (r := k 9 3) ⟨by omega, by omega⟩ ⟨by omega, by omega⟩
    have hr := room_in (h1.2.2.1 y hyy) hw.1
    refine sp_mroom hmd.2.2.1 hyy (by omega) (h1.2.2.1 y hyy) (by rw [k9]; omega) ⟨by omega, by omega⟩ ?_
    rw [k9, I_sub]
    have e : sizeZ (ku k 5 b f) b y (ku k 5 b f 7 b) true - roomZ (ku k 5 b f) y (k 9 2 / 60 * k 9 3) = L + f / 3 := by
      rw [← h2]
      unfold lackZ
      rw [k9]
    rw [e]
    exact hR
  -- a find
  have hit : ∀ (m : Nat) (pre : List Nat) (f h t : Int) (s : St) (bs : Bst), pre.length ≤ 6 → (0 ≤ t ∧ t ≤ 60 * pre.length) → L + f / 3 ≤ h → MDs s0 s k b f sz wk → MPs s pre → MBs s bs → bOK bs → ∀ Q : St → Prop, (∀ s', MDs s0 s' k b f sz wk → MPs s' pre → MBs s' (mdF L P U (k 9 4) m f h t pre bs) → bOK (mdF L P U (k 9 4) m f h t pre bs) → Q s') → ((I t < (s 82 28) → (∀ s57 : St, s57 = wr s 82 28 (I t) → (∀ s58 : St, s58 = wr s57 82 29 (I (pre.length : Nat)) → (∃ I61 : Nat → Int32 → St → Prop, (∃ n62, I61 n62 0 s58) ∧ ∀ (nI61 : Nat) (x59 : Int32) (s60 : St), I61 nI61 x59 s60 → ((I (pre.length : Nat) ≤ x59 → Q s60) ∧ (¬ I (pre.length : Nat) ≤ x59 → (vp_in x59 6 ∧ (vp_in x59 6 ∧ (∀ s66 : St, s66 = wr s60 91 (Int32.toNatClampNeg x59) (s60 90 (Int32.toNatClampNeg x59)) → (∀ x67 : Int32, x67 = x59 + 1 → ∃ m68, m68 < nI61 ∧ I61 m68 x67 s66)))))))))) ∧ (¬ I t < (s 82 28) → Q s)) := by
    intro m pre f h t s bs hl ht hle hmd hmp hmb hbo Q hQ
    rw [mdF_hit hle] at hQ
    have e1 : (I t < s 82 28) ↔ t < bm bs := by
      cases bs with
      | none =>
        rw [hmb.1]
        show I t < 1000000000 ↔ t < 1000000000
        simp (disch := (first | omega | (unfold inr; omega))) only [I_lit, I_nI, I_neg, I_add, I_sub, I_mul, I_div, I_le, I_lt, I_eq, I_clamp, I_clampN, I_vin]
      | some q =>
        have := hbo q rfl
        rw [hmb.1]
        show I t < I q.1 ↔ t < q.1
        simp (disch := (first | omega | (unfold inr; omega))) only [I_lit, I_nI, I_neg, I_add, I_sub, I_mul, I_div, I_le, I_lt, I_eq, I_clamp, I_clampN, I_vin]
    rw [e1]
    refine ⟨fun c => ?_, fun c => ?_⟩
    · rw [if_pos c] at hQ
      intro s57 h57 s58 h58
      have f58 : ∀ p j, (p ≠ 82 ∨ (j ≠ 28 ∧ j ≠ 29)) → s58 p j = s p j := by
        intro p j hpj
        rw [h58, h57]
        unfold wr
        repeat' split
        all_goals first | rfl | (exfalso; omega)
      refine ⟨fun N t' s' => ∃ i : Nat, t' = I (i : Nat) ∧ i ≤ pre.length ∧ N = pre.length - i ∧ (∀ p j, p ≠ 91 → s' p j = s58 p j) ∧ ∀ j, j < i → s' 91 j = I (pre.getD j 0 : Nat), ⟨_, 0, rfl, by omega, rfl, fun _ _ _ => rfl, fun j hj => absurd hj (Nat.not_lt_zero j)⟩, ?_⟩
      rintro N t' s' ⟨i, rfl, hi, hN, g1, g2⟩
      constructor
      · intro z
        have z : i = pre.length := by
          revert z
          simp (disch := (first | omega | (unfold inr; omega))) only [I_lit, I_nI, I_neg, I_add, I_sub, I_mul, I_div, I_le, I_lt, I_eq, I_clamp, I_clampN, I_vin]
          omega
        subst z
        obtain ⟨d1, d2, d3, d4, d5⟩ := hmd
        refine hQ s' ⟨fun p j hp => (g1 p j (by omega)).trans ((f58 p j (by omega)).trans (d1 p j hp)), (g1 _ _ (by decide)).trans ((f58 _ _ (by omega)).trans d2), RM_ext (fun j => (g1 _ _ (by decide)).trans (f58 _ _ (by omega))) d3, (g1 _ _ (by decide)).trans ((f58 _ _ (by omega)).trans d4), (g1 _ _ (by decide)).trans ((f58 _ _ (by omega)).trans d5)⟩ (fun j hj => (g1 _ _ (by decide)).trans ((f58 _ _ (by omega)).trans (hmp j hj))) ⟨?_, ?_, fun j hj => g2 j hj⟩ (fun q hq => by cases hq; exact ⟨⟨ht.1, show t ≤ 1000 by omega⟩, hl⟩)
        · rw [g1 _ _ (by decide), h58, wr_off (by decide), h57, wr_at]
        · rw [g1 _ _ (by decide), h58, wr_at]
      · intro z
        have z : i < pre.length := by
          revert z
          simp (disch := (first | omega | (unfold inr; omega))) only [I_lit, I_nI, I_neg, I_add, I_sub, I_mul, I_div, I_le, I_lt, I_eq, I_clamp, I_clampN, I_vin]
          omega
        rw [I_clampN (by omega)]
        have hin : vp_in (I (i : Int)) 6 := I_vinN (by omega) (by decide)
        refine ⟨hin, hin, ?_⟩
        intro s66 h66 x67 h67
        refine ⟨pre.length - (i + 1), by omega, i + 1, ?_, by omega, rfl, fun p j hp => by rw [h66, wr_ne hp]; exact g1 p j hp, fun j hj => ?_⟩
        · rw [h67]
          simp (disch := (first | omega | (unfold inr; omega))) only [I_lit, I_nI, I_neg, I_add, I_sub, I_mul, I_div, I_le, I_lt, I_eq, I_clamp, I_clampN, I_vin]
          congr 1
        · rw [h66]
          by_cases e : j = i
          · subst e
            rw [wr_at, g1 _ _ (by decide), f58 _ _ (by omega)]
            exact hmp j z
          · rw [wr_off e]
            exact g2 j (by omega)
    · rw [if_neg c] at hQ
      exact hQ s hmd hmp hmb hbo
  intro m
  induction m with
  | zero =>
    intro d pre f h t s bs hd hp hf hh ht hmd hmp hmb hbo Q hQ
    obtain ⟨d, rfl⟩ : ∃ d', d = d' + 1 := ⟨d - 1, by omega⟩
    obtain ⟨h1, h2, h3⟩ := hLb f hf
    unfold vc_Mod_eachDeed
    refine front d pre f h s hf hmd (fun v => ((I h < v → _) ∧ (¬ I h < v → _))) ?_
    rw [show (I h < I (L + f / 3)) ↔ h < L + f / 3 from by simp (disch := (first | omega | (unfold inr; omega))) only [I_lit, I_nI, I_neg, I_add, I_sub, I_mul, I_div, I_le, I_lt, I_eq, I_clamp, I_clampN, I_vin], show (I ((pre.length : Nat) : Int) = I (n : Nat)) ↔ pre.length = n from by
      simp (disch := (first | omega | (unfold inr; omega))) only [I_lit, I_nI, I_neg, I_add, I_sub, I_mul, I_div, I_le, I_lt, I_eq, I_clamp, I_clampN, I_vin]
      omega]
    refine ⟨fun c => ⟨fun q => absurd (by omega) q, fun _ => ?_⟩, fun c => hit 0 pre f h t s bs (by omega) ht (by omega) hmd hmp hmb hbo Q hQ⟩
    have hQ := hQ s
    have e : mdF L P U (k 9 4) 0 f h t pre bs = bs := by
      show (if L + f / 3 ≤ h then (if t < bm bs then some (t, pre) else bs) else bs) = bs
      rw [if_neg (show ¬ L + f / 3 ≤ h by omega)]
    rw [e] at hQ
    exact hQ hmd hmp hmb hbo
  | succ m ih =>
    intro d pre f h t s bs hd hp hf hh ht hmd hmp hmb hbo Q hQ
    obtain ⟨d, rfl⟩ : ∃ d', d = d' + 1 := ⟨d - 1, by omega⟩
    obtain ⟨h1, h2, h3⟩ := hLb f hf
    unfold vc_Mod_eachDeed
    refine front d pre f h s hf hmd (fun v => ((I h < v → _) ∧ (¬ I h < v → _))) ?_
    rw [show (I h < I (L + f / 3)) ↔ h < L + f / 3 from by simp (disch := (first | omega | (unfold inr; omega))) only [I_lit, I_nI, I_neg, I_add, I_sub, I_mul, I_div, I_le, I_lt, I_eq, I_clamp, I_clampN, I_vin], show (I ((pre.length : Nat) : Int) = I (n : Nat)) ↔ pre.length = n from by
      simp (disch := (first | omega | (unfold inr; omega))) only [I_lit, I_nI, I_neg, I_add, I_sub, I_mul, I_div, I_le, I_lt, I_eq, I_clamp, I_clampN, I_vin]
      omega]
    refine ⟨fun c => ⟨fun _ => ?_, fun q => absurd q (by omega)⟩, fun c => hit (m + 1) pre f h t s bs (by omega) ht (by omega) hmd hmp hmb hbo Q hQ⟩
    rw [mdF_s, if_neg (show ¬ L + f / 3 ≤ h by omega)] at hQ
    have hbb : (b : Int) < ku k 5 b f 9 1 := by rw [ku_ne (Or.inl (by decide))]; exact hb
    refine sp_of hmd.2.2.1 hbb (by omega) (w := 2) (by decide) rfl ?_
    rw [show ku k 5 b f (3 + 2) b = f from ku_at]
    refine ⟨fun N x s' => ∃ i : Nat, x = I (i : Nat) ∧ i ≤ 4 ∧ N = 4 - i ∧ MDs s0 s' k b f sz wk ∧ MPs s' pre ∧ MBs s' ((List.range i).foldl (stp L P U (k 9 4) m f h t pre) bs) ∧ bOK ((List.range i).foldl (stp L P U (k 9 4) m f h t pre) bs), ⟨_, 0, rfl, by omega, rfl, hmd, hmp, hmb, hbo⟩, ?_⟩
    rintro N x s' ⟨i, rfl, hi, hN, q1, q2, q3, q4⟩
    constructor
    · intro z
      have z : i = 4 := by
        revert z
        simp (disch := (first | omega | (unfold inr; omega))) only [I_lit, I_nI, I_neg, I_add, I_sub, I_mul, I_div, I_le, I_lt, I_eq, I_clamp, I_clampN, I_vin]
        omega
      subst z
      exact hQ s' q1 q2 q3 q4
    · intro z
      have z : i < 4 := by
        revert z
        simp (disch := (first | omega | (unfold inr; omega))) only [I_lit, I_nI, I_neg, I_add, I_sub, I_mul, I_div, I_le, I_lt, I_eq, I_clamp, I_clampN, I_vin]
        omega
      have hin : vp_in (I ((pre.length : Nat) : Int)) 6 := I_vinN (by omega) (by decide)
      have hcl : (I ((pre.length : Nat) : Int)).toNatClampNeg = pre.length := I_clampN (by omega)
      have i0 : (I (i : Int) = 0) ↔ i = 0 := by
        simp (disch := (first | omega | (unfold inr; omega))) only [I_lit, I_nI, I_neg, I_add, I_sub, I_mul, I_div, I_le, I_lt, I_eq, I_clamp, I_clampN, I_vin]
        omega
      have i1 : (I (i : Int) = 1) ↔ i = 1 := by
        simp (disch := (first | omega | (unfold inr; omega))) only [I_lit, I_nI, I_neg, I_add, I_sub, I_mul, I_div, I_le, I_lt, I_eq, I_clamp, I_clampN, I_vin]
        omega
      have i2 : (I (i : Int) = 2) ↔ i = 2 := by
        simp (disch := (first | omega | (unfold inr; omega))) only [I_lit, I_nI, I_neg, I_add, I_sub, I_mul, I_div, I_le, I_lt, I_eq, I_clamp, I_clampN, I_vin]
        omega
      have i3 : (I (i : Int) = 3) ↔ i = 3 := by
        simp (disch := (first | omega | (unfold inr; omega))) only [I_lit, I_nI, I_neg, I_add, I_sub, I_mul, I_div, I_le, I_lt, I_eq, I_clamp, I_clampN, I_vin]
        omega
      have j2 : (2 ≤ I (i : Int)) ↔ 2 ≤ i := by
        simp (disch := (first | omega | (unfold inr; omega))) only [I_lit, I_nI, I_neg, I_add, I_sub, I_mul, I_div, I_le, I_lt, I_eq, I_clamp, I_clampN, I_vin]
        omega
      rw [hcl, i0, i1, i2, i3, j2]
      refine ⟨hin, ?_⟩
      intro s26 h26
      refine at_body (b := b) (by omega) (w := 2) (by decide) rfl ?_
      rw [I_clampN (by omega)]
      have hf2 : 0 ≤ fD f i ∧ fD f i ≤ 9 := by
        unfold fD
        repeat' split
        all_goals omega
      refine ⟨fun v => v = I (fD f i), ?_, fun c2 => ⟨fun c3 => ?_, fun c3 => ?_⟩, fun c2 => ?_⟩
      · rintro v rfl
        refine ⟨I_vinN (by omega) (by decide), ?_⟩
        intro s32 h32
        have f32 : ∀ p j, p ≠ 83 → (p ≠ 90 ∨ j ≠ pre.length) → s32 p j = s' p j := by
          intro p j hp hpj
          rw [h32, wr_ne hp, h26]
          unfold wr
          repeat' split
          all_goals first | rfl | (exfalso; omega)
        have f83 : ∀ j, j ≠ 42 + 5 * b + 2 → s32 83 j = s' 83 j := fun j hj => by rw [h32, wr_off hj, h26, wr_ne (by decide)]
        obtain ⟨d1, d2, d3, d4, d5⟩ := q1
        have hm32 : RM s32 83 (ku k 5 b (fD f i)) := by
          have := RM_put d3 (s' := s32) (by rw [ku_ne (Or.inl (by decide)), ku_ne (Or.inl (by decide))]; omega) (a := 5) (b := b) (v := fD f i) (by omega) (by decide) (by rw [h32]; exact wr_at) f83
          rw [ku_ku] at this
          exact this
        have hmd32 : MDs s0 s32 k b (fD f i) sz wk := ⟨fun p j hp => (f32 p j (by omega) (by omega)).trans (d1 p j hp), (f32 _ _ (by decide) (by omega)).trans d2, hm32, (f32 _ _ (by decide) (by omega)).trans d4, (f32 _ _ (by decide) (by omega)).trans d5⟩
        have hlen : (pre ++ [i]).length = pre.length + 1 := by rw [List.length_append]; rfl
        have hmp32 : MPs s32 (pre ++ [i]) := by
          intro j hj
          rw [hlen] at hj
          by_cases ej : j = pre.length
          · subst ej
            rw [h32, wr_ne (by decide), h26, wr_at, getD_r]
          · rw [f32 _ _ (by decide) (Or.inr ej), getD_l (by omega)]
            exact q2 j (by omega)
        have hmb32 := MB_ext (s := s') (s' := s32) (fun p j hpj => f32 p j (by omega) (by omega)) q3
        have e4 : s32 83 (Int32.toNatClampNeg 4) = I (k 9 4) := (hm32.1 4 (by decide)).trans (by rw [ku_ne (Or.inl (by decide))])
        have hP3 : 0 ≤ P ∧ P ≤ 3 := by omega
        have hU3 : 0 ≤ U ∧ U ≤ 3 := by omega
        rw [show s32 82 30 = _ from hmd32.2.2.2.1, show s32 82 31 = _ from hmd32.2.2.2.2, e4, show I sz / 3 = I P from by rw [← eP]; simp (disch := (first | omega | (unfold inr; omega))) only [I_lit, I_nI, I_neg, I_add, I_sub, I_mul, I_div, I_le, I_lt, I_eq, I_clamp, I_clampN, I_vin], show I wk / 3 = I U from by rw [← eU]; simp (disch := (first | omega | (unfold inr; omega))) only [I_lit, I_nI, I_neg, I_add, I_sub, I_mul, I_div, I_le, I_lt, I_eq, I_clamp, I_clampN, I_vin]]
        refine ⟨fun v => v = I (hD P U i), ?_, fun c2 => ⟨fun c3 => ⟨fun c4 => ?_, fun c4 => ?_⟩, fun c3 => ?_⟩, fun c2 => ?_⟩
        · rintro v rfl
          refine ⟨fun v => v = I (tD (k 9 4) i), ?_, fun c2 => ⟨fun c3 => ?_, fun c3 => ⟨vi4, ?_⟩⟩, fun c2 => ?_⟩
          · rintro v rfl
            have ey : I ((pre.length : Nat) : Int) + 1 = I (((pre ++ [i]).length : Nat) : Int) := by
              rw [hlen]
              simp (disch := (first | omega | (unfold inr; omega))) only [I_lit, I_nI, I_neg, I_add, I_sub, I_mul, I_div, I_le, I_lt, I_eq, I_clamp, I_clampN, I_vin]
              congr 1
            have ht2 : 0 ≤ tD (k 9 4) i ∧ tD (k 9 4) i ≤ 60 := by
              unfold tD
              repeat' split
              all_goals omega
            have hh2 : 0 ≤ hD P U i ∧ hD P U i ≤ 3 := by
              unfold hD
              repeat' split
              all_goals omega
            rw [ey, show I h + I (hD P U i) = I (h + hD P U i) from by simp (disch := (first | omega | (unfold inr; omega))) only [I_lit, I_nI, I_neg, I_add, I_sub, I_mul, I_div, I_le, I_lt, I_eq, I_clamp, I_clampN, I_vin], show I t + I (tD (k 9 4) i) = I (t + tD (k 9 4) i) from by simp (disch := (first | omega | (unfold inr; omega))) only [I_lit, I_nI, I_neg, I_add, I_sub, I_mul, I_div, I_le, I_lt, I_eq, I_clamp, I_clampN, I_vin]]
            refine ih d (pre ++ [i]) _ _ _ s32 _ (by omega) (by omega) hf2 (by rw [hlen]; omega) (by rw [hlen]; omega) hmd32 hmp32 hmb32 q4 _ ?_
            intro s37 r1 r2 r3 r4
            refine at_body (b := b) (by omega) (w := 2) (by decide) rfl ⟨I_vinN (by omega) (by decide), ?_⟩
            rw [I_clampN (by omega)]
            intro s41 h41 x42 h42
            have es : (List.range (i + 1)).foldl (stp L P U (k 9 4) m f h t pre) bs = stp L P U (k 9 4) m f h t pre ((List.range i).foldl (stp L P U (k 9 4) m f h t pre) bs) i := by
              rw [List.range_succ, List.foldl_append]
              rfl
            obtain ⟨u1, u2, u3, u4, u5⟩ := r1
            refine ⟨4 - (i + 1), by omega, i + 1, ?_, by omega, rfl, ⟨fun p j hp => by rw [h41, wr_ne (by omega)]; exact u1 p j hp, by rw [h41, wr_ne (by decide)]; exact u2, ?_, by rw [h41, wr_ne (by decide)]; exact u4, by rw [h41, wr_ne (by decide)]; exact u5⟩, fun j hj => ?_, ?_, ?_⟩
            · rw [h42]
              simp (disch := (first | omega | (unfold inr; omega))) only [I_lit, I_nI, I_neg, I_add, I_sub, I_mul, I_div, I_le, I_lt, I_eq, I_clamp, I_clampN, I_vin]
              congr 1
            · have := RM_put u3 (s' := s41) (by rw [ku_ne (Or.inl (by decide)), ku_ne (Or.inl (by decide))]; omega) (a := 5) (b := b) (v := f) (by omega) (by decide) (by rw [h41]; exact wr_at) (fun j hj => by rw [h41]; exact wr_off hj)
              rw [ku_ku] at this
              exact this
            · rw [h41, wr_ne (by decide), r2 j (by omega), getD_l hj]
            · rw [es]
              exact MB_ext (fun p j hpj => by rw [h41]; exact wr_ne (by omega)) r3
            · rw [es]
              exact r4
          · show (2 : Int32) = I (tD (k 9 4) i)
            have : i = 3 := by omega
            subst this
            rfl
          · show I (k 9 4) = I (tD (k 9 4) i)
            subst c3
            rfl
          · show (10 : Int32) = I (tD (k 9 4) i)
            unfold tD
            rw [if_pos (by omega)]
            rfl
        · show (0 : Int32) = I (hD P U i)
          unfold hD
          rw [if_neg c2, if_neg c3, if_neg c4]
          rfl
        · show (1 : Int32) = I (hD P U i)
          subst c4
          rfl
        · show I U = I (hD P U i)
          subst c3
          rfl
        · show I P = I (hD P U i)
          subst c2
          rfl
      · show I f = I (fD f i)
        unfold fD
        rw [if_neg c2, if_neg c3]
      · subst c3
        rw [show I f + 1 = I (f + 1) from by simp (disch := (first | omega | (unfold inr; omega))) only [I_lit, I_nI, I_neg, I_add, I_sub, I_mul, I_div, I_le, I_lt, I_eq, I_clamp, I_clampN, I_vin]]
        exact sp_mleast (a := 9) ⟨by decide, by decide⟩ ⟨by omega, by omega⟩ rfl
      · subst c2
        rw [show I f - 1 = I (f - 1) from by simp (disch := (first | omega | (unfold inr; omega))) only [I_lit, I_nI, I_neg, I_add, I_sub, I_mul, I_div, I_le, I_lt, I_eq, I_clamp, I_clampN, I_vin]]
        exact sp_mmost (a := 0) ⟨by decide, by decide⟩ ⟨by omega, by omega⟩ rfl
