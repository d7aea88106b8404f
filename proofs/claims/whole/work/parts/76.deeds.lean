/-! RESCUE -/
abbrev Bst : Type := Option (Int × List Nat)
def bm : Bst → Int
  | none => 1000000000
  | some q => q.1
def fD (f : Int) (i : Nat) : Int := if i = 2 then max 0 (f - 1) else if i = 3 then min 9 (f + 1) else f
def hD (P U : Int) (i : Nat) : Int := if i = 0 then P else if i = 1 then U else if i = 3 then 1 else 0
def tD (c : Int) (i : Nat) : Int := if i < 2 then 10 else if i = 2 then c else 2
/-- all deeds from here on: m more at most; FEAR, HELP, MINUTES, the deeds so far, the best so far -/
def mdF (L P U c : Int) : Nat → Int → Int → Int → List Nat → Bst → Bst
  | 0, f, h, t, pre, b => if L + f / 3 ≤ h then (if t < bm b then some (t, pre) else b) else b
  | m + 1, f, h, t, pre, b => if L + f / 3 ≤ h then (if t < bm b then some (t, pre) else b) else (List.range 4).foldl (fun b i => mdF L P U c m (fD f i) (h + hD P U i) (t + tD c i) (pre ++ [i]) b) b
def stp (L P U c : Int) (m : Nat) (f h t : Int) (pre : List Nat) (b : Bst) (i : Nat) : Bst := mdF L P U c m (fD f i) (h + hD P U i) (t + tD c i) (pre ++ [i]) b
theorem mdF_s (L P U c : Int) (m : Nat) (f h t : Int) (pre : List Nat) (b : Bst) : mdF L P U c (m + 1) f h t pre b = if L + f / 3 ≤ h then (if t < bm b then some (t, pre) else b) else (List.range 4).foldl (stp L P U c m f h t pre) b := rfl
theorem mdF_hit {L P U c : Int} {m : Nat} {f h t : Int} {pre : List Nat} {b : Bst} (h1 : L + f / 3 ≤ h) : mdF L P U c m f h t pre b = if t < bm b then some (t, pre) else b := by
  cases m with
  | zero => show (if L + f / 3 ≤ h then (if t < bm b then some (t, pre) else b) else b) = _; rw [if_pos h1]
  | succ m => rw [mdF_s, if_pos h1]
theorem md_keep {L P U c : Int} (hc : 1 ≤ c) : ∀ (m : Nat) (f h t : Int) (pre : List Nat) (b : Bst), bm b ≤ t → mdF L P U c m f h t pre b = b := by
  intro m
  induction m with
  | zero =>
    intro f h t pre b hb
    show (if L + f / 3 ≤ h then (if t < bm b then some (t, pre) else b) else b) = b
    rw [if_neg (show ¬ t < bm b by omega)]
    split <;> rfl
  | succ m ih =>
    intro f h t pre b hb
    rw [mdF_s, if_neg (show ¬ t < bm b by omega)]
    split
    · rfl
    · have e : ∀ i, stp L P U c m f h t pre b i = b := fun i => by
        unfold stp
        refine ih _ _ _ _ _ ?_
        unfold tD
        repeat' split
        all_goals omega
      show stp L P U c m f h t pre (stp L P U c m f h t pre (stp L P U c m f h t pre (stp L P U c m f h t pre b 0) 1) 2) 3 = b
      rw [e, e, e, e]
def bOK (b : Bst) : Prop := ∀ q, b = some q → (0 ≤ q.1 ∧ q.1 ≤ 1000) ∧ q.2.length ≤ 6
def CBs (s : St) : Bst → Prop
  | none => s 61 3 = 0 ∧ s 61 2 = 2147483647 ∧ s 61 1 = 0
  | some q => s 61 3 = 1 ∧ s 61 2 = I q.1 ∧ s 61 1 = I (q.2.length : Nat) ∧ ∀ j, j < q.2.length → s 62 j = I (q.2.getD j 0 : Nat)
def CSs (s0 s : St) (n : Nat) (L P U c : Int) : Prop := (∀ p j, p ≠ 61 → p ≠ 62 → p ≠ 63 → s p j = s0 p j) ∧ s 61 5 = I (n : Nat) ∧ s 61 6 = I L ∧ s 61 7 = I P ∧ s 61 8 = I U ∧ s 61 9 = I c
def CPs (s : St) (pre : List Nat) : Prop := ∀ j, j < pre.length → s 63 j = I (pre.getD j 0 : Nat)
theorem c_pre {s0 s : St} {n : Nat} {L P U c f h t : Int} {pre : List Nat} {b : Bst} (hL : -200 ≤ L ∧ L ≤ 200) (hl : pre.length ≤ 6) (hf : 0 ≤ f ∧ f ≤ 9) (hh : 0 ≤ h ∧ h ≤ 10 * pre.length) (ht : 0 ≤ t ∧ t ≤ 60 * pre.length) (hcs : CSs s0 s n L P U c) (hcp : CPs s pre) (hcb : CBs s b) (hb : bOK b) {Q : St → Prop} {B : Prop} (h1 : bm b ≤ t → Q s) (h2 : t < bm b → L + f / 3 ≤ h → ∀ s', CSs s0 s' n L P U c → CPs s' pre → CBs s' (some (t, pre)) → Q s') (h3 : t < bm b → h < L + f / 3 → B) : ((I t < (s 61 2) → ((I h < ((s 61 6) + (I f / 3)) → B) ∧ (¬ I h < ((s 61 6) + (I f / 3)) → (∀ s25 : St, s25 = wr s 61 3 1 → (∀ s26 : St, s26 = wr s25 61 2 (I t) → (∀ s27 : St, s27 = wr s26 61 1 (I (pre.length : Nat)) → (cpok 0 0 6 6 6 ∧ (∀ s29 : St, s29 = wcp s27 (61 + 2) (61 + 1) (Int32.toNatClampNeg 0) (Int32.toNatClampNeg 0) (Int32.toNatClampNeg 6) → Q s29)))))))) ∧ (¬ I t < (s 61 2) → Q s)) := by
  have e1 : (I t < s 61 2) ↔ t < bm b := by
    cases b with
    | none =>
      rw [hcb.2.1]
      show I t < 2147483647 ↔ t < 1000000000
      simp (disch := (first | omega | (unfold inr; omega))) only [I_lit, I_nI, I_neg, I_add, I_sub, I_mul, I_div, I_le, I_lt, I_eq, I_clamp, I_clampN, I_vin]
      omega
    | some q =>
      have := hb q rfl
      rw [hcb.2.1]
      show I t < I q.1 ↔ t < q.1
      simp (disch := (first | omega | (unfold inr; omega))) only [I_lit, I_nI, I_neg, I_add, I_sub, I_mul, I_div, I_le, I_lt, I_eq, I_clamp, I_clampN, I_vin]
  obtain ⟨k1, k2, k3, k4, k5, k6⟩ := hcs
  rw [e1, k3, show (I h < I L + I f / 3) ↔ h < L + f / 3 from by simp (disch := (first | omega | (unfold inr; omega))) only [I_lit, I_nI, I_neg, I_add, I_sub, I_mul, I_div, I_le, I_lt, I_eq, I_clamp, I_clampN, I_vin]]
  refine ⟨fun q => ⟨fun q2 => h3 q q2, fun q2 => ?_⟩, fun q => h1 (by omega)⟩
  intro s25 h25 s26 h26 s27 h27
  refine ⟨cp_ok 6 rfl (by decide), ?_⟩
  intro s29 h29
  rw [show Int32.toNatClampNeg 0 = 0 from rfl, show Int32.toNatClampNeg 6 = 6 from rfl] at h29
  have f29 : ∀ p j, p ≠ 62 → (p ≠ 61 ∨ (j ≠ 1 ∧ j ≠ 2 ∧ j ≠ 3)) → s29 p j = s p j := by
    intro p j hp hj
    rw [h29, wcp_ne (by omega), h27, h26, h25]
    unfold wr
    repeat' split
    all_goals first | rfl | (exfalso; omega)
  refine h2 q (by omega) s29 ⟨fun p j p1 p2 p3 => (f29 p j p2 (Or.inl p1)).trans (k1 p j p1 p2 p3), (f29 _ _ (by decide) (by omega)).trans k2, (f29 _ _ (by decide) (by omega)).trans k3, (f29 _ _ (by decide) (by omega)).trans k4, (f29 _ _ (by decide) (by omega)).trans k5, (f29 _ _ (by decide) (by omega)).trans k6⟩ (fun j hj => (f29 _ _ (by decide) (by omega)).trans (hcp j hj)) ⟨?_, ?_, ?_, fun j hj => ?_⟩
  · rw [h29, wcp_ne (by decide), h27, wr_off (by decide), h26, wr_off (by decide), h25, wr_at]
  · rw [h29, wcp_ne (by decide), h27, wr_off (by decide), h26, wr_at]
  · rw [h29, wcp_ne (by decide), h27, wr_at]
  · rw [h29]
    show wcp s27 63 62 0 0 6 62 j = _
    rw [wcp_at (show j < 6 from Nat.lt_of_lt_of_le hj hl), h27, wr_ne (by decide), h26, wr_ne (by decide), h25, wr_ne (by decide)]
    exact hcp j hj
theorem c_search {s0 : St} {n : Nat} {L P U c : Int} (hn : n ≤ 6) (hL : -200 ≤ L ∧ L ≤ 200) (hP : 0 ≤ P ∧ P ≤ 3) (hU : 0 ≤ U ∧ U ≤ 3) (hc : 1 ≤ c ∧ c ≤ 60) : ∀ (m d : Nat) (pre : List Nat) (f h t : Int) (s : St) (b : Bst), m < d → pre.length + m = n → (0 ≤ f ∧ f ≤ 9) → (0 ≤ h ∧ h ≤ 10 * pre.length) → (0 ≤ t ∧ t ≤ 60 * pre.length) → CSs s0 s n L P U c → CPs s pre → CBs s b → bOK b → ∀ Q : St → Prop, (∀ s', CSs s0 s' n L P U c → CPs s' pre → CBs s' (mdF L P U c m f h t pre b) → bOK (mdF L P U c m f h t pre b) → Q s') → vc_Res_search d 61 (I (pre.length : Nat)) (I f) (I h) (I t) s Q := by
  intro m
  induction m with
  | zero =>
    intro d pre f h t s b hd hp hf hh ht hcs hcp hcb hb Q hQ
    obtain ⟨d, rfl⟩ : ∃ d', d = d' + 1 := ⟨d - 1, by omega⟩
    unfold vc_Res_search
    refine c_pre hL (by omega) hf hh ht hcs hcp hcb hb (fun q => ?_) (fun q1 q2 s' g1 g2 g3 => ?_) (fun q1 q2 => ?_)
    · have hQ := hQ s
      rw [md_keep hc.1 _ _ _ _ _ _ q] at hQ
      exact hQ hcs hcp hcb hb
    · have hQ := hQ s'
      rw [mdF_hit q2, if_pos q1] at hQ
      exact hQ g1 g2 g3 (fun q hq => by cases hq; exact ⟨⟨ht.1, show t ≤ 1000 by omega⟩, show pre.length ≤ 6 by omega⟩)
    · rw [hcs.2.1]
      refine ⟨fun q => ?_, fun q => ?_⟩
      · exfalso
        revert q
        simp (disch := (first | omega | (unfold inr; omega))) only [I_lit, I_nI, I_neg, I_add, I_sub, I_mul, I_div, I_le, I_lt, I_eq, I_clamp, I_clampN, I_vin]
        omega
      · have hQ := hQ s
        have e : mdF L P U c 0 f h t pre b = b := by
          show (if L + f / 3 ≤ h then (if t < bm b then some (t, pre) else b) else b) = b
          rw [if_neg (show ¬ L + f / 3 ≤ h by omega)]
        rw [e] at hQ
        exact hQ hcs hcp hcb hb
  | succ m ih =>
    intro d pre f h t s b hd hp hf hh ht hcs hcp hcb hb Q hQ
    obtain ⟨d, rfl⟩ : ∃ d', d = d' + 1 := ⟨d - 1, by omega⟩
    unfold vc_Res_search
    refine c_pre hL (by omega) hf hh ht hcs hcp hcb hb (fun q => ?_) (fun q1 q2 s' g1 g2 g3 => ?_) (fun q1 q2 => ?_)
    · have hQ := hQ s
      rw [md_keep hc.1 _ _ _ _ _ _ q] at hQ
      exact hQ hcs hcp hcb hb
    · have hQ := hQ s'
      rw [mdF_hit q2, if_pos q1] at hQ
      exact hQ g1 g2 g3 (fun q hq => by cases hq; exact ⟨⟨ht.1, show t ≤ 1000 by omega⟩, show pre.length ≤ 6 by omega⟩)
    · have e1 : mdF L P U c (m + 1) f h t pre b = stp L P U c m f h t pre (stp L P U c m f h t pre (stp L P U c m f h t pre (stp L P U c m f h t pre b 0) 1) 2) 3 := by
        rw [mdF_s, if_neg (show ¬ L + f / 3 ≤ h by omega)]
        rfl
      rw [e1] at hQ
      have hin : vp_in (I ((pre.length : Nat) : Int)) 6 := I_vinN (by omega) (by decide)
      have hcl : (I ((pre.length : Nat) : Int)).toNatClampNeg = pre.length := I_clampN (by omega)
      have stepC : ∀ (x : Int32) (s : St), CSs s0 s n L P U c → ∀ s14 : St, s14 = wr s (61 + 2) pre.length x → CSs s0 s14 n L P U c := by
        intro x s hcs s14 h14
        have f14 : ∀ p j, (p ≠ 63 ∨ j ≠ pre.length) → s14 p j = s p j := by
          intro p j hpj
          rw [h14]
          unfold wr
          repeat' split
          all_goals first | rfl | (exfalso; omega)
        obtain ⟨k1, k2, k3, k4, k5, k6⟩ := hcs
        exact ⟨fun p j p1 p2 p3 => (f14 p j (Or.inl p3)).trans (k1 p j p1 p2 p3), (f14 _ _ (by omega)).trans k2, (f14 _ _ (by omega)).trans k3, (f14 _ _ (by omega)).trans k4, (f14 _ _ (by omega)).trans k5, (f14 _ _ (by omega)).trans k6⟩
      have step : ∀ (e : Nat) (x : Int32) (s : St) (b : Bst), e < 4 → x = I (e : Nat) → CSs s0 s n L P U c → CPs s pre → CBs s b → bOK b → ∀ s14 : St, s14 = wr s (61 + 2) pre.length x → ∀ (R : St → Prop) (y2 y3 y4 : Int32), (∀ s', CSs s0 s' n L P U c → CPs s' pre → CBs s' (stp L P U c m f h t pre b e) → bOK (stp L P U c m f h t pre b e) → R s') → y2 = I (fD f e) → y3 = I (h + hD P U e) → y4 = I (t + tD c e) → vc_Res_search d 61 (I ((pre.length : Nat) : Int) + 1) y2 y3 y4 s14 R := by
        intro e x s b he hx hcs hcp hcb hb s14 h14 R y2 y3 y4 hR h2 h3 h4
        have hcs14 := stepC x s hcs s14 h14
        have f14 : ∀ p j, (p ≠ 63 ∨ j ≠ pre.length) → s14 p j = s p j := by
          intro p j hpj
          rw [h14]
          unfold wr
          repeat' split
          all_goals first | rfl | (exfalso; omega)
        have hlen : (pre ++ [e]).length = pre.length + 1 := by rw [List.length_append]; rfl
        have ey : I ((pre.length : Nat) : Int) + 1 = I (((pre ++ [e]).length : Nat) : Int) := by
          rw [hlen]
          simp (disch := (first | omega | (unfold inr; omega))) only [I_lit, I_nI, I_neg, I_add, I_sub, I_mul, I_div, I_le, I_lt, I_eq, I_clamp, I_clampN, I_vin]
          congr 1
        rw [ey, h2, h3, h4]
        refine ih d (pre ++ [e]) _ _ _ s14 b (by omega) (by omega) ?_ ?_ ?_ hcs14 (fun j hj => ?_) ?_ hb R (fun s' r1 r2 r3 r4 => hR s' r1 (fun j hj => ?_) r3 r4)
        · unfold fD
          repeat' split
          all_goals omega
        · unfold hD
          rw [hlen]
          repeat' split
          all_goals omega
        · unfold tD
          rw [hlen]
          repeat' split
          all_goals omega
        · rw [hlen] at hj
          by_cases ej : j = pre.length
          · subst ej
            rw [h14, getD_r, ← hx]
            exact wr_at
          · rw [f14 _ _ (Or.inr ej), getD_l (by omega)]
            exact hcp j (by omega)
        · cases b with
          | none => exact ⟨(f14 _ _ (by omega)).trans hcb.1, (f14 _ _ (by omega)).trans hcb.2.1, (f14 _ _ (by omega)).trans hcb.2.2⟩
          | some q => exact ⟨(f14 _ _ (by omega)).trans hcb.1, (f14 _ _ (by omega)).trans hcb.2.1, (f14 _ _ (by omega)).trans hcb.2.2.1, fun j hj => (f14 _ _ (by omega)).trans (hcb.2.2.2 j hj)⟩
        · rw [r2 j (by omega), getD_l hj]
      rw [hcs.2.1, hcl]
      refine ⟨fun _ => ⟨hin, ?_⟩, fun q => ?_⟩
      · intro s14 h14
        have c14 := stepC 0 s hcs s14 h14
        refine step 0 0 s b (by decide) rfl hcs hcp hcb hb s14 h14 _ _ _ _ ?_ rfl ?_ ?_
        rotate_left
        · rw [c14.2.2.2.1]
          show I h + I P = I (h + P)
          simp (disch := (first | omega | (unfold inr; omega))) only [I_lit, I_nI, I_neg, I_add, I_sub, I_mul, I_div, I_le, I_lt, I_eq, I_clamp, I_clampN, I_vin]
        · show I t + 10 = I (t + 10)
          simp (disch := (first | omega | (unfold inr; omega))) only [I_lit, I_nI, I_neg, I_add, I_sub, I_mul, I_div, I_le, I_lt, I_eq, I_clamp, I_clampN, I_vin]
        intro s15 c15 p15 b15 o15
        refine ⟨hin, ?_⟩
        intro s17 h17
        have c17 := stepC 1 s15 c15 s17 h17
        refine step 1 1 s15 _ (by decide) rfl c15 p15 b15 o15 s17 h17 _ _ _ _ ?_ rfl ?_ ?_
        rotate_left
        · rw [c17.2.2.2.2.1]
          show I h + I U = I (h + U)
          simp (disch := (first | omega | (unfold inr; omega))) only [I_lit, I_nI, I_neg, I_add, I_sub, I_mul, I_div, I_le, I_lt, I_eq, I_clamp, I_clampN, I_vin]
        · show I t + 10 = I (t + 10)
          simp (disch := (first | omega | (unfold inr; omega))) only [I_lit, I_nI, I_neg, I_add, I_sub, I_mul, I_div, I_le, I_lt, I_eq, I_clamp, I_clampN, I_vin]
        intro s18 c18 p18 b18 o18
        refine ⟨hin, ?_⟩
        intro s20 h20
        have c20 := stepC 2 s18 c18 s20 h20
        refine step 2 2 s18 _ (by decide) rfl c18 p18 b18 o18 s20 h20 _ _ _ _ ?_ ?_ ?_ ?_
        rotate_left
        · rw [show I f - 1 = I (f - 1) from by simp (disch := (first | omega | (unfold inr; omega))) only [I_lit, I_nI, I_neg, I_add, I_sub, I_mul, I_div, I_le, I_lt, I_eq, I_clamp, I_clampN, I_vin]]
          exact imax_I (a := 0) ⟨by decide, by decide⟩ ⟨by omega, by omega⟩
        · show I h = I (h + 0)
          rw [Int.add_zero]
        · rw [c20.2.2.2.2.2]
          show I t + I c = I (t + c)
          simp (disch := (first | omega | (unfold inr; omega))) only [I_lit, I_nI, I_neg, I_add, I_sub, I_mul, I_div, I_le, I_lt, I_eq, I_clamp, I_clampN, I_vin]
        intro s21 c21 p21 b21 o21
        refine ⟨hin, ?_⟩
        intro s23 h23
        refine step 3 3 s21 _ (by decide) rfl c21 p21 b21 o21 s23 h23 _ _ _ _ ?_ ?_ ?_ ?_
        rotate_left
        · rw [show I f + 1 = I (f + 1) from by simp (disch := (first | omega | (unfold inr; omega))) only [I_lit, I_nI, I_neg, I_add, I_sub, I_mul, I_div, I_le, I_lt, I_eq, I_clamp, I_clampN, I_vin]]
          exact imin_I (a := 9) ⟨by decide, by decide⟩ ⟨by omega, by omega⟩
        · show I h + 1 = I (h + 1)
          simp (disch := (first | omega | (unfold inr; omega))) only [I_lit, I_nI, I_neg, I_add, I_sub, I_mul, I_div, I_le, I_lt, I_eq, I_clamp, I_clampN, I_vin]
        · show I t + 2 = I (t + 2)
          simp (disch := (first | omega | (unfold inr; omega))) only [I_lit, I_nI, I_neg, I_add, I_sub, I_mul, I_div, I_le, I_lt, I_eq, I_clamp, I_clampN, I_vin]
        exact hQ
      · exfalso
        revert q
        simp (disch := (first | omega | (unfold inr; omega))) only [I_lit, I_nI, I_neg, I_add, I_sub, I_mul, I_div, I_le, I_lt, I_eq, I_clamp, I_clampN, I_vin]
        omega
