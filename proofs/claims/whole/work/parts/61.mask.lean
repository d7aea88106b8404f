/-! BITS, all of BODIES otherwise -/
def popF (m : Int32) : Nat → Int32
  | 0 => 0
  | n + 1 => popF m n + ((m >>> (I (n : Nat) &&& 31)) &&& 1)
theorem sp_bits {m : Int32} {Q : Int32 → Prop} (h : Q (popF m 6)) : vc_Mod_bits m Q := by
  unfold vc_Mod_bits
  refine ⟨fun N x t => ∃ n : Nat, n ≤ 6 ∧ N = 6 - n ∧ t = I (n : Nat) ∧ x = popF m n, ⟨_, 0, by omega, rfl, rfl, rfl⟩, ?_⟩
  rintro N x t ⟨n, hn, hN, rfl, rfl⟩
  constructor
  · intro z
    have z : n = 6 := by
      revert z
      simp (disch := (first | omega | (unfold inr; omega))) only [I_lit, I_nI, I_neg, I_add, I_sub, I_mul, I_div, I_le, I_lt, I_eq, I_clamp, I_clampN, I_vin]
      omega
    subst z
    exact h
  · intro z
    have z : n < 6 := by
      revert z
      simp (disch := (first | omega | (unfold inr; omega))) only [I_lit, I_nI, I_neg, I_add, I_sub, I_mul, I_div, I_le, I_lt, I_eq, I_clamp, I_clampN, I_vin]
      omega
    intro x15 h15 x16 h16
    refine ⟨6 - (n + 1), by omega, n + 1, by omega, rfl, ?_, h15⟩
    rw [h16]
    simp (disch := (first | omega | (unfold inr; omega))) only [I_lit, I_nI, I_neg, I_add, I_sub, I_mul, I_div, I_le, I_lt, I_eq, I_clamp, I_clampN, I_vin]
    congr 1
theorem pop_or : ∀ m, m < 64 → ∀ b, b < 6 → awb (I (m : Nat)) b = false → (I (m : Nat) ||| (1 <<< (I (b : Nat) &&& 31)) = I (m ||| 2 ^ b : Nat) ∧ m ||| 2 ^ b < 64 ∧ popF (I (m ||| 2 ^ b : Nat)) 6 = popF (I (m : Nat)) 6 + 1 ∧ ∀ c, c < 6 → awb (I (m ||| 2 ^ b : Nat)) c = (awb (I (m : Nat)) c || decide (c = b))) := by decide +kernel
theorem pop_0 : popF 0 6 = 0 := by decide +kernel
def hlpG (k : Kv) (o : Nat → Nat) (n i : Nat) (mx : Int) : Int := mx / 3 + if i + 1 < n then k 6 (o (i + 1)) / 3 else 0
theorem goF_s {k : Kv} {o : Nat → Nat} {n : Nat} {back : Bool} {f i : Nat} {mx : Int} {m : Int32} {cl br : Int} {ts : Nat → Int32} : goF k o n back (f + 1) i mx m cl br ts = if (wayZ k (o i) back (hlpG k o n i mx) cl br).1 = -4 then goF k o n back f (i + 1) (max mx (k 6 (o i))) (m ||| (1 <<< (I (o i) &&& 31))) (wayZ k (o i) back (hlpG k o n i mx) cl br).2.1 (wayZ k (o i) back (hlpG k o n i mx) cl br).2.2 (upd ts i (I (wayZ k (o i) back (hlpG k o n i mx) cl br).2.1)) else (m, (i : Int), (o i : Int), (wayZ k (o i) back (hlpG k o n i mx) cl br).1, (wayZ k (o i) back (hlpG k o n i mx) cl br).2.1, (wayZ k (o i) back (hlpG k o n i mx) cl br).2.2, ts) := rfl
theorem goF_pop {k : Kv} {o : Nat → Nat} {n : Nat} (h6 : ∀ i, i < n → o i < 6) (hin : ∀ i j, i < n → j < n → o i = o j → i = j) (hn : n < 1000) (back : Bool) : ∀ (f i : Nat) (mx cl br : Int) (M : Nat) (ts : Nat → Int32), i + f = n → M < 64 → popF (I (M : Nat)) 6 = I (i : Nat) → (∀ j, i ≤ j → j < n → awb (I (M : Nat)) (o j) = false) → popF (goF k o n back f i mx (I (M : Nat)) cl br ts).1 6 = I (goF k o n back f i mx (I (M : Nat)) cl br ts).2.1 := by
  intro f
  induction f with
  | zero =>
    intro i mx cl br M ts h1 h2 h3 h4
    exact h3
  | succ f ih =>
    intro i mx cl br M ts h1 h2 h3 h4
    rw [goF_s]
    by_cases c : (wayZ k (o i) back (hlpG k o n i mx) cl br).1 = -4
    · rw [if_pos c]
      obtain ⟨e1, e2, e3, e4⟩ := pop_or M h2 (o i) (h6 i (by omega)) (h4 i (Nat.le_refl i) (by omega))
      rw [e1]
      refine ih (i + 1) _ _ _ (M ||| 2 ^ o i) _ (by omega) e2 ?_ (fun j hj hj2 => ?_)
      · rw [e3, h3]
        simp (disch := (first | omega | (unfold inr; omega))) only [I_lit, I_nI, I_neg, I_add, I_sub, I_mul, I_div, I_le, I_lt, I_eq, I_clamp, I_clampN, I_vin]
        congr 1
      · rw [e4 _ (h6 j hj2), h4 j (by omega) hj2]
        have : ¬ o j = o i := fun e => by
          have := hin j i hj2 (by omega) e
          omega
        simp [this]
    · rw [if_neg c]
      exact h3
theorem goF_all {k : Kv} {o : Nat → Nat} {n : Nat} (back : Bool) : ∀ (f i : Nat) (mx cl br : Int) (m : Int32) (ts : Nat → Int32), i + f = n → ((goF k o n back f i mx m cl br ts).2.2.1 = -4 ↔ (goF k o n back f i mx m cl br ts).2.1 = (n : Nat)) := by
  intro f
  induction f with
  | zero =>
    intro i mx cl br m ts h
    have : i = n := by omega
    subst this
    exact ⟨fun _ => rfl, fun _ => rfl⟩
  | succ f ih =>
    intro i mx cl br m ts h
    rw [goF_s]
    by_cases c : (wayZ k (o i) back (hlpG k o n i mx) cl br).1 = -4
    · rw [if_pos c]
      exact ih (i + 1) _ _ _ _ _ (by omega)
    · rw [if_neg c]
      constructor
      · intro z
        have z : ((o i : Nat) : Int) = -4 := z
        omega
      · intro z
        have z : ((i : Nat) : Int) = (n : Nat) := z
        omega
/-- n different BODIES -/
def LI (l : Nat → Nat) (n : Nat) : Prop := n ≤ 6 ∧ (∀ i, i < n → l i < 6) ∧ ∀ i j, i < n → j < n → l i = l j → i = j
theorem LI_oat {l : Nat → Nat} {n : Nat} (h : LI l n) (back : Bool) : LI (oat l n back) n := by
  obtain ⟨h1, h2, h3⟩ := h
  refine ⟨h1, fun i hi => ?_, fun i j hi hj e => ?_⟩
  · unfold oat
    split
    · exact h2 _ (by omega)
    · exact h2 _ hi
  · unfold oat at e
    split at e
    · have := h3 _ _ (by omega) (by omega) e
      omega
    · exact h3 i j hi hj e
theorem pop_go {k : Kv} {l : Nat → Nat} {n : Nat} (h : LI l n) (back : Bool) (c : Int) (ts : Nat → Int32) : popF (goZ k (oat l n back) n back c ts).1 6 = I (goZ k (oat l n back) n back c ts).2.1 := by
  obtain ⟨h1, h2, h3⟩ := LI_oat h back
  exact goF_pop h2 h3 (by omega) back n 0 0 c 0 0 ts (by omega) (by decide) pop_0 (fun j _ hj => awb0 _ (h2 j hj))
theorem pop_there {k : Kv} {l : Nat → Nat} {n : Nat} (h : LI l n) (c : Int) (ts : Nat → Int32) : popF (thereZ k l n c ts).1 6 = I (thereZ k l n c ts).2.1 := pop_go h false c ts
theorem pop_home {k : Kv} {l : Nat → Nat} {n : Nat} (h : LI l n) (rt : Gr) (ts : Nat → Int32) : popF (homeZ k l n rt ts).1 6 = I (homeZ k l n rt ts).2.1 := by
  unfold homeZ
  split
  · exact pop_go h true _ ts
  · exact pop_0
theorem ok_all {k : Kv} {l : Nat → Nat} {n : Nat} (c : Int) (ts ts' : Nat → Int32) : okZ (thereZ k l n c ts) (homeZ k l n (thereZ k l n c ts) ts') = decide ((homeZ k l n (thereZ k l n c ts) ts').2.1 = (n : Nat)) := by
  unfold okZ
  rw [decide_eq_decide]
  have h1 := goF_all (k := k) (o := oat l n false) (n := n) false n 0 0 c 0 0 ts (by omega)
  constructor
  · rintro ⟨a, b⟩
    unfold homeZ at b ⊢
    rw [if_pos a] at b ⊢
    exact (goF_all (k := k) (o := oat l n true) (n := n) true n 0 0 _ 0 0 ts' (by omega)).mp b
  · intro a
    by_cases e : (thereZ k l n c ts).2.2.1 = -4
    · refine ⟨e, ?_⟩
      unfold homeZ at a ⊢
      rw [if_pos e] at a ⊢
      exact (goF_all (k := k) (o := oat l n true) (n := n) true n 0 0 _ 0 0 ts' (by omega)).mpr a
    · exfalso
      unfold homeZ at a
      rw [if_neg e] at a
      have a : (0 : Int) = (n : Nat) := a
      have : n = 0 := by omega
      subst this
      exact e rfl
theorem LI_ord {k : Kv} (hk : CC k) : LI (ordK k) (nB k) := by
  obtain ⟨hv, -, ho, hi, -⟩ := hk
  have a := hv.1
  refine ⟨nB_le hv, fun i hi' => ?_, fun i j hi' hj e => ?_⟩
  · have := ord_in hv ho i hi'
    omega
  · unfold nB at hi' hj
    have h1 := ho i (by omega)
    have h2 := ho j (by omega)
    unfold ordK at e
    exact hi i j (by omega) (by omega) (by omega)
theorem pop_TK {k : Kv} (hk : CC k) : popF (TK k).1 6 = I (TK k).2.1 := pop_there (LI_ord hk) _ _
theorem pop_HK {k : Kv} (hk : CC k) : popF (HK k).1 6 = I (HK k).2.1 := pop_home (LI_ord hk) _ _
theorem ok_HK (k : Kv) : okZ (TK k) (HK k) = decide ((HK k).2.1 = (nB k : Nat)) := ok_all _ _ _
theorem m_all {s : St} {k : Kv} (hk : CC k) (hr : RM s 83 k) (h7 : s 82 7 = 0) {Q : Bool → St → Prop} (hQ : ∀ s', KG s s' → ModT s' (TK k) → ModH s' (HK k) → Q (okZ (TK k) (HK k)) s') : vc_Mod_areAllBack s Q := by
  have hin := HK_in hk.1 hk.2.2.1
  have hn := nB_le hk.1
  unfold vc_Mod_areAllBack
  refine m_tab hk.1 hk.2.2.1 hr h7 ?_
  intro s' hkg ht hh h18
  refine sp_bits ?_
  rw [hh.1, h18, pop_HK hk, I_eq ⟨by omega, by omega⟩ ⟨by omega, by omega⟩]
  have hq := hQ s' hkg ht hh
  rw [ok_HK] at hq
  refine ⟨fun c => ?_, fun c => ?_⟩
  · rw [decide_eq_false c] at hq; exact hq
  · rw [decide_eq_true c] at hq; exact hq
/-- one number of all BODIES otherwise -/
def kst (k : Kv) (a : Nat) (f : Nat → Int) : Kv := fun x j => if x = a then f j else k x j
theorem kst_ne {k : Kv} {a : Nat} {f : Nat → Int} {x j : Nat} (h : x ≠ a) : kst k a f x j = k x j := by simp [kst, h]
theorem kst_at {k : Kv} {a : Nat} {f : Nat → Int} {j : Nat} : kst k a f a j = f j := by simp [kst]
theorem kst_self {k : Kv} {a : Nat} : kst k a (k a) = k := by
  funext x j
  unfold kst
  split
  · rename_i h; rw [h]
  · rfl
theorem kst_ku {k : Kv} {a i : Nat} {f : Nat → Int} {v : Int} : ku (kst k a f) a i v = kst k a (fun j => if j = i then v else f j) := by
  funext x j
  unfold ku kst
  by_cases h1 : x = a
  · by_cases h2 : j = i
    · simp [h1, h2]
    · simp [h1, h2]
  · simp [h1]
theorem RM_kc {s : St} {q : Nat} {k : Kv} {a : Nat} (ha : 3 ≤ a ∧ a ≤ 7) {f g : Nat → Int} (hfg : ∀ b : Nat, (b : Int) < k 9 1 → f b = g b) (h : RM s q (kst k a f)) : RM s q (kst k a g) := by
  have e : ∀ (f : Nat → Int) x j, x ≠ a → kst k a f x j = k x j := fun f x j hx => kst_ne hx
  refine ⟨fun i hi => ?_, fun y hy w hw => ?_, fun b hb => ⟨fun w hw => ?_, ?_⟩⟩
  · have := h.1 i hi
    rw [e _ 9 _ (by omega)] at this ⊢
    exact this
  · rw [e _ 9 _ (by omega)] at hy
    have := h.2.1 y (by rw [e _ 9 _ (by omega)]; exact hy) w hw
    rw [e _ w _ (by omega)] at this ⊢
    exact this
  · rw [e _ 9 _ (by omega)] at hb
    have := (h.2.2 b (by rw [e _ 9 _ (by omega)]; exact hb)).1 w hw
    by_cases c : 3 + w = a
    · rw [c, kst_at] at this ⊢
      rw [← hfg b hb]
      exact this
    · rw [e _ _ _ c] at this ⊢
      exact this
  · rw [e _ 9 _ (by omega)] at hb
    have := (h.2.2 b (by rw [e _ 9 _ (by omega)]; exact hb)).2
    rw [e _ 8 _ (by omega)] at this ⊢
    exact this
theorem RC_kc {s : St} {c : Nat} {k : Kv} {a : Nat} (ha : 3 ≤ a ∧ a ≤ 7) {f g : Nat → Int} (hfg : ∀ b : Nat, (b : Int) < k 9 1 → f b = g b) (h : RC s c (kst k a f)) : RC s c (kst k a g) := by
  have e : ∀ x j, x ≠ a → kst k a g x j = kst k a f x j := fun x j hx => by rw [kst_ne hx, kst_ne hx]
  have e9 : ∀ f i, kst k a f 9 i = k 9 i := fun f i => kst_ne (by omega)
  obtain ⟨⟨r1, r2, r3, r4, r5, r6⟩, hy, hb⟩ := h
  have ex : ∀ (x b : Nat), (b : Int) < k 9 1 → kst k a g x b = kst k a f x b := by
    intro x b hb'
    by_cases c' : x = a
    · rw [c', kst_at, kst_at, hfg b hb']
    · exact e x b c'
  refine ⟨⟨?_, ?_, ?_, ?_, ?_, ?_⟩, fun y hyy => ?_, fun b hbb => ?_⟩
  · rw [e9] at r1 ⊢; exact r1
  · rw [e9] at r2 ⊢; exact r2
  · rw [e9] at r3 ⊢; exact r3
  · rw [e9] at r4 ⊢; exact r4
  · rw [e9] at r5 ⊢; exact r5
  · rw [e9] at r6 ⊢; exact r6
  · rw [e9] at hyy
    rw [e 0 _ (by omega), e 1 _ (by omega), e 2 _ (by omega)]
    exact hy y (by rw [e9]; exact hyy)
  · rw [e9] at hbb
    rw [ex 3 _ hbb, ex 4 _ hbb, ex 5 _ hbb, ex 6 _ hbb, ex 7 _ hbb, ex 8 _ hbb]
    exact hb b (by rw [e9]; exact hbb)
theorem CC_kst {k : Kv} (h : CC k) {a : Nat} (ha : a = 5 ∨ a = 7) {f : Nat → Int} (hf : ∀ b : Nat, (b : Int) < k 9 1 → (a = 5 ∧ 0 ≤ f b ∧ f b ≤ 9) ∨ (a = 7 ∧ 0 ≤ f b ∧ f b ≤ 3)) : CC (kst k a f) := by
  obtain ⟨⟨h1, h2, h3, h4⟩, h5, h6, h7, h8⟩ := h
  have e9 : ∀ i, kst k a f 9 i = k 9 i := fun i => kst_ne (by omega)
  have e8 : ∀ i, kst k a f 8 i = k 8 i := fun i => kst_ne (by omega)
  refine ⟨⟨by simp only [e9]; exact h1, by simp only [e9]; exact h2, fun y hy => ?_, fun b hb => ?_⟩, by rw [e9]; exact h5, fun j hj => ?_, fun i j hi hj e => ?_, fun b hb => ?_⟩
  · rw [e9] at hy
    unfold CY
    rw [kst_ne (by omega), kst_ne (by omega), kst_ne (by omega)]
    exact h3 y hy
  · rw [e9] at hb
    obtain ⟨c1, c2, c3, c4, c5, c6, c7, c8, c9, c10⟩ := h4 b hb
    have := hf b hb
    unfold CB kst
    refine ⟨?_, ?_, ?_, ?_, ?_, ?_, ?_, ?_, ?_, ?_⟩ <;> split <;> omega
  · rw [e9] at hj ⊢
    rw [e8]; exact h6 j hj
  · rw [e9] at hi hj
    rw [e8, e8] at e
    exact h7 i j hi hj e
  · rw [e9] at hb ⊢
    obtain ⟨j, q1, q2⟩ := h8 b hb
    exact ⟨j, q1, by rw [e8]; exact q2⟩
/-- the model in a what-if: the cave put by in 85 -/
def MT (s s' : St) : Prop := (∀ p j, (p < 82 ∨ p = 84 ∨ 92 ≤ p) → s' p j = s p j) ∧ s' 82 3 = s 82 3 ∧ (∀ j, j < 78 → s' 85 j = s 83 j) ∧ s' 82 7 = 0
theorem MT.put {s s' : St} (h : MT s s') {j : Nat} {x : Int32} : MT s (wr s' 83 j x) := ⟨fun p i hp => (wr_ne (by omega)).trans (h.1 p i hp), (wr_ne (by decide)).trans h.2.1, fun i hi => (wr_ne (by decide)).trans (h.2.2.1 i hi), (wr_ne (by decide)).trans h.2.2.2⟩
theorem MT.kg {s s' s2 : St} (h : MT s s') (g : KG s' s2) : MT s s2 := ⟨fun p i hp => (g.1 p i (by omega) (by omega) (by omega)).trans (h.1 p i hp), (g.2 3 (by omega)).trans h.2.1, fun i hi => (g.1 85 i (by decide) (by decide) (by decide)).trans (h.2.2.1 i hi), (g.2 7 (by omega)).trans h.2.2.2⟩
theorem RR_m {s s' : St} {A : Ab} (hR : RR s A) (h : ∀ p j, (p < 82 ∨ p = 84 ∨ 92 ≤ p) → s' p j = s p j) (h3 : s' 82 3 = s 82 3) (hm : RM s' 83 A.1) : RR s' A := by
  obtain ⟨hc, ⟨m1, m2, m3, m4⟩, hv⟩ := hR
  exact ⟨AC_ext (fun p j hp => h p j (by omega)) hc, ⟨hm, h3.trans m2, fun z => RM_ext (fun j => h _ _ (by omega)) (m3 z), fun d hd => ShM_ext (fun p j hp => h p j (by omega)) (m4 d hd)⟩, hv⟩
theorem MT.end {s s' : St} {A : Ab} (hR : RR s A) (h : MT s s') {Q : St → Prop} (hQ : ∀ s2, RR s2 A → (∀ p j, p ≠ 83 → s2 p j = s' p j) → Q s2) : vc_Mod_copies 85 78 83 78 s' Q := by
  refine sp_copies (by decide) ?_
  intro s2 g1 g2
  refine hQ s2 (RR_m hR (fun p j hp => (g1 p j (by omega)).trans (h.1 p j hp)) ((g1 _ _ (by decide)).trans h.2.1) (RM_cp hR.2.2.1.1 hR.2.1.1 (fun j hj => (g2 j hj).trans (h.2.2.1 j hj)))) g1
