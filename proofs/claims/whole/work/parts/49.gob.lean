/-! GO, COME BACK -/
theorem goF_eq {k : Kv} {o o' : Nat → Nat} {n : Nat} (ho : ∀ j, j < n → o j = o' j) (back : Bool) : ∀ (f i : Nat) (mx cl br : Int) (m : Int32) (ts ts' : Nat → Int32), i + f = n →
    (goF k o n back f i mx m cl br ts).1 = (goF k o' n back f i mx m cl br ts').1 ∧ (goF k o n back f i mx m cl br ts).2.1 = (goF k o' n back f i mx m cl br ts').2.1 ∧ (goF k o n back f i mx m cl br ts).2.2.1 = (goF k o' n back f i mx m cl br ts').2.2.1 ∧ (goF k o n back f i mx m cl br ts).2.2.2.1 = (goF k o' n back f i mx m cl br ts').2.2.2.1 ∧ (goF k o n back f i mx m cl br ts).2.2.2.2.1 = (goF k o' n back f i mx m cl br ts').2.2.2.2.1 ∧ (goF k o n back f i mx m cl br ts).2.2.2.2.2.1 = (goF k o' n back f i mx m cl br ts').2.2.2.2.2.1 ∧
    ((∀ j, j < i → ts j = ts' j) → ∀ j : Nat, (j : Int) < (goF k o n back f i mx m cl br ts).2.1 → (goF k o n back f i mx m cl br ts).2.2.2.2.2.2 j = (goF k o' n back f i mx m cl br ts').2.2.2.2.2.2 j) := by
  intro f
  induction f with
  | zero =>
    intro i mx cl br m ts ts' _
    refine ⟨rfl, rfl, rfl, rfl, rfl, rfl, fun h j hj => h j ?_⟩
    have hj : (j : Int) < (i : Nat) := hj
    omega
  | succ f ih =>
    intro i mx cl br m ts ts' hf
    unfold goF
    rw [ho i (by omega)]
    have e : (if i + 1 < n then k 6 (o (i + 1)) / 3 else 0) = (if i + 1 < n then k 6 (o' (i + 1)) / 3 else 0) := by
      split
      · rename_i z
        rw [ho _ z]
      · rfl
    rw [e]
    generalize wayZ k (o' i) back (mx / 3 + if i + 1 < n then k 6 (o' (i + 1)) / 3 else 0) cl br = r
    split
    · obtain ⟨g1, g2, g3, g4, g5, g6, g7⟩ := ih (i + 1) (max mx (k 6 (o' i))) r.2.1 r.2.2 (m ||| (1 <<< (I (o' i) &&& 31))) (upd ts i (I r.2.1)) (upd ts' i (I r.2.1)) (by omega)
      refine ⟨g1, g2, g3, g4, g5, g6, fun h j hj => g7 (fun q hq => ?_) j hj⟩
      by_cases z : q = i
      · subst z
        rw [upd_at, upd_at]
      · rw [upd_ne z, upd_ne z]
        exact h q (by omega)
    · refine ⟨rfl, rfl, rfl, rfl, rfl, rfl, fun h j hj => h j ?_⟩
      have hj : (j : Int) < (i : Nat) := hj
      omega
/-- alike but for the clocks that nobody set -/
def GE (R R' : Gr) : Prop := R.1 = R'.1 ∧ R.2.1 = R'.2.1 ∧ R.2.2.1 = R'.2.2.1 ∧ R.2.2.2.1 = R'.2.2.2.1 ∧ R.2.2.2.2.1 = R'.2.2.2.2.1 ∧ R.2.2.2.2.2.1 = R'.2.2.2.2.2.1 ∧ ∀ j : Nat, (j : Int) < R.2.1 → R.2.2.2.2.2.2 j = R'.2.2.2.2.2.2 j
theorem thereZ_ge {k : Kv} {l l' : Nat → Nat} {n : Nat} (h : ∀ j, j < n → l j = l' j) (c : Int) (ts ts' : Nat → Int32) : GE (thereZ k l n c ts) (thereZ k l' n c ts') := by
  obtain ⟨g1, g2, g3, g4, g5, g6, g7⟩ := goF_eq (k := k) (o := oat l n false) (o' := oat l' n false) h false n 0 0 c 0 0 ts ts' (by omega)
  exact ⟨g1, g2, g3, g4, g5, g6, g7 (fun j hj => absurd hj (Nat.not_lt_zero j))⟩
theorem homeZ_ge {k : Kv} {l l' : Nat → Nat} {n : Nat} (h : ∀ j, j < n → l j = l' j) {R R' : Gr} (hR : GE R R') (ts ts' : Nat → Int32) : (homeZ k l n R ts).1 = (homeZ k l' n R' ts').1 ∧ (homeZ k l n R ts).2.1 = (homeZ k l' n R' ts').2.1 ∧ (homeZ k l n R ts).2.2.1 = (homeZ k l' n R' ts').2.2.1 ∧ (homeZ k l n R ts).2.2.2.1 = (homeZ k l' n R' ts').2.2.2.1 ∧ (homeZ k l n R ts).2.2.2.2.1 = (homeZ k l' n R' ts').2.2.2.2.1 ∧ (homeZ k l n R ts).2.2.2.2.2.1 = (homeZ k l' n R' ts').2.2.2.2.2.1 := by
  unfold homeZ
  rw [hR.2.2.1, hR.2.2.2.2.1]
  split
  · have ho : ∀ j, j < n → oat l n true j = oat l' n true j := by
      intro j hj
      unfold oat
      rw [if_pos rfl, if_pos rfl]
      exact h _ (by omega)
    obtain ⟨g1, g2, g3, g4, g5, g6, -⟩ := goF_eq (k := k) ho true n 0 0 R'.2.2.2.2.1 0 0 ts ts' (by omega)
    exact ⟨g1, g2, g3, g4, g5, g6⟩
  · exact ⟨rfl, rfl, rfl, rfl, rfl, rfl⟩
def LegIs (s : St) (p : Nat) (R : Gr) : Prop := s p 0 = R.1 ∧ s p 1 = I R.2.1 ∧ s p 2 = I R.2.2.1 ∧ s p 3 = I R.2.2.2.1 ∧ s p 4 = I R.2.2.2.2.1 ∧ s p 5 = I R.2.2.2.2.2.1
def KL (s s' : St) : Prop := ∀ p j, (p < 53 ∨ 56 < p) → s' p j = s p j
theorem KL.kc {s s' : St} (h : KL s s') : KC s s' := fun p j hp => h p j (by omega)
def KG (s s' : St) : Prop := (∀ p j, p ≠ 82 → p ≠ 86 → p ≠ 87 → s' p j = s p j) ∧ KP (s 82) (s' 82)
theorem KG.km {s s' : St} (h : KG s s') : KM s s' := ⟨fun p j hp => h.1 p j (by omega) (by omega) (by omega), h.2 3 (by omega)⟩
/-- the ORDER's way there and back -/
def nB (k : Kv) : Nat := (k 9 1).toNat
def TK (k : Kv) : Gr := thereZ k (ordK k) (nB k) (k 9 2) zt
def HK (k : Kv) : Gr := homeZ k (ordK k) (nB k) (TK k) zt
theorem awb0 : ∀ b, b < 6 → awb 0 b = false := by decide
theorem lineL0 {k : Kv} (hk : CV k) (ho : CO k) : ∀ n : Nat, (n : Int) ≤ k 9 1 → lineL k 0 n = (List.range n).map (ordK k) := by
  intro n
  induction n with
  | zero => intro _; rfl
  | succ n ih =>
    intro h
    have := ho n (by omega)
    have a := hk.1
    show lineL k 0 n ++ (if awb 0 (ordK k n) then [] else [ordK k n]) = _
    rw [awb0 (ordK k n) (by unfold ordK; omega), ih (by omega), List.range_succ, List.map_append]
    rfl
theorem lnn0 {k : Kv} (hk : CV k) (ho : CO k) : lnn k 0 = nB k := by
  have a := hk.1
  unfold lnn lineK nB
  rw [lineL0 hk ho _ (by omega)]
  simp
theorem lnf0 {k : Kv} (hk : CV k) (ho : CO k) : ∀ j, j < nB k → lnf k 0 j = ordK k j := by
  intro j hj
  have a := hk.1
  unfold nB at hj
  unfold lnf lineK
  rw [lineL0 hk ho _ (by omega), List.getD_eq_getElem?_getD, List.getElem?_map, List.getElem?_range hj]
  rfl
theorem ord_in {k : Kv} (hk : CV k) (ho : CO k) : ∀ j, j < nB k → (ordK k j : Int) < k 9 1 := by
  intro j hj
  have a := hk.1
  unfold nB at hj
  have := ho j (by omega)
  unfold ordK
  omega
theorem nB_le {k : Kv} (hk : CV k) : nB k ≤ 6 := by
  have a := hk.1
  unfold nB
  omega
theorem c_allGo {s : St} {k : Kv} (hk : CV k) (ho : CO k) (hr : RC s 1 k) {Q : Nat → St → Prop} (hQ : ∀ s', KL s s' → LegIs s' 53 (TK k) → (∀ j : Nat, (j : Int) < (TK k).2.1 → s' 54 j = (TK k).2.2.2.2.2.2 j) → Q 53 s') : vc_Brt_allGo s Q := by
  have a := hk.1
  have a5 := hk.2.1
  have hn := nB_le hk
  unfold vc_Brt_allGo
  rw [show s 11 0 = I ((nB k : Nat) : Int) from by rw [show s 11 0 = I (k 9 1) from hr.1.2.1]; unfold nB; congr 1; omega, show s 1 5 = I (k 9 2) from hr.1.2.2.1]
  have hs : s = LG s 53 (s 53) (s 54) := (LG_self s 53).symm
  rw [hs]
  refine sp_passAll (l := ordK k) hk hr (by decide) (by decide) hn hn (by decide) (fun j hj => ⟨?_, ord_in hk ho j hj⟩) false ⟨by omega, by omega⟩ rfl ?_
  · have hj2 : (j : Int) < k 9 1 := by unfold nB at hj; omega
    rw [show s 17 j = I (k 8 j) from (hr.2.2 j hj2).2.2.2.2.2]
    have := ho j hj2
    unfold ordK
    congr 1
    omega
  · have hg := thereZ_ge (k := k) (l := ordK k) (l' := ordK k) (n := nB k) (fun _ _ => rfl) (k 9 2) (s 54) zt
    obtain ⟨R, eR⟩ : ∃ R, R = thereZ k (ordK k) (nB k) (k 9 2) (s 54) := ⟨_, rfl⟩
    have eR2 : goZ k (oat (ordK k) (nB k) false) (nB k) false (k 9 2) (s 54) = R := eR.symm
    rw [eR2]
    rw [← eR] at hg
    obtain ⟨g1, g2, g3, g4, g5, g6, g7⟩ := hg
    refine hQ _ (fun p j hp => LG_ne (by omega)) ⟨?_, ?_, ?_, ?_, ?_, ?_⟩ (fun j hj => ?_)
    · exact LG_p.trans g1
    · exact LG_p.trans (congrArg I g2)
    · exact LG_p.trans (congrArg I g3)
    · exact LG_p.trans (congrArg I g4)
    · exact LG_p.trans (congrArg I g5)
    · exact LG_p.trans (congrArg I g6)
    · have : LG s 53 (rowR (s 53) R) R.2.2.2.2.2.2 54 j = R.2.2.2.2.2.2 j := LG_t (p := 53)
      rw [this]
      exact g7 j (by rw [g2]; exact hj)
/-- by any line: there and back -/
theorem c_tabL {s : St} {c p2 n2 : Nat} {k : Kv} (hk : CV k) (hr : RC s c k) (hc : c ≤ 35) (hp2 : p2 < 53 ∨ 56 < p2) {l : Nat → Nat} {n : Nat} (hn : n ≤ 6) (hn2 : n ≤ n2) (hn9 : n2 < 1000) (hl : ∀ j, j < n → s p2 j = I (l j) ∧ (l j : Int) < k 9 1) {c0 : Int} (hc0 : 0 ≤ c0 ∧ c0 ≤ 100000) {Q : Bool → St → Prop}
    (hQ : ∀ s', KL s s' → LegIs s' 53 (thereZ k l n c0 zt) → LegIs s' 55 (homeZ k l n (thereZ k l n c0 zt) zt) → Q (okZ (thereZ k l n c0 zt) (homeZ k l n (thereZ k l n c0 zt) zt)) s') : vc_Tri_thereAndBack 52 c p2 n2 (I n) (I c0) s Q := by
  refine sp_tab hk hr hc hp2 hn hn2 hn9 hl hc0 ?_
  have hg := thereZ_ge (k := k) (l := l) (l' := l) (n := n) (fun _ _ => rfl) c0 (s 54) zt
  have hh := homeZ_ge (k := k) (l := l) (l' := l) (n := n) (fun _ _ => rfl) hg (s 56) zt
  generalize thereZ k l n c0 (s 54) = R at hg hh ⊢
  generalize homeZ k l n R (s 56) = RH at hh ⊢
  obtain ⟨g1, g2, g3, g4, g5, g6, -⟩ := hg
  obtain ⟨i1, i2, i3, i4, i5, i6⟩ := hh
  have eok : okZ R RH = okZ (thereZ k l n c0 zt) (homeZ k l n (thereZ k l n c0 zt) zt) := by
    unfold okZ
    rw [g3, i3]
  rw [eok]
  have e53 : ∀ j, TB s R RH 53 j = rowR (s 53) R j := fun j => (LG_ne (Or.inl (by decide))).trans LG_p
  have e55 : ∀ j, TB s R RH 55 j = rowR (s 55) RH j := fun j => LG_p
  refine hQ _ (fun p j hp => (LG_ne (by omega)).trans (LG_ne (by omega))) ⟨?_, ?_, ?_, ?_, ?_, ?_⟩ ⟨?_, ?_, ?_, ?_, ?_, ?_⟩
  · exact (e53 0).trans g1
  · exact (e53 1).trans (congrArg I g2)
  · exact (e53 2).trans (congrArg I g3)
  · exact (e53 3).trans (congrArg I g4)
  · exact (e53 4).trans (congrArg I g5)
  · exact (e53 5).trans (congrArg I g6)
  · exact (e55 0).trans i1
  · exact (e55 1).trans (congrArg I i2)
  · exact (e55 2).trans (congrArg I i3)
  · exact (e55 3).trans (congrArg I i4)
  · exact (e55 4).trans (congrArg I i5)
  · exact (e55 5).trans (congrArg I i6)
theorem c_allReturn {s : St} {c : Nat} {k : Kv} (hk : CV k) (ho : CO k) (hr : RC s c k) (hc : c ≤ 35) {Q : Bool → St → Prop}
    (hQ : ∀ s', KL s s' → LegIs s' 53 (TK k) → LegIs s' 55 (HK k) → Q (okZ (TK k) (HK k)) s') : vc_Brt_allReturn c s Q := by
  have a := hk.1
  have a5 := hk.2.1
  have hn := nB_le hk
  unfold vc_Brt_allReturn
  rw [show s (c + 10) 0 = I ((nB k : Nat) : Int) from by rw [show s (c + 10) 0 = I (k 9 1) from hr.1.2.1]; unfold nB; congr 1; omega, show s c 5 = I (k 9 2) from hr.1.2.2.1]
  refine c_tabL hk hr hc (by omega) hn hn (by decide) (l := ordK k) (fun j hj => ⟨?_, ord_in hk ho j hj⟩) ⟨by omega, by omega⟩ hQ
  have hj2 : (j : Int) < k 9 1 := by unfold nB at hj; omega
  rw [show s (c + 10 + 6) j = I (k 8 j) from (hr.2.2 j hj2).2.2.2.2.2]
  have := ho j hj2
  unfold ordK
  congr 1
  omega
def ModT (s : St) (R : Gr) : Prop := s 82 8 = R.1 ∧ s 82 9 = I R.2.2.1 ∧ s 82 10 = I R.2.2.2.1 ∧ s 82 13 = I R.2.2.2.2.1 ∧ s 82 14 = I R.2.2.2.2.2.1
def ModH (s : St) (R : Gr) : Prop := s 82 11 = R.1 ∧ s 82 12 = I R.2.2.1 ∧ s 82 15 = I R.2.2.2.2.1
theorem m_there {s : St} {k : Kv} (hk : CV k) (ho : CO k) (hr : RM s 83 k) (h7 : s 82 7 = 0) {Q : St → Prop} (hQ : ∀ s', KG s s' → ModT s' (TK k) → s' 82 18 = I (nB k : Nat) → (∀ j : Nat, (j : Int) < (TK k).2.1 → s' 86 j = (TK k).2.2.2.2.2.2 j) → Q s') : vc_Mod_goesThere s Q := by
  have hs : s = MS s (s 82) (s 86) (s 87) := (MS_self s).symm
  rw [hs]
  refine sp_goesThere hk ho hr ?_
  rw [h7, lnn0 hk ho]
  intro v' ln' hT hln
  have hg := thereZ_ge (k := k) (l := lnf k 0) (l' := ordK k) (n := nB k) (lnf0 hk ho) (k 9 2) (s 86) zt
  generalize thereZ k (lnf k 0) (nB k) (k 9 2) (s 86) = R at hg hT ⊢
  obtain ⟨g1, g2, g3, g4, g5, g6, g7⟩ := hg
  obtain ⟨t0, t8, t9, t10, t13, t14, t18, -, -⟩ := hT
  refine hQ _ ⟨fun p j h1 h2 h3 => MS_ne ⟨h1, h2, h3⟩, t0⟩ ⟨t8.trans g1, t9.trans (congrArg I g3), t10.trans (congrArg I g4), t13.trans (congrArg I g5), t14.trans (congrArg I g6)⟩ t18 (fun j hj => ?_)
  exact g7 j (by rw [g2]; exact hj)
theorem m_tab {s : St} {k : Kv} (hk : CV k) (ho : CO k) (hr : RM s 83 k) (h7 : s 82 7 = 0) {Q : St → Prop} (hQ : ∀ s', KG s s' → ModT s' (TK k) → ModH s' (HK k) → s' 82 18 = I (nB k : Nat) → Q s') : vc_Mod_goesThereAndBack s Q := by
  have hs : s = MS s (s 82) (s 86) (s 87) := (MS_self s).symm
  rw [hs]
  refine sp_gtab hk ho hr ?_
  rw [h7, lnn0 hk ho]
  intro v' ln' hT
  have hg := thereZ_ge (k := k) (l := lnf k 0) (l' := ordK k) (n := nB k) (lnf0 hk ho) (k 9 2) (s 86) zt
  have hh := homeZ_ge (k := k) (l := lnf k 0) (l' := ordK k) (n := nB k) (lnf0 hk ho) hg zt zt
  generalize thereZ k (lnf k 0) (nB k) (k 9 2) (s 86) = R at hg hh hT ⊢
  generalize homeZ k (lnf k 0) (nB k) R zt = RH at hh hT
  obtain ⟨g1, g2, g3, g4, g5, g6, g7⟩ := hg
  obtain ⟨i1, i2, i3, i4, i5, i6⟩ := hh
  obtain ⟨t0, t8, t9, t10, t13, t14, t18, t11, t12, t15⟩ := hT
  exact hQ _ ⟨fun p j h1 h2 h3 => MS_ne ⟨h1, h2, h3⟩, t0⟩ ⟨t8.trans g1, t9.trans (congrArg I g3), t10.trans (congrArg I g4), t13.trans (congrArg I g5), t14.trans (congrArg I g6)⟩ ⟨t11.trans i1, t12.trans (congrArg I i3), t15.trans (congrArg I i5)⟩ t18
theorem KM_w82 {s : St} {j : Nat} {x : Int32} (h : j ≠ 3) : KM s (wr s 82 j x) := by
  refine ⟨fun p i hp => wr_ne (by omega), ?_⟩
  simp [wr]
  intro z
  omega
theorem TK_in {k : Kv} (hk : CV k) (ho : CO k) : ((TK k).2.2.1 = -4 ∨ 0 ≤ (TK k).2.2.1 ∧ (TK k).2.2.1 < k 9 1) ∧ (0 ≤ (TK k).2.1 ∧ (TK k).2.1 ≤ nB k) ∧ (k 9 2 ≤ (TK k).2.2.2.2.1 ∧ (TK k).2.2.2.2.1 ≤ k 9 2 + 2160) := by
  have a5 := hk.2.1
  have h := goZ_in hk (nB_le hk) (oat_in (ord_in hk ho) false) false (c := k 9 2) ⟨by omega, by omega⟩ zt
  exact ⟨h.1, h.2.2.1, h.2.2.2.1⟩
theorem HK_in {k : Kv} (hk : CV k) (ho : CO k) : ((HK k).2.2.1 = -4 ∨ 0 ≤ (HK k).2.2.1 ∧ (HK k).2.2.1 < k 9 1) ∧ (0 ≤ (HK k).2.1 ∧ (HK k).2.1 ≤ nB k) ∧ (k 9 2 ≤ (HK k).2.2.2.2.1 ∧ (HK k).2.2.2.2.1 ≤ k 9 2 + 4320) := by
  have a5 := hk.2.1
  have ht := TK_in hk ho
  unfold HK homeZ
  split
  · have h := goZ_in hk (nB_le hk) (oat_in (ord_in hk ho) true) true (c := (TK k).2.2.2.2.1) ⟨by omega, by omega⟩ zt
    refine ⟨h.1, h.2.2.1, ?_⟩
    have := h.2.2.2.1
    omega
  · refine ⟨Or.inl rfl, ⟨Int.le_refl 0, Int.natCast_nonneg _⟩, ?_⟩
    show k 9 2 ≤ (TK k).2.2.2.2.1 ∧ (TK k).2.2.2.2.1 ≤ k 9 2 + 4320
    omega
theorem e_go {s : St} {A : Ab} (hR : RR s A) (x : Int32) : vc_Brt_go x s (fun r s1 => vc_Mod_go x s1 (fun r' s2 => r = r' ∧ RR s2 A)) := by
  obtain ⟨w, hw, rfl⟩ := I_of x
  obtain ⟨hk, -, ho, -⟩ := hR.2.2.1
  have hrc := hR.1.1
  unfold vc_Brt_go
  have e0 : vc_Brt_within (I w) 0 4 = vc_Brt_within (I w) (I 0) (I 4) := rfl
  rw [e0]
  refine sp_within hw ⟨by decide, by decide⟩ ⟨by decide, by decide⟩ ?_
  rw [bi_f]
  have ew0 : (I w = 0) ↔ w = 0 := by simp (disch := (first | omega | (unfold inr; omega))) only [I_lit, I_nI, I_neg, I_add, I_sub, I_mul, I_div, I_le, I_lt, I_eq, I_clamp, I_clampN, I_vin]
  have ew1 : (I w = 1) ↔ w = 1 := by simp (disch := (first | omega | (unfold inr; omega))) only [I_lit, I_nI, I_neg, I_add, I_sub, I_mul, I_div, I_le, I_lt, I_eq, I_clamp, I_clampN, I_vin]
  have ew2 : (I w = 2) ↔ w = 2 := by simp (disch := (first | omega | (unfold inr; omega))) only [I_lit, I_nI, I_neg, I_add, I_sub, I_mul, I_div, I_le, I_lt, I_eq, I_clamp, I_clampN, I_vin]
  have ew3 : (I w = 3) ↔ w = 3 := by simp (disch := (first | omega | (unfold inr; omega))) only [I_lit, I_nI, I_neg, I_add, I_sub, I_mul, I_div, I_le, I_lt, I_eq, I_clamp, I_clampN, I_vin]
  have e1 : vc_Mod_isIn (I w) 0 4 = vc_Mod_isIn (I w) (I 0) (I 4) := rfl
  constructor
  · intro z
    have z : 0 ≤ w ∧ w ≤ 4 := by simpa using z
    refine c_allGo hk ho hrc ?_
    intro s1 hkl hleg _ _
    have hR1 := RR_KC hkl.kc hR
    obtain ⟨l0, l1, l2, l3, l4, l5⟩ := hleg
    have mod : ∀ r : Int32, r = (if w = 0 then (TK A.1).1 else if w = 1 then I (TK A.1).2.2.1 else if w = 2 then I (TK A.1).2.2.2.1 else if w = 3 then I (TK A.1).2.2.2.2.1 else I (TK A.1).2.2.2.2.2.1) → vc_Mod_go (I w) s1 (fun r' s2 => r = r' ∧ RR s2 A) := by
      intro r hr
      unfold vc_Mod_go
      rw [e1]
      refine sp_isIn hw ⟨by decide, by decide⟩ ⟨by decide, by decide⟩ ?_
      rw [bi_f]
      refine ⟨fun _ => ?_, fun q => by simp at q; omega⟩
      intro s2 hs2
      have hR2 : RR s2 A := RR_KM (by rw [hs2]; exact KM_w82 (by decide)) hR1
      refine m_there hk ho hR2.2.1.1 (by rw [hs2]; exact wr_at) ?_
      rintro s3 hkg ⟨t8, t9, t10, t13, t14⟩ _ _
      have hR3 := RR_KM hkg.km hR2
      rw [ew0, ew1, ew2, ew3, t8, t9, t10, t13, t14]
      refine ⟨fun q0 => ⟨fun q1 => ⟨fun q2 => ⟨fun q3 => ⟨?_, hR3⟩, fun q3 => ⟨?_, hR3⟩⟩, fun q2 => ⟨?_, hR3⟩⟩, fun q1 => ⟨?_, hR3⟩⟩, fun q0 => ⟨?_, hR3⟩⟩
      · rw [hr, if_neg q0, if_neg q1, if_neg q2, if_neg q3]
      · rw [hr, if_neg q0, if_neg q1, if_neg q2, if_pos q3]
      · rw [hr, if_neg q0, if_neg q1, if_pos q2]
      · rw [hr, if_neg q0, if_pos q1]
      · rw [hr, if_pos q0]
    rw [ew0, ew1, ew2, ew3, l0, l2, l3, l4, l5]
    refine ⟨fun q0 => mod _ ?_, fun q0 => ⟨fun q1 => mod _ ?_, fun q1 => ⟨fun q2 => mod _ ?_, fun q2 => ⟨fun q3 => mod _ ?_, fun q3 => mod _ ?_⟩⟩⟩⟩
    · rw [if_pos q0]
    · rw [if_neg q0, if_pos q1]
    · rw [if_neg q0, if_neg q1, if_pos q2]
    · rw [if_neg q0, if_neg q1, if_neg q2, if_pos q3]
    · rw [if_neg q0, if_neg q1, if_neg q2, if_neg q3]
  · intro z
    unfold vc_Mod_go
    rw [e1]
    refine sp_isIn hw ⟨by decide, by decide⟩ ⟨by decide, by decide⟩ ?_
    rw [bi_f]
    exact ⟨fun q => absurd z q, fun _ => ⟨rfl, hR⟩⟩
def smk (st : Int) : Int32 := if st = -4 then (-1 : Int32) else (((1 : Int32) <<< (I st &&& 31)) ^^^ (-1 : Int32))
theorem e_back {s : St} {A : Ab} (hR : RR s A) (x : Int32) : vc_Brt_back x s (fun r s1 => vc_Mod_back x s1 (fun r' s2 => r = r' ∧ RR s2 A)) := by
  obtain ⟨w, hw, rfl⟩ := I_of x
  obtain ⟨hk, -, ho, -⟩ := hR.2.2.1
  have hrc := hR.1.1
  have a := hk.1
  have hin := HK_in hk ho
  unfold vc_Brt_back
  have e0 : vc_Brt_within (I w) 0 3 = vc_Brt_within (I w) (I 0) (I 3) := rfl
  rw [e0]
  refine sp_within hw ⟨by decide, by decide⟩ ⟨by decide, by decide⟩ ?_
  rw [bi_f]
  have ew0 : (I w = 0) ↔ w = 0 := by simp (disch := (first | omega | (unfold inr; omega))) only [I_lit, I_nI, I_neg, I_add, I_sub, I_mul, I_div, I_le, I_lt, I_eq, I_clamp, I_clampN, I_vin]
  have ew1 : (I w = 1) ↔ w = 1 := by simp (disch := (first | omega | (unfold inr; omega))) only [I_lit, I_nI, I_neg, I_add, I_sub, I_mul, I_div, I_le, I_lt, I_eq, I_clamp, I_clampN, I_vin]
  have ew2 : (I w = 2) ↔ w = 2 := by simp (disch := (first | omega | (unfold inr; omega))) only [I_lit, I_nI, I_neg, I_add, I_sub, I_mul, I_div, I_le, I_lt, I_eq, I_clamp, I_clampN, I_vin]
  have e1 : vc_Mod_isIn (I w) 0 3 = vc_Mod_isIn (I w) (I 0) (I 3) := rfl
  have est : (I (HK A.1).2.2.1 = -4) ↔ (HK A.1).2.2.1 = -4 := by simp (disch := (first | omega | (unfold inr; omega))) only [I_lit, I_nI, I_neg, I_add, I_sub, I_mul, I_div, I_le, I_lt, I_eq, I_clamp, I_clampN, I_vin]
  have est2 : (0 ≤ I (HK A.1).2.2.1) ↔ ¬ (HK A.1).2.2.1 = -4 := by
    simp (disch := (first | omega | (unfold inr; omega))) only [I_lit, I_nI, I_neg, I_add, I_sub, I_mul, I_div, I_le, I_lt, I_eq, I_clamp, I_clampN, I_vin]
    omega
  constructor
  · intro z
    have z : 0 ≤ w ∧ w ≤ 3 := by simpa using z
    refine c_allReturn hk ho hrc (by decide) ?_
    intro s1 hkl hleg hleg2
    have hR1 := RR_KC hkl.kc hR
    obtain ⟨l0, l1, l2, l3, l4, l5⟩ := hleg
    obtain ⟨n0, n1, n2, n3, n4, n5⟩ := hleg2
    have mod : ∀ r : Int32, r = (if w = 0 then (HK A.1).1 else if w = 1 then I (HK A.1).2.2.1 else if w = 2 then (((TK A.1).1 &&& ((HK A.1).1 ^^^ (-1 : Int32))) &&& smk (HK A.1).2.2.1) else I (HK A.1).2.2.2.2.1) → vc_Mod_back (I w) s1 (fun r' s2 => r = r' ∧ RR s2 A) := by
      intro r hr
      unfold vc_Mod_back
      rw [e1]
      refine sp_isIn hw ⟨by decide, by decide⟩ ⟨by decide, by decide⟩ ?_
      rw [bi_f]
      refine ⟨fun _ => ?_, fun q => by simp at q; omega⟩
      intro s2 hs2
      have hR2 : RR s2 A := RR_KM (by rw [hs2]; exact KM_w82 (by decide)) hR1
      refine m_tab hk ho hR2.2.1.1 (by rw [hs2]; exact wr_at) ?_
      rintro s3 hkg ⟨t8, t9, t10, t13, t14⟩ ⟨t11, t12, t15⟩ _
      have hR3 := RR_KM hkg.km hR2
      rw [ew0, ew1, ew2, t8, t11, t12, t15, est2]
      refine ⟨fun q0 => ⟨fun q1 => ⟨fun q2 => ⟨?_, hR3⟩, fun q2 => ?_⟩, fun q1 => ⟨?_, hR3⟩⟩, fun q0 => ⟨?_, hR3⟩⟩
      · rw [hr, if_neg q0, if_neg q1, if_neg q2]
      · rw [if_neg q0, if_neg q1, if_pos q2] at hr
        refine ⟨fun x => x = smk (HK A.1).2.2.1, ?_, ?_, ?_⟩
        · rintro x18 rfl
          exact ⟨hr, hR3⟩
        · intro c
          unfold smk
          rw [if_neg c]
        · intro c
          unfold smk
          rw [if_pos (Decidable.not_not.mp c)]
      · rw [hr, if_neg q0, if_pos q1]
      · rw [hr, if_pos q0]
    rw [ew0, ew1, ew2, n0, n2, n4]
    refine ⟨fun q0 => mod _ ?_, fun q0 => ⟨fun q1 => mod _ ?_, fun q1 => ⟨fun q2 => ?_, fun q2 => mod _ ?_⟩⟩⟩
    · rw [if_pos q0]
    · rw [if_neg q0, if_pos q1]
    · unfold vc_Tri_shutIn
      rw [show s1 (52 + 1) 0 = _ from l0, show s1 (52 + 3) 0 = _ from n0, show s1 (52 + 3) 2 = _ from n2, est]
      refine ⟨fun x => (x ^^^ (-1 : Int32)) = smk (HK A.1).2.2.1, ?_, ?_, ?_⟩
      · intro x10 hx
        rw [hx]
        exact mod _ (by rw [if_neg q0, if_neg q1, if_pos q2])
      · intro c
        unfold smk
        rw [if_neg c]
      · intro c
        unfold smk
        rw [if_pos c]
        rfl
    · rw [if_neg q0, if_neg q1, if_neg q2]
  · intro z
    unfold vc_Mod_back
    rw [e1]
    refine sp_isIn hw ⟨by decide, by decide⟩ ⟨by decide, by decide⟩ ?_
    rw [bi_f]
    exact ⟨fun q => absurd z q, fun _ => ⟨rfl, hR⟩⟩
