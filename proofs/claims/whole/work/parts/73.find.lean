theorem okL_of {n : Nat} {l : List Nat} (h : okL n l = true) : l.length = n ∧ (∀ i, i < n → l.getD i 0 < n) ∧ ∀ i j, i < n → j < n → l.getD i 0 = l.getD j 0 → i = j := by
  unfold okL at h
  rw [Bool.and_eq_true, List.all_eq_true] at h
  obtain ⟨h1, h2⟩ := h
  have h3 : ∀ i, i < n → (l.getD i 0 < n ∧ ∀ j, j < n → (i = j ∨ ¬ l.getD i 0 = l.getD j 0)) := by
    intro i hi
    have := h2 i (List.mem_range.mpr hi)
    rw [Bool.and_eq_true, List.all_eq_true] at this
    refine ⟨of_decide_eq_true this.1, fun j hj => ?_⟩
    have := this.2 j (List.mem_range.mpr hj)
    rw [Bool.or_eq_true] at this
    rcases this with q | q
    · exact Or.inl (by simpa using q)
    · exact Or.inr (by simpa using q)
  refine ⟨by simpa using h1, fun i hi => (h3 i hi).1, fun i j hi hj e => ?_⟩
  rcases (h3 i hi).2 j hj with q | q
  · exact q
  · exact absurd e q
theorem perm_at {n : Nat} (hn : n < 7) {i : Nat} (h : i < (perms n).length) : (perms n)[i].length = n ∧ (∀ j, j < n → (perms n)[i].getD j 0 < n) ∧ ∀ a b, a < n → b < n → (perms n)[i].getD a 0 = (perms n)[i].getD b 0 → a = b := by
  obtain ⟨-, -, h3, -⟩ := perms_ok n hn
  rw [List.all_eq_true] at h3
  exact okL_of (h3 _ (List.getElem_mem h))
theorem np_some {n : Nat} {l l' : List Nat} (h : npL n l = some l') : ∃ g, npF (fun j => l.getD j 0) n = some g ∧ ∀ j, j < n → g j = l'.getD j 0 := by
  unfold npL at h
  cases hg : npF (fun j => l.getD j 0) n with
  | none => rw [hg] at h; cases h
  | some g =>
    rw [hg] at h
    refine ⟨g, rfl, fun j hj => ?_⟩
    have h : (List.range n).map g = l' := by simpa using h
    rw [← h, List.getD_eq_getElem?_getD, List.getElem?_map, List.getElem?_range hj]
    rfl
theorem np_none {n : Nat} {l : List Nat} (h : npL n l = none) : npF (fun j => l.getD j 0) n = none := by
  unfold npL at h
  cases hg : npF (fun j => l.getD j 0) n with
  | none => rfl
  | some g => rw [hg] at h; cases h
def bestI (k : Kv) (i : Nat) : Int × Int × List Nat := ((perms (nB k)).take i).foldl (bestP k (nB k)) (-1, 0, [])
theorem bestI_s {k : Kv} {i : Nat} (h : i < (perms (nB k)).length) : bestI k (i + 1) = bestP k (nB k) (bestI k i) (perms (nB k))[i] := by
  unfold bestI
  rw [List.take_succ_eq_append_getElem h, List.foldl_append]
  rfl
theorem bestI_all (k : Kv) : bestI k (perms (nB k)).length = bestK k := by
  unfold bestI bestK
  rw [List.take_length]
  rfl
theorem perms_ne {n : Nat} (hn : n < 7) : ∃ h : 0 < (perms n).length, (perms n)[0] = List.range n := by
  obtain ⟨h1, -, -, -⟩ := perms_ok n hn
  cases hp : perms n with
  | nil => rw [hp] at h1; cases h1
  | cons l t =>
    rw [hp] at h1
    have h1 : l = List.range n := by simpa using h1
    exact ⟨Nat.succ_pos _, h1⟩
theorem range_getD {n j : Nat} (h : j < n) : (List.range n).getD j 0 = j := by
  rw [List.getD_eq_getElem?_getD, List.getElem?_range h]
  rfl
theorem c_find {s : St} {k : Kv} (hk : CC k) (hr : RC s 1 k) (hb : BestC s k) {Q : St → Prop} (hQ : ∀ s', (∀ p j, (p < 53 ∨ (56 < p ∧ p ≠ 58 ∧ p ≠ 59 ∧ p ≠ 60)) → s' p j = s p j) → s' 58 4 = 1 → s' 58 1 = I (bestK k).1 → (∀ i : Nat, (i : Int) < k 9 1 → s' 59 i = I ((bestK k).2.2.getD i 0 : Nat)) → Q s') : vc_Best_find 58 1 52 s Q := by
  have hv := hk.1
  have a := hv.1
  have a5 := hv.2.1
  have hn := nB_le hv
  have en : ((nB k : Nat) : Int) = k 9 1 := by unfold nB; omega
  have hn7 : nB k < 7 := by omega
  obtain ⟨hP0, hP1⟩ := perms_ne hn7
  obtain ⟨-, hchk, -, hlen⟩ := perms_ok (nB k) hn7
  have hL : ∀ i, (h : i < (perms (nB k)).length) → ∀ j, j < nB k → (((perms (nB k))[i].getD j 0 : Nat) : Int) < k 9 1 := fun i h j hj => by
    have := (perm_at hn7 h).2.1 j hj
    omega
  have hbI : ∀ i, i ≤ (perms (nB k)).length → bIn k (nB k) (bestI k i) ∧ (0 < i → 0 ≤ (bestI k i).1) := by
    intro i
    induction i with
    | zero =>
      intro _
      exact ⟨⟨(by decide : (-1 : Int) ≤ -1), Int.le_trans (by decide : (-1 : Int) ≤ 0) (Int.natCast_nonneg _), fun h => absurd (show (0 : Int) ≤ -1 from h) (by decide)⟩, fun h => absurd h (Nat.lt_irrefl 0)⟩
    | succ i ih =>
      intro h
      rw [bestI_s (by omega)]
      have := bestP_in hv hn (ih (by omega)).1 (hL i (by omega))
      exact ⟨this.1, fun _ => this.2⟩
  unfold vc_Best_find
  constructor
  · intro _ x11 h11
    rw [show s 11 0 = I (nB k : Nat) from by rw [en]; exact hr.1.2.1] at h11
    subst h11
    refine ⟨fun N t s' => ∃ i : Nat, t = I (i : Nat) ∧ i ≤ nB k ∧ N = nB k - i ∧ (∀ p j, p ≠ 60 → s' p j = s p j) ∧ ∀ j, j < i → s' 60 j = I (j : Nat), ⟨_, 0, rfl, by omega, rfl, fun _ _ _ => rfl, fun j hj => absurd hj (Nat.not_lt_zero j)⟩, ?_⟩
    rintro N t s' ⟨i, rfl, hi, hN, f1, f2⟩
    constructor
    · intro z
      have z : i = nB k := by
        revert z
        simp (disch := (first | omega | (unfold inr; omega))) only [I_lit, I_nI, I_neg, I_add, I_sub, I_mul, I_div, I_le, I_lt, I_eq, I_clamp, I_clampN, I_vin]
        omega
      subst z
      intro s17 h17
      refine ⟨fun N x t s2 => ∃ i : Nat, t = I (i : Nat) ∧ i ≤ (perms (nB k)).length ∧ N = (perms (nB k)).length - i ∧ (∀ p j, (p < 53 ∨ (56 < p ∧ p ≠ 58 ∧ p ≠ 59 ∧ p ≠ 60)) → s2 p j = s p j) ∧ BRc s2 (nB k) (bestI k i) ∧ ((x = 1 ∧ ∃ h : i < (perms (nB k)).length, ∀ j, j < nB k → s2 60 j = I ((perms (nB k))[i].getD j 0 : Nat)) ∨ (x = 0 ∧ i = (perms (nB k)).length)), ⟨_, 0, rfl, Nat.zero_le _, rfl, fun p j hp => by rw [h17, wr_ne (by omega)]; exact f1 p j (by omega), ⟨by rw [h17]; exact wr_at, fun h => absurd (show (0 : Int) ≤ -1 from h) (by decide)⟩, Or.inl ⟨rfl, hP0, fun j hj => ?_⟩⟩, ?_⟩
      · rw [h17, wr_ne (by decide), f2 j hj, hP1, range_getD hj]
      · rintro N x t s2 ⟨i, rfl, hi, hN, g1, g2, g3⟩
        have hr2 : RC s2 1 k := RC_ext (fun q j hq => g1 _ _ (by omega)) hr
        refine ⟨i = (perms (nB k)).length, fun e s24 h24 => ?_, fun q => ?_, fun q => ⟨fun q2 => ?_, fun q2 => ?_⟩⟩
        · subst e
          have hh := (hbI _ (Nat.le_refl _)).2 hP0
          rw [bestI_all] at g2 hh
          obtain ⟨k1, k2⟩ := g2
          obtain ⟨k3, k4⟩ := k2 hh
          refine hQ s24 (fun p j hp => by rw [h24, wr_ne (by omega)]; exact g1 p j hp) (by rw [h24]; exact wr_at) (by rw [h24, wr_off (by decide)]; exact k1) (fun j hj => by rw [h24, wr_ne (by decide)]; exact k4 j (by omega))
        · rcases g3 with ⟨g4, _⟩ | ⟨_, g4⟩
          · rw [g4] at q; exact absurd q (by decide)
          · exact g4
        · have : 720 ≤ i := by
            revert q2
            simp (disch := (first | omega | (unfold inr; omega))) only [I_lit, I_nI, I_neg, I_add, I_sub, I_mul, I_div, I_le, I_lt, I_eq, I_clamp, I_clampN, I_vin]
            omega
          omega
        · rcases g3 with ⟨g4, hlt, g5⟩ | ⟨g4, _⟩
          · rw [show s2 1 5 = I (k 9 2) from hr2.1.2.2.1]
            refine c_tabL hv hr2 (by decide) (by omega) hn hn (by decide) (l := fun j => (perms (nB k))[i].getD j 0) (fun j hj => ⟨g5 j hj, hL i hlt j hj⟩) ⟨by omega, by omega⟩ ?_
            intro s28 hkl ht hh
            have hbi := (hbI i (by omega)).1
            have g228 : BRc s28 (nB k) (bestI k i) := ⟨(hkl _ _ (by omega)).trans g2.1, fun h => ⟨(hkl _ _ (by omega)).trans (g2.2 h).1, fun j hj => (hkl _ _ (by omega)).trans ((g2.2 h).2 j hj)⟩⟩
            refine c_weigh hv hn hbi g228 (l := (perms (nB k))[i]) (hL i hlt) (fun j hj => (hkl _ _ (by omega)).trans (g5 j hj)) hh.2.1 hh.2.2.2.2.1 ?_
            intro s29 f29 g29
            rw [← bestI_s hlt] at g29
            refine sp_next (f := fun j => (perms (nB k))[i].getD j 0) hn (fun j hj => by have := (perm_at hn7 hlt).2.1 j hj; show (perms (nB k))[i].getD j 0 < 6; omega) (fun j hj => (f29 _ _ (by decide) (by decide)).trans ((hkl _ _ (by omega)).trans (g5 j hj))) (fun h0 => ?_) (fun g hg s31 f31 g31 => ?_)
            · intro x32 h32
              refine ⟨(perms (nB k)).length - (i + 1), by omega, i + 1, ?_, by omega, rfl, fun p j hp => (f29 p j (by omega) (by omega)).trans ((hkl p j (by omega)).trans (g1 p j hp)), g29, Or.inr ⟨rfl, ?_⟩⟩
              · rw [h32]
                simp (disch := (first | omega | (unfold inr; omega))) only [I_lit, I_nI, I_neg, I_add, I_sub, I_mul, I_div, I_le, I_lt, I_eq, I_clamp, I_clampN, I_vin]
                congr 1
              · have hc := chk_at _ hchk i hlt
                by_cases e : i + 1 < (perms (nB k)).length
                · rw [dif_pos e] at hc
                  obtain ⟨g, hg, -⟩ := np_some hc
                  rw [hg] at h0
                  cases h0
                · omega
            · intro x32 h32
              have hc := chk_at _ hchk i hlt
              by_cases e : i + 1 < (perms (nB k)).length
              · rw [dif_pos e] at hc
                obtain ⟨g', hg', hgj⟩ := np_some hc
                rw [hg'] at hg
                cases hg
                refine ⟨(perms (nB k)).length - (i + 1), by omega, i + 1, ?_, by omega, rfl, fun p j hp => (f31 p j (by omega)).trans ((f29 p j (by omega) (by omega)).trans ((hkl p j (by omega)).trans (g1 p j hp))), ⟨(f31 _ _ (by decide)).trans g29.1, fun h => ⟨(f31 _ _ (by decide)).trans (g29.2 h).1, fun j hj => (f31 _ _ (by decide)).trans ((g29.2 h).2 j hj)⟩⟩, Or.inl ⟨rfl, e, fun j hj => ?_⟩⟩
                · rw [h32]
                  simp (disch := (first | omega | (unfold inr; omega))) only [I_lit, I_nI, I_neg, I_add, I_sub, I_mul, I_div, I_le, I_lt, I_eq, I_clamp, I_clampN, I_vin]
                  congr 1
                · rw [← hgj j hj]
                  exact g31 j hj
              · rw [dif_neg e] at hc
                have := np_none hc
                rw [this] at hg
                cases hg
          · exact absurd g4 q
    · intro z
      have z : i < nB k := by
        revert z
        simp (disch := (first | omega | (unfold inr; omega))) only [I_lit, I_nI, I_neg, I_add, I_sub, I_mul, I_div, I_le, I_lt, I_eq, I_clamp, I_clampN, I_vin]
        omega
      refine ⟨I_vinN (by omega) (by decide), ?_⟩
      intro s35 h35 x36 h36
      rw [I_clampN (by omega)] at h35
      refine ⟨nB k - (i + 1), by omega, i + 1, ?_, by omega, rfl, fun p j hp => by rw [h35, wr_ne (by omega)]; exact f1 p j hp, fun j hj => ?_⟩
      · rw [h36]
        simp (disch := (first | omega | (unfold inr; omega))) only [I_lit, I_nI, I_neg, I_add, I_sub, I_mul, I_div, I_le, I_lt, I_eq, I_clamp, I_clampN, I_vin]
        congr 1
      · rw [h35]
        by_cases e : j = i
        · subst e
          exact wr_at
        · rw [wr_off e]
          exact f2 j (by omega)
  · intro z
    rcases hb with h | ⟨h1, h2, h3⟩
    · exact absurd h z
    · exact hQ s (fun _ _ _ => rfl) h1 h2 h3
theorem RR_best {s s' : St} {A : Ab} (hR : RR s A) (h : ∀ p j, (p < 53 ∨ (56 < p ∧ p ≠ 58 ∧ p ≠ 59 ∧ p ≠ 60)) → s' p j = s p j) (h1 : s' 58 4 = 1) (h2 : s' 58 1 = I (bestK A.1).1) (h3 : ∀ i : Nat, (i : Int) < A.1 9 1 → s' 59 i = I ((bestK A.1).2.2.getD i 0 : Nat)) : RR s' A := by
  obtain ⟨⟨c1, c2, c3, c4, c5⟩, hm, hv⟩ := hR
  exact ⟨⟨RC_ext (fun q j hq => h _ _ (by omega)) c1, (h _ _ (by omega)).trans c2, fun z => RC_ext (fun q j hq => h _ _ (by omega)) (c3 z), fun d hd => ShC_ext hd (fun p j a b => h p j (by omega)) (c4 d hd), Or.inr ⟨h1, h2, h3⟩⟩, AM_ext (fun p j hp => h p j (by omega)) (h _ _ (by omega)) hm, hv⟩
