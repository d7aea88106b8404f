def subP (n f : Nat) (M b : Nat) : List (List Nat) := if M.testBit b then (permsM n f (M ^^^ 2 ^ b)).map (b :: ·) else []
theorem m_each {s0 : St} {k : Kv} (hk : CC k) : ∀ (f d : Nat) (p : List Nat) (M : Nat) (s : St) (b : Int × Int × List Nat), f < d → p.length + f = nB k → M < 64 → pcN M = f → PI (nB k) p M → MT s0 s → RO s k → PO s p → BM s (nB k) b → bIn k (nB k) b → ∀ Q : St → Prop, (∀ s', MT s0 s' → RO s' k → PO s' p → BM s' (nB k) (((permsM (nB k) f M).map (p ++ ·)).foldl (bestP k (nB k)) b) → bIn k (nB k) (((permsM (nB k) f M).map (p ++ ·)).foldl (bestP k (nB k)) b) → Q s') → vc_Mod_eachOrder d (I (p.length : Nat)) (I (M : Nat)) s Q := by
  have hv := hk.1
  have a := hv.1
  have hn := nB_le hv
  have en : ((nB k : Nat) : Int) = k 9 1 := by unfold nB; omega
  intro f
  induction f with
  | zero =>
    intro d p M s b hd hp hM hpc hpi hmt hro hpo hbm hbi Q hQ
    obtain ⟨d, rfl⟩ : ∃ d', d = d' + 1 := ⟨d - 1, by omega⟩
    have hM0 : M = 0 := (pc_0 M hM).mp hpc
    subst hM0
    refine m_leaf hk (by omega) hpi hmt hro hpo hbm hbi ?_
    intro s' h1 h2 h3 h4
    have e : ((permsM (nB k) 0 0).map (p ++ ·)).foldl (bestP k (nB k)) b = bestP k (nB k) b p := by
      show bestP k (nB k) b (p ++ []) = _
      rw [List.append_nil]
    refine hQ s' h1 h2 h3 (by rw [e]; exact h4) ?_
    rw [e]
    exact (bestP_in hv hn hbi (fun j hj => by have := (hpi.1 j (by omega)).1; omega)).1
  | succ f ih =>
    intro d p M s b hd hp hM hpc hpi hmt hro hpo hbm hbi Q hQ
    obtain ⟨d, rfl⟩ : ∃ d', d = d' + 1 := ⟨d - 1, by omega⟩
    have hM0 : ¬ M = 0 := fun e => by have := (pc_0 M hM).mpr e; omega
    have vi : vp_in (1 : Int32) 78 := v_in (a := 1) ⟨by decide, by decide⟩ (by decide) rfl
    unfold vc_Mod_eachOrder
    refine ⟨fun _ => ?_, fun q => ?_⟩
    · refine ⟨fun N t s' => ∃ i : Nat, t = I (i : Nat) ∧ i ≤ nB k ∧ N = nB k - i ∧ MT s0 s' ∧ RO s' k ∧ PO s' p ∧ BM s' (nB k) ((((List.range i).flatMap (subP (nB k) f M)).map (p ++ ·)).foldl (bestP k (nB k)) b) ∧ bIn k (nB k) ((((List.range i).flatMap (subP (nB k) f M)).map (p ++ ·)).foldl (bestP k (nB k)) b), ⟨_, 0, rfl, by omega, rfl, hmt, hro, hpo, hbm, hbi⟩, ?_⟩
      rintro N t s' ⟨i, rfl, hi, hN, m1, m2, m3, m4, m5⟩
      rw [show s' 83 (Int32.toNatClampNeg 1) = I (nB k : Nat) from by rw [en]; exact m2.1 1 (by decide)]
      refine ⟨vi, fun z => ?_, fun z => ?_⟩
      · have z : i = nB k := by
          revert z
          simp (disch := (first | omega | (unfold inr; omega))) only [I_lit, I_nI, I_neg, I_add, I_sub, I_mul, I_div, I_le, I_lt, I_eq, I_clamp, I_clampN, I_vin]
          omega
        subst z
        exact hQ s' m1 m2 m3 m4 m5
      · have z : i < nB k := by
          revert z
          simp (disch := (first | omega | (unfold inr; omega))) only [I_lit, I_nI, I_neg, I_add, I_sub, I_mul, I_div, I_le, I_lt, I_eq, I_clamp, I_clampN, I_vin]
          omega
        have es : ((List.range (i + 1)).flatMap (subP (nB k) f M)).map (p ++ ·) = ((List.range i).flatMap (subP (nB k) f M)).map (p ++ ·) ++ (subP (nB k) f M i).map (p ++ ·) := by
          rw [List.range_succ, List.flatMap_append, List.map_append]
          simp
        refine ⟨fun s2 => MT s0 s2 ∧ RO s2 k ∧ PO s2 p ∧ BM s2 (nB k) ((((List.range (i + 1)).flatMap (subP (nB k) f M)).map (p ++ ·)).foldl (bestP k (nB k)) b) ∧ bIn k (nB k) ((((List.range (i + 1)).flatMap (subP (nB k) f M)).map (p ++ ·)).foldl (bestP k (nB k)) b), ?_, fun c => ?_, fun c => ?_⟩
        · rintro s17 ⟨q1, q2, q3, q4, q5⟩ x19 h19
          refine ⟨nB k - (i + 1), by omega, i + 1, ?_, by omega, rfl, q1, q2, q3, q4, q5⟩
          rw [h19]
          simp (disch := (first | omega | (unfold inr; omega))) only [I_lit, I_nI, I_neg, I_add, I_sub, I_mul, I_div, I_le, I_lt, I_eq, I_clamp, I_clampN, I_vin]
          congr 1
        · rw [awb_0, tb_1 M hM i (by omega)] at c
          have c : M.testBit i = true := by simpa using c
          obtain ⟨t1, t2, t3, t4⟩ := tb_2 M hM i (by omega) c
          have e72 : (72 : Int32) + I (p.length : Int) = I ((72 + p.length : Nat) : Int) := by
            simp (disch := (first | omega | (unfold inr; omega))) only [I_lit, I_nI, I_neg, I_add, I_sub, I_mul, I_div, I_le, I_lt, I_eq, I_clamp, I_clampN, I_vin]
            congr 1
          have e1 : I (p.length : Int) + 1 = I (((p ++ [i]).length : Nat) : Int) := by
            rw [List.length_append]
            show I (p.length : Int) + 1 = I ((p.length + 1 : Nat) : Int)
            simp (disch := (first | omega | (unfold inr; omega))) only [I_lit, I_nI, I_neg, I_add, I_sub, I_mul, I_div, I_le, I_lt, I_eq, I_clamp, I_clampN, I_vin]
            congr 1
          rw [e72, I_clampN (by omega), e1, t1]
          refine ⟨I_vinN (by omega) (by decide), ?_⟩
          intro s23 h23
          have hlen : (p ++ [i]).length = p.length + 1 := by rw [List.length_append]; rfl
          have hpo23 : PO s23 (p ++ [i]) := by
            intro j hj
            rw [hlen] at hj
            rw [h23]
            by_cases e : j = p.length
            · subst e
              rw [wr_at, getD_r]
            · rw [wr_off (by omega), getD_l (by omega)]
              exact m3 j (by omega)
          have hpi23 : PI (nB k) (p ++ [i]) (M ^^^ 2 ^ i) := by
            refine ⟨fun j hj => ?_, fun u v hu hv' e => ?_⟩
            · rw [hlen] at hj
              by_cases e : j = p.length
              · subst e
                rw [getD_r]
                exact ⟨z, t4⟩
              · rw [getD_l (by omega)]
                obtain ⟨p1, p2⟩ := hpi.1 j (by omega)
                exact ⟨p1, tb_3 M hM i (by omega) _ (by omega) c p2⟩
            · rw [hlen] at hu hv'
              by_cases e1 : u = p.length
              · by_cases e2 : v = p.length
                · omega
                · subst e1
                  rw [getD_r, getD_l (by omega)] at e
                  have := (hpi.1 v (by omega)).2
                  rw [← e, c] at this
                  cases this
              · by_cases e2 : v = p.length
                · subst e2
                  rw [getD_r, getD_l (by omega)] at e
                  have := (hpi.1 u (by omega)).2
                  rw [e, c] at this
                  cases this
                · rw [getD_l (by omega), getD_l (by omega)] at e
                  exact hpi.2 u v (by omega) (by omega) e
          refine ih d (p ++ [i]) (M ^^^ 2 ^ i) s23 _ (by omega) (by rw [hlen]; omega) t2 (by omega) hpi23 (by rw [h23]; exact m1.put) (by rw [h23]; exact RO_put hv m2) hpo23 ⟨by rw [h23, wr_ne (by decide)]; exact m4.1, fun h => ⟨by rw [h23, wr_ne (by decide)]; exact (m4.2 h).1, fun j hj => by rw [h23, wr_ne (by decide)]; exact (m4.2 h).2 j hj⟩⟩ m5 _ ?_
          intro s2 q1 q2 q3 q4 q5
          have eL : (permsM (nB k) f (M ^^^ 2 ^ i)).map ((p ++ [i]) ++ ·) = (subP (nB k) f M i).map (p ++ ·) := by
            unfold subP
            rw [if_pos c, List.map_map]
            congr 1
            funext l
            simp
          rw [eL, ← List.foldl_append, ← es] at q4 q5
          refine ⟨q1, q2, fun j hj => ?_, q4, q5⟩
          rw [q3 j (by rw [hlen]; omega), getD_l hj]
        · rw [awb_0, tb_1 M hM i (by omega)] at c
          have eL : subP (nB k) f M i = [] := by unfold subP; rw [c]; rfl
          rw [es, eL]
          simp only [List.map_nil, List.append_nil]
          exact ⟨m1, m2, m3, m4, m5⟩
    · exfalso
      apply hM0
      have q : I ((M : Nat) : Int) = I 0 := q
      rw [I_eq ⟨by omega, by omega⟩ ⟨by omega, by omega⟩] at q
      omega
def orderA (k : Kv) (i : Int) : Int := if i < -1 then -1 else if k 9 1 ≤ i then -4 else if i = -1 then (bestK k).1 else (((bestK k).2.2.getD i.toNat 0 : Nat) : Int)
theorem e_order {s : St} {A : Ab} (hR : RR s A) (x : Int32) : vc_Brt_order x s (fun r s1 => vc_Mod_order x s1 (fun r' s2 => r = r' ∧ RR s2 A)) := by
  obtain ⟨i, hi, rfl⟩ := I_of x
  obtain ⟨hi1, hi2⟩ := id hi
  have hC := hR.2.2.1
  have hk := hC.1
  have a := hk.1
  have hn := nB_le hk
  have en : ((nB A.1 : Nat) : Int) = A.1 9 1 := by unfold nB; omega
  obtain ⟨f1, f2, f3⟩ := pc_full (nB A.1) (by omega)
  have em1 : (-1 : Int32) ≤ I i ↔ -1 ≤ i := by simp (disch := (first | omega | (unfold inr; omega))) only [I_lit, I_nI, I_neg, I_add, I_sub, I_mul, I_div, I_le, I_lt, I_eq, I_clamp, I_clampN, I_vin]
  have e0 : (0 : Int32) ≤ I i ↔ 0 ≤ i := by simp (disch := (first | omega | (unfold inr; omega))) only [I_lit, I_nI, I_neg, I_add, I_sub, I_mul, I_div, I_le, I_lt, I_eq, I_clamp, I_clampN, I_vin]
  have en1 : (I i = -1) ↔ i = -1 := by simp (disch := (first | omega | (unfold inr; omega))) only [I_lit, I_nI, I_neg, I_add, I_sub, I_mul, I_div, I_le, I_lt, I_eq, I_clamp, I_clampN, I_vin]
  have mod : ∀ s1 : St, RR s1 A → vc_Mod_order (I i) s1 (fun r' s2 => I (orderA A.1 i) = r' ∧ RR s2 A) := by
    intro s1 hR1
    unfold vc_Mod_order
    rw [em1, e0]
    refine ⟨fun z => ?_, fun z => ⟨by unfold orderA; rw [if_pos (by omega)]; rfl, hR1⟩⟩
    refine sp_copies (by decide) ?_
    intro s11 g1 g2 s12 h12
    obtain ⟨mt12, hm12⟩ := MT_begin g1 g2 h12 hR1.2.1.1
    intro s13 h13 s14 h14
    have f14 : ∀ p j, (p ≠ 82 ∨ (j ≠ 23 ∧ j ≠ 24)) → s14 p j = s12 p j := by
      intro p j h
      rw [h14, h13]
      unfold wr
      repeat' split
      all_goals first | rfl | (exfalso; omega)
    have mt14 : MT s1 s14 := ⟨fun p j hp => (f14 p j (by omega)).trans (mt12.1 p j hp), (f14 _ _ (by omega)).trans mt12.2.1, fun j hj => (f14 _ _ (by omega)).trans (mt12.2.2.1 j hj), (f14 _ _ (by omega)).trans mt12.2.2.2⟩
    have hro : RO s14 A.1 := RO_ext (fun j => f14 _ _ (by omega)) ⟨hm12.1, hm12.2.1, fun b hb => (hm12.2.2 b hb).1⟩
    have e1 : s14 83 (Int32.toNatClampNeg 1) = I (nB A.1 : Nat) := (hro.1 1 (by decide)).trans (by rw [en])
    have vi : vp_in (1 : Int32) 78 := v_in (a := 1) ⟨by decide, by decide⟩ (by decide) rfl
    rw [e1, f3]
    refine ⟨vi, ?_⟩
    refine m_each (s0 := s1) hC (nB A.1) 8 [] (2 ^ nB A.1 - 1) s14 (-1, 0, []) (by omega) (by simp) f2 f1 ⟨fun j hj => absurd hj (Nat.not_lt_zero j), fun u v hu => absurd hu (Nat.not_lt_zero u)⟩ mt14 hro (fun j hj => absurd hj (Nat.not_lt_zero j)) ⟨by rw [h14, wr_off (by decide), h13, wr_at]; rfl, fun h => absurd (show (0 : Int) ≤ -1 from h) (by decide)⟩ ⟨(by decide : (-1 : Int) ≤ -1), Int.le_trans (by decide : (-1 : Int) ≤ 0) (Int.natCast_nonneg _), fun h => absurd (show (0 : Int) ≤ -1 from h) (by decide)⟩ _ ?_
    intro s16 q1 q2 q3 q4 q5
    have eb : ((permsM (nB A.1) (nB A.1) (2 ^ nB A.1 - 1)).map ([] ++ ·)).foldl (bestP A.1 (nB A.1)) (-1, 0, []) = bestK A.1 := by
      rw [permsM_ok (nB A.1) (by omega)]
      show ((perms (nB A.1)).map (fun l => l)).foldl (bestP A.1 (nB A.1)) (-1, 0, []) = _
      rw [List.map_id']
      rfl
    rw [eb] at q4 q5
    refine q1.end hR1 ?_
    intro s17 hR17 g17
    have e17 : s17 83 (Int32.toNatClampNeg 1) = I (A.1 9 1) := hR17.2.1.1.1 1 (by decide)
    have hb0 : 0 ≤ (bestK A.1).1 := by
      obtain ⟨hP0, -⟩ := perms_ne (n := nB A.1) (by omega)
      have hbI : ∀ i, i ≤ (perms (nB A.1)).length → bIn A.1 (nB A.1) (bestI A.1 i) ∧ (0 < i → 0 ≤ (bestI A.1 i).1) := by
        intro i
        induction i with
        | zero =>
          intro _
          exact ⟨⟨(by decide : (-1 : Int) ≤ -1), Int.le_trans (by decide : (-1 : Int) ≤ 0) (Int.natCast_nonneg _), fun h => absurd (show (0 : Int) ≤ -1 from h) (by decide)⟩, fun h => absurd h (Nat.lt_irrefl 0)⟩
        | succ i ih =>
          intro h
          rw [bestI_s (by omega)]
          have := bestP_in hk hn (ih (by omega)).1 (l := (perms (nB A.1))[i]) (fun j hj => by
            have := (perm_at (n := nB A.1) (by omega) (i := i) (by omega)).2.1 j hj
            omega)
          exact ⟨this.1, fun _ => this.2⟩
      have := (hbI _ (Nat.le_refl _)).2 hP0
      rw [bestI_all] at this
      exact this
    rw [e17, show (I (A.1 9 1) ≤ I i) ↔ A.1 9 1 ≤ i from by simp (disch := (first | omega | (unfold inr; omega))) only [I_lit, I_nI, I_neg, I_add, I_sub, I_mul, I_div, I_le, I_lt, I_eq, I_clamp, I_clampN, I_vin]]
    unfold orderA
    rw [if_neg (show ¬ i < -1 by omega)]
    refine ⟨fun c => ⟨vi, fun c2 => ⟨?_, hR17⟩, fun c2 => ?_⟩, fun c => ⟨?_, hR17⟩⟩
    · rw [if_pos c2]
      rfl
    · have hin : vp_in (I i) 6 := (I_vin hi).mpr ⟨by omega, by omega⟩
      rw [I_clamp (by omega) (by omega), if_neg c2, if_neg (by omega)]
      refine ⟨hin, ?_, hR17⟩
      exact ((g17 _ _ (by decide)).trans ((q4.2 hb0).2 _ (by omega))).symm
    · rw [if_neg (by omega), if_pos (by omega)]
      exact ((g17 _ _ (by decide)).trans q4.1).symm
  unfold vc_Brt_order
  rw [em1, en1, show s 11 0 = I (A.1 9 1) from hR.1.1.1.2.1, show (I i < I (A.1 9 1)) ↔ i < A.1 9 1 from by simp (disch := (first | omega | (unfold inr; omega))) only [I_lit, I_nI, I_neg, I_add, I_sub, I_mul, I_div, I_le, I_lt, I_eq, I_clamp, I_clampN, I_vin]]
  refine ⟨fun z => ⟨fun z2 => ?_, fun z2 => ?_⟩, fun z => ?_⟩
  · refine c_find hC hR.1.1 hR.1.2.2.2.2 ?_
    intro s12 h1 h2 h3 h4
    have hR12 := RR_best hR h1 h2 h3 h4
    have hm := mod s12 hR12
    unfold orderA at hm
    rw [if_neg (by omega), if_neg (by omega)] at hm
    refine ⟨fun c => ?_, fun c => ?_⟩
    · rw [if_neg c] at hm
      have hin : vp_in (I i) 6 := (I_vin hi).mpr ⟨by omega, by omega⟩
      refine ⟨hin, ?_⟩
      rw [I_clamp (by omega) (by omega), h4 _ (by omega)]
      exact hm
    · rw [if_pos c] at hm
      rw [h3]
      exact hm
  · have hm := mod s hR
    unfold orderA at hm
    rw [if_neg (by omega), if_pos (by omega)] at hm
    exact hm
  · have hm := mod s hR
    unfold orderA at hm
    rw [if_pos (by omega)] at hm
    exact hm
