theorem e_cave {s : St} {A : Ab} (hR : RR s A) (x : Int32) : vc_Brt_cave x s (fun r s1 => vc_Mod_cave x s1 (fun r' s2 => r = r' ∧ ∃ A', RR s2 A')) := by
  obtain ⟨d, hd, rfl⟩ := I_of x
  have hC := hR.2.2.1
  have hk := hC.1
  have hrc := hR.1.1
  have hrm := hR.2.1.1
  have hri := ref_in A.2.2.2.1 2 d
  have e0 : (I (refZ A.2.2.2.1 2 d) = 0) ↔ refZ A.2.2.2.1 2 d = 0 := by simp (disch := (first | omega | (unfold inr; omega))) only [I_lit, I_nI, I_neg, I_add, I_sub, I_mul, I_div, I_le, I_lt, I_eq, I_clamp, I_clampN, I_vin]
  -- the model refuses
  have modr : ∀ (s1 : St), (∀ p j, 92 ≤ p → s1 p j = s p j) → ¬ refT A.2.2.2.1 d = 0 → RR s1 A → vc_Mod_cave (I d) s1 (fun r' s2 => I (refT A.2.2.2.1 d) = r' ∧ ∃ A', RR s2 A') := by
    intro s1 hf hne hR1
    unfold vc_Mod_cave
    refine m_refT (fun d hd => ShM_ext hf (hR.2.1.2.2.2 d hd)) hR.2.2.2.2 hd ?_
    have hin : refT A.2.2.2.1 d = -1 ∨ refT A.2.2.2.1 d = -11 ∨ refT A.2.2.2.1 d = -12 ∨ refT A.2.2.2.1 d = 0 := by
      unfold refT
      repeat' split
      all_goals simp
    rw [show (I (refT A.2.2.2.1 d) = 0) ↔ refT A.2.2.2.1 d = 0 from by simp (disch := (first | omega | (unfold inr; omega))) only [I_lit, I_nI, I_neg, I_add, I_sub, I_mul, I_div, I_le, I_lt, I_eq, I_clamp, I_clampN, I_vin]]
    exact ⟨fun c => absurd c hne, fun _ => ⟨rfl, A, hR1⟩⟩
  unfold vc_Brt_cave
  refine c_refR hR hd ?_
  rw [e0]
  constructor
  · intro c
    have c2 := (ref_0 (Or.inr rfl)).mp c
    obtain ⟨d, rfl, hd8⟩ := nat_of (n := 8) ⟨c2.1.1, by omega⟩
    have hd8 : d < 8 := by omega
    have hind : vp_in (I (d : Int)) 8 := I_vinN (by omega) (by decide)
    have c3 : A.2.2.2.1 d 0 = 2 := by simpa using c2.2
    obtain ⟨s3, s4, s5⟩ := (hR.1.2.2.2.1 d hd8).2.2 c3
    obtain ⟨m3, m4, m5⟩ := (hR.2.1.2.2.2 d hd8).2.2 c3
    obtain ⟨v1, v2⟩ := (hR.2.2.2.2 d hd8).2.2 c3
    rw [shp_I hd8, s3, show (I (A.2.2.2.1 d 3) = 0) ↔ A.2.2.2.1 d 3 = 0 from by simp (disch := (first | omega | (unfold inr; omega))) only [I_lit, I_nI, I_neg, I_add, I_sub, I_mul, I_div, I_le, I_lt, I_eq, I_clamp, I_clampN, I_vin]]
    refine ⟨hind, fun c4 => ?_, fun c4 => ?_⟩
    · have v2 := v2 c4
      obtain ⟨l, el⟩ : ∃ l : Nat, A.2.2.2.1 d 4 = l := ⟨(A.2.2.2.1 d 4).toNat, by omega⟩
      have hl : l ≤ 100 := by omega
      generalize ez : (fun j => (A.2.2.2.2 d j).toInt) = z
      have hz : ∀ j, j < 100 → -128 ≤ z j ∧ z j ≤ 127 := fun j _ => by rw [← ez]; exact v2 j
      have ezI : ∀ j, A.2.2.2.2 d j = I (z j) := fun j => by rw [← ez]; exact (I_toInt _).symm
      have ht : TX s d z l := ⟨hl, hz, ⟨by rw [s4, el], fun j hj => by rw [s5 j hj, ezI]⟩, by rw [m4, el], fun j hj => by rw [m5 j hj, ezI]⟩
      have eT : refT A.2.2.2.1 (d : Int) = 0 := by
        unfold refT
        rw [if_pos (by omega), Int.toNat_natCast, if_neg (by omega), if_pos ⟨c3, c4⟩]
      have mod : ∀ (s1 : St) (Q : Int32 → St → Prop), RM s1 83 A.1 → (∀ p j, 92 ≤ p → s1 p j = s p j) →
          ((brk z l (posF z (lastS z l))).2 = false → ∀ s', MCs s1 s' → RM s' 83 A.1 → Q (-1000 - I ((brk z l (posF z (lastS z l))).1 : Nat)) s') →
          ((brk z l (posF z (lastS z l))).2 = true → ∀ i k', i ≤ lastS z l → doN A.1 z i = some k' → doS k' z (posF z i) = none → ∀ s', MCs s1 s' → RM s' 83 A.1 → Q (-2000 - I (posF z i : Nat)) s') →
          ((brk z l (posF z (lastS z l))).2 = true → ∀ k', doN A.1 z (lastS z l + 1) = some k' → CC k' → ∀ s', MCs s1 s' → RM s' 83 k' → Q (I (lastS z l + 1 : Nat)) s') → vc_Mod_cave (I (d : Int)) s1 Q := by
        intro s1 Q hm hf q2 q3 q4
        unfold vc_Mod_cave
        refine m_refT (fun d hd => ShM_ext hf (hR.2.1.2.2.2 d hd)) hR.2.2.2.2 hd ?_
        rw [eT]
        refine ⟨fun _ => ?_, fun c => absurd rfl c⟩
        exact m_cave hC hm hd8 hl hz ((hf _ _ (by decide)).trans (by rw [m4, el])) (fun j hj => (hf _ _ (by decide)).trans (by rw [m5 j hj, ezI])) q2 q3 q4
      obtain ⟨t1, t2, t3⟩ := lastS_of (z := z) hl
      have hpos : ∀ i, i ≤ lastS z l → posF z i ≤ l := by
        intro i hi
        cases i with
        | zero => exact Nat.zero_le _
        | succ i => have := (go_on (t1 i (by omega))).2; omega
      have rrm : ∀ s1 s', RR s1 A → MCs s1 s' → RM s' 83 A.1 → RR s' A := fun s1 s' h1 h2 h3 => RR_m h1 h2.1 h2.2 h3
      refine c_broken ht (fun hb => ?_) (fun hb => ?_)
      · refine ⟨fun _ => ?_, fun q => absurd (by decide) q⟩
        have hok : ∀ i, i ≤ lastS z l → (brk z l (posF z i)).2 = true := by
          intro i hi
          rcases Nat.lt_or_ge i (lastS z l) with w | w
          · exact (go_on (t1 i w)).1
          · have : i = lastS z l := by omega
            rw [this]; exact hb
        have hend : l ≤ posF z (lastS z l + 1) := by
          rcases t2 with v | v
          · rw [hb] at v; cases v
          · exact v
        have hp2 : ∀ i, i ≤ lastS z l + 1 → posF z i ≤ 110 := by
          intro i hi
          rcases Nat.lt_or_ge (lastS z l) i with u | u
          · have : i = lastS z l + 1 := by omega
            rw [this, posF_s]
            have := hpos (lastS z l) (Nat.le_refl _)
            have := digs_le (z (posF z (lastS z l)))
            omega
          · have := hpos i u
            omega
        refine sp_become hk hrc (by omega) ?_
        intro s18 f18 hr18
        refine ⟨fun N x19 x20 s' => ∃ (i : Nat) (k' : Kv), x19 = I (i : Nat) ∧ x20 = I (posF z i : Nat) ∧ i ≤ lastS z l + 1 ∧ N = 102 - i ∧ KC s s' ∧ doN A.1 z i = some k' ∧ CC k' ∧ RC s' 35 k', ⟨_, 0, A.1, rfl, rfl, Nat.zero_le _, rfl, KC_become f18, rfl, hC, hr18⟩, ?_⟩
        rintro N x19 x20 s' ⟨i, k', rfl, rfl, hi, hN, hkc, hdo, hCk, hrk⟩
        have hpi := hp2 i hi
        have ht' : TX s' d z l := ⟨hl, hz, ⟨(hkc _ _ (by omega)).trans ht.2.2.1.1, fun j hj => (hkc _ _ (by omega)).trans (ht.2.2.1.2 j hj)⟩, (hkc _ _ (by omega)).trans ht.2.2.2.1, fun j hj => (hkc _ _ (by omega)).trans (ht.2.2.2.2 j hj)⟩
        rw [ht'.2.2.1.1]
        constructor
        · intro q
          have q : l ≤ posF z i := by
            revert q
            simp (disch := (first | omega | (unfold inr; omega))) only [I_lit, I_nI, I_neg, I_add, I_sub, I_mul, I_div, I_le, I_lt, I_eq, I_clamp, I_clampN, I_vin]
            omega
          have ei : i = lastS z l + 1 := by
            rcases Nat.lt_or_ge (lastS z l) i with u | u
            · omega
            · obtain ⟨w, -⟩ := brk_t (hok i u)
              omega
          subst ei
          refine sp_become hCk.1 hrk (by omega) ?_
          intro s25 f25 hr25
          unfold vc_Best_forget
          intro s26 h26
          have f26 : ∀ p j, (p = 0 ∨ (18 ≤ p ∧ p < 35) ∨ 65 ≤ p) → s26 p j = s p j := fun p j hp => by
            rw [h26, wr_ne (by omega), f25 p j (by omega)]
            exact hkc p j (by omega)
          have hr26 : RC s26 1 k' := RC_ext (fun q j hq => by rw [h26]; exact wr_ne (by omega)) hr25
          have hm26 : RM s26 83 A.1 := RM_ext (fun j => f26 83 j (by omega)) hrm
          refine mod s26 _ hm26 (fun p j hp => f26 p j (by omega)) (fun hb2 => ?_) (fun _ i2 k2 hi2 hd2 hn2 => ?_) (fun _ k2 hd2 hC2 s2 hms hm2 => ?_)
          · rw [hb] at hb2; cases hb2
          · exfalso
            have : ∀ j, i2 < j → doN A.1 z j = none := by
              intro j
              induction j with
              | zero => intro h; omega
              | succ j ih =>
                intro h
                rcases Nat.lt_or_ge i2 j with u | u
                · show (doN A.1 z j).bind _ = none
                  rw [ih u]
                  rfl
                · have : j = i2 := by omega
                  rw [this, doN_s hd2]
                  exact hn2
            rw [this (lastS z l + 1) (by omega)] at hdo
            cases hdo
          · rw [hdo] at hd2
            cases hd2
            exact ⟨rfl, _, RR_new hR hCk f26 (by rw [h26]; exact wr_at) hr26 (fun p j hp => hms.1 p j hp) hms.2 hm2⟩
        · intro q
          have q : posF z i < l := by
            revert q
            simp (disch := (first | omega | (unfold inr; omega))) only [I_lit, I_nI, I_neg, I_add, I_sub, I_mul, I_div, I_le, I_lt, I_eq, I_clamp, I_clampN, I_vin]
            omega
          have hil : i ≤ lastS z l := by
            rcases Nat.lt_or_ge (lastS z l) i with u | u
            · have : i = lastS z l + 1 := by omega
              rw [this] at q
              omega
            · exact u
          refine c_tell hCk hrk ht' (hok i hil) (fun hno => ?_) (fun k2 hyes s2 f2 hr2 => ?_)
          · refine ⟨fun c7 => absurd rfl c7, fun _ => ?_⟩
            have hR' := RR_KC hkc hR
            refine mod s' _ hR'.2.1.1 (fun p j hp => hkc p j (by omega)) (fun hb2 => ?_) (fun _ i2 k3 hi2 hd2 hn2 s3 hms hm3 => ?_) (fun _ k3 hd3 _ _ _ _ => ?_)
            · rw [hb] at hb2; cases hb2
            · have e : i2 = i := by
                have key : ∀ (u v : Nat) (ku' kv' : Kv), doN A.1 z u = some ku' → doS ku' z (posF z u) = none → doN A.1 z v = some kv' → ¬ u < v := by
                  intro u v ku' kv' h1 h2 h3 h4
                  have : ∀ j, u < j → doN A.1 z j = none := by
                    intro j
                    induction j with
                    | zero => intro h; omega
                    | succ j ih =>
                      intro h
                      rcases Nat.lt_or_ge u j with w | w
                      · show (doN A.1 z j).bind _ = none
                        rw [ih w]
                        rfl
                      · have : j = u := by omega
                        rw [this, doN_s h1]
                        exact h2
                  rw [this v h4] at h3
                  cases h3
                have k1 := key i i2 k' k3 hdo hno hd2
                have k2 := key i2 i k3 k' hd2 hn2 hdo
                omega
              rw [e]
              exact ⟨rfl, A, rrm s' s3 hR' hms hm3⟩
            · exfalso
              have : ∀ j, i < j → doN A.1 z j = none := by
                intro j
                induction j with
                | zero => intro h; omega
                | succ j ih =>
                  intro h
                  rcases Nat.lt_or_ge i j with w | w
                  · show (doN A.1 z j).bind _ = none
                    rw [ih w]
                    rfl
                  · have : j = i := by omega
                    rw [this, doN_s hdo]
                    exact hno
              rw [this (lastS z l + 1) (by omega)] at hd3
              cases hd3
          · refine ⟨fun _ => ?_, fun c7 => absurd c7 (by decide)⟩
            intro x30 h30
            have hk2 : KC s' s2 := fun p j hp => f2 p j (by omega)
            have hz2 := hz (posF z i) (by omega)
            rw [I_clampN (by omega), show s2 (66 + 2 * d + 1) (posF z i) = I (z (posF z i)) from by
              rw [show 66 + 2 * d + 1 = 67 + 2 * d by omega, f2 _ _ (by omega)]
              exact ht'.2.2.1.2 _ (by omega)]
            refine ⟨I_vinN (by omega) (by decide), sp_digs hz2 ?_⟩
            intro x34 h34
            refine ⟨102 - (i + 1), by omega, i + 1, k2, ?_, ?_, by omega, rfl, hkc.tr hk2, by rw [doN_s hdo]; exact hyes, doS_CC hCk (hok i hil) hyes, hr2⟩
            · rw [h30]
              simp (disch := (first | omega | (unfold inr; omega))) only [I_lit, I_nI, I_neg, I_add, I_sub, I_mul, I_div, I_le, I_lt, I_eq, I_clamp, I_clampN, I_vin]
              congr 1
            · rw [h34, posF_s, show (2 : Int32) = I 2 from rfl, I_add, I_add]
              congr 1
              omega
      · have hr1 : (brk z l (posF z (lastS z l))).1 ≤ 200 := by
          by_cases c2 : ¬ posF z (lastS z l) < l ∨ digs (z (posF z (lastS z l))) = 0
          · rw [brk_0 c2]
            show posF z (lastS z l) ≤ 200
            have := hpos (lastS z l) (Nat.le_refl _)
            omega
          · obtain ⟨g1, g2, g3⟩ : FU (badD z l (posF z (lastS z l))) (digs (z (posF z (lastS z l)))) (fst1 (badD z l (posF z (lastS z l))) (digs (z (posF z (lastS z l))))) := Classical.choose_spec (FU_ex _ _)
            have hD := digs_le (z (posF z (lastS z l)))
            by_cases c3 : fst1 (badD z l (posF z (lastS z l))) (digs (z (posF z (lastS z l)))) < digs (z (posF z (lastS z l)))
            · rw [brk_1 (by omega) c3 g2 (g3 c3)]
              show posF z (lastS z l) + 1 + fst1 (badD z l (posF z (lastS z l))) (digs (z (posF z (lastS z l)))) ≤ 200
              omega
            · have e : fst1 (badD z l (posF z (lastS z l))) (digs (z (posF z (lastS z l)))) = digs (z (posF z (lastS z l))) := by omega
              rw [e] at g2
              rw [brk_2 (by omega) (by omega) g2]
              split
              · show posF z (lastS z l) + 2 + digs (z (posF z (lastS z l))) ≤ 200
                omega
              · show posF z (lastS z l) + 1 + digs (z (posF z (lastS z l))) ≤ 200
                omega
        refine ⟨fun q => ?_, fun _ => ?_⟩
        · exfalso
          revert q
          simp (disch := (first | omega | (unfold inr; omega))) only [I_lit, I_nI, I_neg, I_add, I_sub, I_mul, I_div, I_le, I_lt, I_eq, I_clamp, I_clampN, I_vin]
          omega
        · exact mod s _ hrm (fun _ _ _ => rfl) (fun _ s' hms hm => ⟨rfl, A, rrm s s' hR hms hm⟩) (fun hb2 => by rw [hb] at hb2; cases hb2) (fun hb2 => by rw [hb] at hb2; cases hb2)
    · have eT : refT A.2.2.2.1 (d : Int) = -12 := by
        unfold refT
        rw [if_pos (by omega), Int.toNat_natCast, if_neg (by omega), if_neg (fun w => c4 w.2)]
      have := modr s (fun _ _ _ => rfl) (by rw [eT]; decide) hR
      rw [eT] at this
      exact this
  · intro c
    have eT : refT A.2.2.2.1 d = refZ A.2.2.2.1 2 d := by
      unfold refZ at c ⊢
      unfold refT
      by_cases c1 : 0 ≤ d ∧ d ≤ 7
      · rw [if_pos c1] at c ⊢
        rw [if_pos c1]
        by_cases c2 : A.2.2.2.1 d.toNat 0 = 0
        · rw [if_pos c2, if_pos c2]
        · rw [if_neg c2] at c ⊢
          rw [if_neg c2]
          by_cases c3 : A.2.2.2.1 d.toNat 0 = 2
          · rw [if_pos c3] at c
            exact absurd rfl c
          · rw [if_neg c3, if_neg (fun w => c3 w.1)]
      · rw [if_neg c1, if_neg c1]
    have := modr s (fun _ _ _ => rfl) (by rw [eT]; exact c) hR
    rw [eT] at this
    exact this
