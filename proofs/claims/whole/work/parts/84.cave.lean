/-- so many STATEMENTS done -/
def doN (k : Kv) (z : Nat → Int) : Nat → Option Kv
  | 0 => some k
  | i + 1 => (doN k z i).bind (fun k' => doS k' z (posF z i))
theorem doN_s {k k' : Kv} {z : Nat → Int} {i : Nat} (h : doN k z i = some k') : doN k z (i + 1) = doS k' z (posF z i) := by
  show (doN k z i).bind (fun k' => doS k' z (posF z i)) = _
  rw [h]
  rfl
def refT (sh : Nat → Nat → Int) (d : Int) : Int := if 0 ≤ d ∧ d ≤ 7 then (if sh d.toNat 0 = 0 then -11 else if sh d.toNat 0 = 2 ∧ sh d.toNat 3 = 0 then 0 else -12) else -1
theorem m_refT {s : St} {sh : Nat → Nat → Int} {sc : Nat → Nat → Int32} (hs : ∀ d, d < 8 → ShM s sh sc d) (hv : ∀ d, d < 8 → ShV sh sc d) {d : Int} (hd : inr d) {Q : Int32 → Prop} (h : Q (I (refT sh d))) : vc_Mod_wrongRow (I d) 0 s Q := by
  unfold vc_Mod_wrongRow
  refine isSh_m hd ?_
  rw [bi_f]
  unfold refT at h
  constructor
  · intro z
    have z : 0 ≤ d ∧ d ≤ 7 := by simpa using z
    rw [if_pos z] at h
    obtain ⟨d, rfl, hd8⟩ := nat_of (n := 8) ⟨z.1, by omega⟩
    rw [Int.toNat_natCast] at h
    have hS := (hs d (by omega))
    have hV := (hv d (by omega))
    have hv0 := hV.1
    rw [I_clampN (by omega), hS.1]
    have hin : vp_in (I (d : Int)) 8 := I_vinN (by omega) (by decide)
    have e0 : (I (sh d 0) = 0) ↔ sh d 0 = 0 := by simp (disch := (first | omega | (unfold inr; omega))) only [I_lit, I_nI, I_neg, I_add, I_sub, I_mul, I_div, I_le, I_lt, I_eq, I_clamp, I_clampN, I_vin]
    have ew : (I (sh d 0) = 2) ↔ sh d 0 = 2 := by simp (disch := (first | omega | (unfold inr; omega))) only [I_lit, I_nI, I_neg, I_add, I_sub, I_mul, I_div, I_le, I_lt, I_eq, I_clamp, I_clampN, I_vin]
    rw [e0, ew]
    refine ⟨hin, fun c => ⟨hin, ¬ (sh d 0 = 2 ∧ sh d 3 = 0), fun c2 => ?_, fun c2 => fun q => c2 q.1, fun c2 => ⟨fun q => absurd q (by decide), fun _ => ⟨hin, ?_⟩⟩⟩, fun c => ?_⟩
    · rw [if_neg c, if_neg c2] at h; exact h
    · have h3 := (hV.2.2 c2).1
      rw [(hS.2.2 c2).1, show (I (sh d 3) = 0) ↔ sh d 3 = 0 from by simp (disch := (first | omega | (unfold inr; omega))) only [I_lit, I_nI, I_neg, I_add, I_sub, I_mul, I_div, I_le, I_lt, I_eq, I_clamp, I_clampN, I_vin]]
      refine ⟨fun c3 => ?_, fun c3 q => c3 q.2⟩
      rw [if_neg c, if_pos ⟨c2, c3⟩] at h; exact h
    · rw [if_pos c] at h; exact h
  · intro z
    have z := of_decide_eq_false z
    rw [if_neg z] at h
    exact h
def MCs (s s' : St) : Prop := (∀ p j, (p < 82 ∨ p = 84 ∨ 92 ≤ p) → s' p j = s p j) ∧ s' 82 3 = s 82 3
theorem MCs.tr {s t u : St} (h : MCs s t) (g : MCs t u) : MCs s u := ⟨fun p j hp => (g.1 p j hp).trans (h.1 p j hp), g.2.trans h.2⟩
theorem MCs.fr {s s' : St} (h : FRs s s') : MCs s s' := ⟨fun p j hp => h p j (by omega) (by omega), h _ _ (by omega) (by decide)⟩
theorem MCs.rd {s s' : St} (h : MCs s s') {d : Nat} {z : Nat → Int} {l : Nat} (hr : RD s d z l) (h1 : s' 82 20 = s 82 20) (h2 : s' 82 21 = s 82 21) : RD s' d z l := ⟨h1.trans hr.1, h2.trans hr.2.1, hr.2.2.1, hr.2.2.2.1, fun j hj => (h.1 _ _ (by omega)).trans (hr.2.2.2.2 j hj)⟩
/-- the model's cave over a good row of bytes -/
theorem m_cave {s : St} {k : Kv} (hk : CC k) (hrm : RM s 83 k) {d : Nat} (hd : d < 8) {z : Nat → Int} {l : Nat} (hl : l ≤ 100) (hz : ∀ j, j < 100 → -128 ≤ z j ∧ z j ≤ 127) (e96 : s 96 d = I (l : Nat)) (e97 : ∀ j, j < 100 → s 97 (100 * d + j) = I (z j)) {Q : Int32 → St → Prop}
    (h2 : (brk z l (posF z (lastS z l))).2 = false → ∀ s', MCs s s' → RM s' 83 k → Q (-1000 - I ((brk z l (posF z (lastS z l))).1 : Nat)) s')
    (h3 : (brk z l (posF z (lastS z l))).2 = true → ∀ i k', i ≤ lastS z l → doN k z i = some k' → doS k' z (posF z i) = none → ∀ s', MCs s s' → RM s' 83 k → Q (-2000 - I (posF z i : Nat)) s')
    (h4 : (brk z l (posF z (lastS z l))).2 = true → ∀ k', doN k z (lastS z l + 1) = some k' → CC k' → ∀ s', MCs s s' → RM s' 83 k' → Q (I (lastS z l + 1 : Nat)) s') : (∀ s13 : St, s13 = wr s 82 20 (100 * I (d : Nat)) → (vp_in (I (d : Nat)) 8 ∧ (∀ s15 : St, s15 = wr s13 82 21 (s13 96 (Int32.toNatClampNeg (I (d : Nat)))) → (∀ s16 : St, s16 = wr s15 82 19 0 → (∃ I20 : Nat → Int32 → Int32 → St → Prop, (∃ n21, I20 n21 0 0 s16) ∧ ∀ (nI20 : Nat) (x17 : Int32) (x18 : Int32) (s19 : St), I20 nI20 x17 x18 s19 → vc_Mod_readsStatement s19 (fun b22 s23 => (∃ J25 : Int32 → Prop, (∀ (x24 : Int32), J25 x24 → (∀ x26 : Int32, x26 = x17 + 1 → (∃ J27 : Prop, (J27 → vc_Mod_copies 83 78 85 78 s23 (fun s28 => (∀ s29 : St, s29 = wr s28 82 19 0 → (∃ I32 : Nat → Int32 → St → Prop, (∃ n33, I32 n33 x24 s29) ∧ ∀ (nI32 : Nat) (x30 : Int32) (s31 : St), I32 nI32 x30 s31 → (∃ J34 : Prop, (J34 → ((¬ x30 = 0 → Q x30 s31) ∧ (x30 = 0 → Q x26 s31))) ∧ ((¬ x30 = 0 → J34) ∧ (x30 = 0 → (((s31 82 21) ≤ (s31 82 19) → J34) ∧ (¬ (s31 82 21) ≤ (s31 82 19) → (∀ x38 : Int32, x38 = s31 82 19 → vc_Mod_here s31 (fun x39 => vc_Mod_readsStatement s31 (fun b41 s42 => vc_Mod_isDone x39 s42 (fun b43 s44 => (((bi b43) = 0 → (∀ x46 : Int32, x46 = (-2000) - x38 → vc_Mod_copies 85 78 83 78 s44 (fun s47 => ∃ m48, m48 < nI32 ∧ I32 m48 x46 s47))) ∧ (¬ (bi b43) = 0 → ∃ m49, m49 < nI32 ∧ I32 m49 x30 s44))))))))))))))) ∧ ((¬ x24 = 0 → J27) ∧ (x24 = 0 → (((s23 82 19) < (s23 82 21) → ∃ m52, m52 < nI20 ∧ I20 m52 x26 x24 s23) ∧ (¬ (s23 82 19) < (s23 82 21) → J27))))))) ∧ ((¬ (bi b22) = 0 → J25 x18) ∧ ((bi b22) = 0 → (∀ x54 : Int32, x54 = (-1000) - (s23 82 19) → J25 x54)))))))))) := by
  have hind : vp_in (I (d : Int)) 8 := I_vinN (by omega) (by decide)
  obtain ⟨t1, t2, t3⟩ := lastS_of (z := z) hl
  have hok : ∀ i, (brk z l (posF z (lastS z l))).2 = true → i ≤ lastS z l → (brk z l (posF z i)).2 = true := by
    intro i hb hi
    rcases Nat.lt_or_ge i (lastS z l) with w | w
    · exact (go_on (t1 i w)).1
    · have : i = lastS z l := by omega
      rw [this]; exact hb
  have hpos : ∀ i, i ≤ lastS z l → posF z i ≤ l := by
    intro i hi
    cases i with
    | zero => exact Nat.zero_le _
    | succ i => have := (go_on (t1 i (by omega))).2; omega
  intro s13 h13
  refine ⟨hind, ?_⟩
  intro s15 h15 s16 h16
  rw [I_clampN (by omega), h13, wr_ne (by decide), e96] at h15
  have m16 : MCs s s16 := by
    refine ⟨fun p j hp => ?_, ?_⟩
    · rw [h16, wr_ne (by omega), h15, wr_ne (by omega), wr_ne (by omega)]
    · rw [h16, wr_off (by decide), h15, wr_off (by decide), wr_off (by decide)]
  have hm16 : RM s16 83 k := RM_ext (fun j => by rw [h16, wr_ne (by decide), h15, wr_ne (by decide), wr_ne (by decide)]) hrm
  have r16 : RD s16 d z l := by
    refine ⟨?_, ?_, ⟨hl, hd⟩, hz, fun j hj => (m16.1 _ _ (by omega)).trans (e97 j hj)⟩
    · rw [h16, wr_off (by decide), h15, wr_off (by decide), wr_at]
      simp (disch := (first | omega | (unfold inr; omega))) only [I_lit, I_nI, I_neg, I_add, I_sub, I_mul, I_div, I_le, I_lt, I_eq, I_clamp, I_clampN, I_vin]
      congr 1
    · rw [h16, wr_off (by decide), h15, wr_at]
  have e16 : s16 82 19 = I (posF z 0 : Nat) := by rw [h16, wr_at]; rfl
  refine ⟨fun N x17 x18 s19 => ∃ i : Nat, x17 = I (i : Nat) ∧ x18 = 0 ∧ i ≤ lastS z l ∧ N = 101 - i ∧ MCs s s19 ∧ RM s19 83 k ∧ RD s19 d z l ∧ s19 82 19 = I (posF z i : Nat), ⟨_, 0, rfl, rfl, Nat.zero_le _, rfl, m16, hm16, r16, e16⟩, ?_⟩
  rintro N x17 x18 s19 ⟨i, rfl, rfl, hi, hN, m19, hm19, r19, e19⟩
  have hpl := hpos i hi
  refine m_stmt r19 e19 hpl ?_
  intro s23 f23 e23 _
  have m23 := m19.tr (MCs.fr f23)
  have hm23 : RM s23 83 k := RM_ext (fun j => f23 83 j (by omega) (by decide)) hm19
  have r23 := f23.rd r19
  have hr1 : (brk z l (posF z i)).1 ≤ 200 := by
    by_cases c : (brk z l (posF z i)).2 = true
    · obtain ⟨q1, q2, q3, q4, q5, q6⟩ := brk_t c
      have := digs_le (z (posF z i))
      omega
    · by_cases c2 : ¬ posF z i < l ∨ digs (z (posF z i)) = 0
      · rw [brk_0 c2]
        show posF z i ≤ 200
        omega
      · obtain ⟨g1, g2, g3⟩ : FU (badD z l (posF z i)) (digs (z (posF z i))) (fst1 (badD z l (posF z i)) (digs (z (posF z i)))) := Classical.choose_spec (FU_ex _ _)
        have hD := digs_le (z (posF z i))
        by_cases c3 : fst1 (badD z l (posF z i)) (digs (z (posF z i))) < digs (z (posF z i))
        · rw [brk_1 (by omega) c3 g2 (g3 c3)]
          show posF z i + 1 + fst1 (badD z l (posF z i)) (digs (z (posF z i))) ≤ 200
          omega
        · have e : fst1 (badD z l (posF z i)) (digs (z (posF z i))) = digs (z (posF z i)) := by omega
          rw [e] at g2
          rw [brk_2 (by omega) (by omega) g2]
          split
          · show posF z i + 2 + digs (z (posF z i)) ≤ 200
            omega
          · show posF z i + 1 + digs (z (posF z i)) ≤ 200
            omega
  refine ⟨fun x24 => (x24 = 0 ∧ (brk z l (posF z i)).2 = true) ∨ (x24 = -1000 - I ((brk z l (posF z i)).1 : Nat) ∧ (brk z l (posF z i)).2 = false), ?_, fun c => Or.inl ⟨rfl, by
    rw [bi_f] at c
    simpa using c⟩, fun c x54 h54 => Or.inr ⟨by rw [h54, e23], by rw [bi_f] at c; exact c⟩⟩
  intro x24 h24 x26 h26
  have e26 : x26 = I (i + 1 : Nat) := by
    rw [h26]
    simp (disch := (first | omega | (unfold inr; omega))) only [I_lit, I_nI, I_neg, I_add, I_sub, I_mul, I_div, I_le, I_lt, I_eq, I_clamp, I_clampN, I_vin]
    congr 1
  have ne0 : ∀ r : Nat, r ≤ 200 → ¬ (-1000 - I (r : Nat) : Int32) = 0 := by
    intro r hr
    rw [show (-1000 - I (r : Nat) : Int32) = I (-1000 - (r : Int)) from by simp (disch := (first | omega | (unfold inr; omega))) only [I_lit, I_nI, I_neg, I_add, I_sub, I_mul, I_div, I_le, I_lt, I_eq, I_clamp, I_clampN, I_vin]]
    simp (disch := (first | omega | (unfold inr; omega))) only [I_lit, I_nI, I_neg, I_add, I_sub, I_mul, I_div, I_le, I_lt, I_eq, I_clamp, I_clampN, I_vin]
    omega
  -- the second pass
  have pass2 : i = lastS z l → vc_Mod_copies 83 78 85 78 s23 (fun s28 => (∀ s29 : St, s29 = wr s28 82 19 0 → (∃ I32 : Nat → Int32 → St → Prop, (∃ n33, I32 n33 x24 s29) ∧ ∀ (nI32 : Nat) (x30 : Int32) (s31 : St), I32 nI32 x30 s31 → (∃ J34 : Prop, (J34 → ((¬ x30 = 0 → Q x30 s31) ∧ (x30 = 0 → Q x26 s31))) ∧ ((¬ x30 = 0 → J34) ∧ (x30 = 0 → (((s31 82 21) ≤ (s31 82 19) → J34) ∧ (¬ (s31 82 21) ≤ (s31 82 19) → (∀ x38 : Int32, x38 = s31 82 19 → vc_Mod_here s31 (fun x39 => vc_Mod_readsStatement s31 (fun b41 s42 => vc_Mod_isDone x39 s42 (fun b43 s44 => (((bi b43) = 0 → (∀ x46 : Int32, x46 = (-2000) - x38 → vc_Mod_copies 85 78 83 78 s44 (fun s47 => ∃ m48, m48 < nI32 ∧ I32 m48 x46 s47))) ∧ (¬ (bi b43) = 0 → ∃ m49, m49 < nI32 ∧ I32 m49 x30 s44)))))))))))))) := by
    intro ei
    refine sp_copies (by decide) ?_
    intro s28 c1 c2 s29 h29
    have m29 : MCs s s29 := by
      refine m23.tr ⟨fun p j hp => ?_, ?_⟩
      · rw [h29, wr_ne (by omega)]; exact c1 p j (by omega)
      · rw [h29, wr_off (by decide)]; exact c1 _ _ (by decide)
    have hm29 : RM s29 83 k := RM_ext (fun j => by rw [h29, wr_ne (by decide)]; exact c1 _ _ (by decide)) hm23
    have r29 : RD s29 d z l := by
      refine ⟨?_, ?_, ⟨hl, hd⟩, hz, fun j hj => (m29.1 _ _ (by omega)).trans (e97 j hj)⟩
      · rw [h29, wr_off (by decide), c1 _ _ (by decide)]; exact r23.1
      · rw [h29, wr_off (by decide), c1 _ _ (by decide)]; exact r23.2.1
    have w29 : RM s29 85 k := RM_cp hk.1 hm23 (fun j hj => by rw [h29, wr_ne (by decide)]; exact c2 j hj)
    have e29 : s29 82 19 = I (posF z 0 : Nat) := by rw [h29, wr_at]; rfl
    refine ⟨fun N x30 s31 => MCs s s31 ∧ ((x30 = 0 ∧ (brk z l (posF z (lastS z l))).2 = true ∧ ∃ j k', j ≤ lastS z l + 1 ∧ N = 202 - j ∧ doN k z j = some k' ∧ CC k' ∧ RM s31 83 k' ∧ RM s31 85 k ∧ RD s31 d z l ∧ s31 82 19 = I (posF z j : Nat)) ∨ (¬ x30 = 0 ∧ RM s31 83 k ∧ N < 100 ∧ ∀ s', MCs s s' → RM s' 83 k → Q x30 s')), ?_, ?_⟩
    · rcases h24 with ⟨rfl, hb⟩ | ⟨rfl, hb⟩
      · rw [ei] at hb
        exact ⟨202, m29, Or.inl ⟨rfl, hb, 0, k, Nat.zero_le _, rfl, rfl, hk, hm29, w29, r29, e29⟩⟩
      · refine ⟨0, m29, Or.inr ⟨ne0 _ hr1, hm29, by decide, fun s' q1 q2 => ?_⟩⟩
        rw [ei] at hb ⊢
        exact h2 hb s' q1 q2
    · rintro N2 x30 s31 ⟨m31, hc⟩
      refine ⟨¬ x30 = 0 ∨ s31 82 21 ≤ s31 82 19, fun hj => ⟨fun c => ?_, fun c => ?_⟩, fun c => Or.inl c, fun c => ⟨fun c5 => Or.inr c5, fun c5 => ?_⟩⟩
      · rcases hc with ⟨c6, _⟩ | ⟨_, c7, _, c8⟩
        · exact absurd c6 c
        · exact c8 s31 m31 c7
      · rcases hc with ⟨_, hb, j, k', hj1, hj2, hj3, hj4, hj5, hj6, hj7, hj8⟩ | ⟨c6, _⟩
        · rcases hj with w | w
          · exact absurd c w
          · rw [hj7.2.1, hj8] at w
            have hpj : posF z j ≤ 200 := by
              rcases Nat.lt_or_ge (lastS z l) j with u | u
              · have : j = lastS z l + 1 := by omega
                rw [this, posF_s]
                have := hpos (lastS z l) (Nat.le_refl _)
                have := digs_le (z (posF z (lastS z l)))
                omega
              · have := hpos j u
                omega
            have w : l ≤ posF z j := by
              revert w
              simp (disch := (first | omega | (unfold inr; omega))) only [I_lit, I_nI, I_neg, I_add, I_sub, I_mul, I_div, I_le, I_lt, I_eq, I_clamp, I_clampN, I_vin]
              omega
            have ej : j = lastS z l + 1 := by
              rcases Nat.lt_or_ge (lastS z l) j with u | u
              · omega
              · obtain ⟨q1, -⟩ := brk_t (hok j hb u)
                omega
            rw [e26, ei]
            rw [ej] at hj3
            exact h4 hb k' hj3 hj4 s31 m31 hj5
        · exact absurd c c6
      · rcases hc with ⟨_, hb, j, k', hj1, hj2, hj3, hj4, hj5, hj6, hj7, hj8⟩ | ⟨c6, _⟩
        · have hjl : j ≤ lastS z l := by
            rcases Nat.lt_or_ge (lastS z l) j with u | u
            · exfalso
              apply c5
              have ej : j = lastS z l + 1 := by omega
              rw [hj7.2.1, hj8, ej]
              have hst : l ≤ posF z (lastS z l + 1) := by
                rcases t2 with v | v
                · rw [hb] at v; cases v
                · exact v
              have hp2 : posF z (lastS z l + 1) ≤ 200 := by
                rw [posF_s]
                have := hpos (lastS z l) (Nat.le_refl _)
                have := digs_le (z (posF z (lastS z l)))
                omega
              simp (disch := (first | omega | (unfold inr; omega))) only [I_lit, I_nI, I_neg, I_add, I_sub, I_mul, I_div, I_le, I_lt, I_eq, I_clamp, I_clampN, I_vin]
              omega
            · exact u
          have hbj := hok j hb hjl
          obtain ⟨q1, q2, q3, q4, q5, q6⟩ := brk_t hbj
          have hpj := hpos j hjl
          intro x38 h38
          rw [hj8] at h38
          subst h38
          refine m_here hj7 hj8 (by omega) ?_
          have hhz : hereZ z l (posF z j) = z (posF z j) := by
            have hzz := hz (posF z j) (by omega)
            unfold hereZ
            rw [if_pos q1, if_neg]
            intro w
            apply q2
            unfold digs
            rw [if_neg (by omega), if_neg (by omega), if_neg (by omega), if_neg (by omega), if_neg (by omega), if_neg (by omega), if_neg (by omega), if_neg (by omega)]
          refine m_stmt hj7 hj8 hpj ?_
          intro s42 f42 e42 n42
          rw [hbj] at n42
          have m42 := m31.tr (MCs.fr f42)
          have hm42 : RM s42 83 k' := RM_ext (fun j => f42 83 j (by omega) (by decide)) hj5
          have w42 : RM s42 85 k := RM_ext (fun j => f42 85 j (by omega) (by decide)) hj6
          refine m_done hj4 hm42 hz hl hbj (n42 rfl) (by rw [hhz]) (fun hno s44 f44 => ?_) (fun k2 hyes s44 f44 hm44 => ?_)
          · refine ⟨fun _ => ?_, fun c7 => absurd rfl c7⟩
            intro x46 h46
            refine sp_copies (by decide) ?_
            intro s47 g1 g2
            have w44 : RM s44 85 k := RM_ext (fun j => f44 85 j (by decide)) w42
            refine ⟨0, by omega, m42.tr ⟨fun p j hp => (g1 p j (by omega)).trans (f44 p j (by omega)), (g1 _ _ (by decide)).trans (f44 _ _ (by decide))⟩, Or.inr ⟨?_, RM_cp hk.1 w44 g2, by decide, fun s' r1 r2 => ?_⟩⟩
            · rw [h46, show (-2000 - I ((posF z j : Nat) : Int) : Int32) = I (-2000 - (posF z j : Int)) from by simp (disch := (first | omega | (unfold inr; omega))) only [I_lit, I_nI, I_neg, I_add, I_sub, I_mul, I_div, I_le, I_lt, I_eq, I_clamp, I_clampN, I_vin]]
              simp (disch := (first | omega | (unfold inr; omega))) only [I_lit, I_nI, I_neg, I_add, I_sub, I_mul, I_div, I_le, I_lt, I_eq, I_clamp, I_clampN, I_vin]
              omega
            · rw [h46]
              exact h3 hb j k' hjl hj3 hno s' r1 r2
          · refine ⟨fun c7 => absurd c7 (by decide), fun _ => ?_⟩
            refine ⟨202 - (j + 1), by omega, m42.tr ⟨fun p j hp => f44 p j (by omega), f44 _ _ (by decide)⟩, Or.inl ⟨c, hb, j + 1, k2, by omega, rfl, by rw [doN_s hj3]; exact hyes, doS_CC hj4 hbj hyes, hm44, RM_ext (fun j => f44 85 j (by decide)) w42, ?_, ?_⟩⟩
            · have r42 := f42.rd hj7
              exact ⟨(f44 _ _ (by decide)).trans r42.1, (f44 _ _ (by decide)).trans r42.2.1, ⟨hl, hd⟩, hz, fun j hj => (f44 _ _ (by decide)).trans (r42.2.2.2.2 j hj)⟩
            · rw [f44 _ _ (by decide), e42, q6, posF_s]
        · exact absurd c c6
  refine ⟨i = lastS z l, pass2, fun c => ?_, fun c => ⟨fun c2 => ?_, fun c2 => ?_⟩⟩
  · rcases h24 with ⟨h, _⟩ | ⟨_, hb⟩
    · exact absurd h c
    · rcases Nat.lt_or_ge i (lastS z l) with w | w
      · have := (go_on (t1 i w)).1
        rw [hb] at this
        cases this
      · omega
  · rcases h24 with ⟨h, hb⟩ | ⟨h, hb⟩
    · obtain ⟨q1, q2, q3, q4, q5, q6⟩ := brk_t hb
      have ep : posF z (i + 1) = posF z i + 2 + digs (z (posF z i)) := posF_s z i
      rw [e23, r23.2.1] at c2
      have c2 : (brk z l (posF z i)).1 < l := by
        revert c2
        simp (disch := (first | omega | (unfold inr; omega))) only [I_lit, I_nI, I_neg, I_add, I_sub, I_mul, I_div, I_le, I_lt, I_eq, I_clamp, I_clampN, I_vin]
        omega
      have hil : i < lastS z l := by
        rcases Nat.lt_or_ge i (lastS z l) with w | w
        · exact w
        · exfalso
          have e : i = lastS z l := by omega
          rcases t2 with v | v
          · rw [← e, hb] at v; cases v
          · rw [← e] at v
            omega
      refine ⟨101 - (i + 1), by omega, i + 1, e26, h, hil, rfl, m23, hm23, r23, ?_⟩
      rw [e23, q6, ep]
    · rw [h] at c
      exact absurd c (ne0 _ hr1)
  · rcases h24 with ⟨h, hb⟩ | ⟨h, hb⟩
    · obtain ⟨q1, q2, q3, q4, q5, q6⟩ := brk_t hb
      rw [e23, r23.2.1] at c2
      have c2 : l ≤ (brk z l (posF z i)).1 := by
        revert c2
        simp (disch := (first | omega | (unfold inr; omega))) only [I_lit, I_nI, I_neg, I_add, I_sub, I_mul, I_div, I_le, I_lt, I_eq, I_clamp, I_clampN, I_vin]
        omega
      rcases Nat.lt_or_ge i (lastS z l) with w | w
      · have := (go_on (t1 i w)).2
        rw [posF_s] at this
        omega
      · omega
    · rw [h] at c
      exact absurd c (ne0 _ hr1)
