theorem fr_k {s s1 s' : St} {k : Nat} (h : FRs s s1) (g : ∀ p j, (p ≠ 82 ∨ j ≠ 19) → (p ≠ 88 ∨ j ≠ k) → s' p j = s1 p j) : FRs s s' := fun p j h1 h2 => (g p j h1 (Or.inl h2)).trans (h p j h1 h2)
theorem m_stmt {s : St} {d : Nat} {z : Nat → Int} {l a : Nat} (hr : RD s d z l) (h19 : s 82 19 = I (a : Nat)) (ha : a ≤ l) {Q : Bool → St → Prop} (hQ : ∀ s', FRs s s' → s' 82 19 = I ((brk z l a).1 : Nat) → ((brk z l a).2 = true → NUM z a s') → Q (brk z l a).2 s') : vc_Mod_readsStatement s Q := by
  have hl := hr.2.2.1.1
  have hh : -1 ≤ hereZ z l a ∧ hereZ z l a ≤ 255 := by
    unfold hereZ
    split
    · have := hr.2.2.2.1 a (by omega)
      split <;> omega
    · omega
  have hq : ∀ n : Nat, n < 128 → ((I (hereZ z l a) = I (n : Nat)) ↔ (a < l ∧ z a = (n : Nat))) := by
    intro n hn
    rw [I_eq ⟨by omega, by omega⟩ ⟨by omega, by omega⟩]
    unfold hereZ
    by_cases c : a < l
    · have hz := hr.2.2.2.1 a (by omega)
      rw [if_pos c]
      split <;> omega
    · rw [if_neg c]
      omega
  unfold vc_Mod_readsStatement
  refine m_here hr h19 (by omega) ?_
  intro s12 h12
  rw [h19] at h12
  have e12 : s12 82 19 = I (a + 1 + 0 : Nat) := by
    rw [h12, wr_at]
    simp (disch := (first | omega | (unfold inr; omega))) only [I_lit, I_nI, I_neg, I_add, I_sub, I_mul, I_div, I_le, I_lt, I_eq, I_clamp, I_clampN, I_vin]
    congr 1
  have f12 : FRs s s12 := fun p j h1 h2 => by
    rw [h12]
    unfold wr
    repeat' split
    all_goals first | rfl | (exfalso; omega)
  have r12 := f12.rd hr
  rw [show (I (hereZ z l a) = 98) ↔ (a < l ∧ z a = 98) from hq 98 (by decide), show (I (hereZ z l a) = 99) ↔ (a < l ∧ z a = 99) from hq 99 (by decide), show (I (hereZ z l a) = 108) ↔ (a < l ∧ z a = 108) from hq 108 (by decide), show (I (hereZ z l a) = 112) ↔ (a < l ∧ z a = 112) from hq 112 (by decide), show (I (hereZ z l a) = 114) ↔ (a < l ∧ z a = 114) from hq 114 (by decide), show (I (hereZ z l a) = 116) ↔ (a < l ∧ z a = 116) from hq 116 (by decide), show (I (hereZ z l a) = 120) ↔ (a < l ∧ z a = 120) from hq 120 (by decide), show (I (hereZ z l a) = 121) ↔ (a < l ∧ z a = 121) from hq 121 (by decide)]
  -- one letter's numbers: the first
  have ng : ∀ i, i < 0 → ¬ badD z l a i := fun i hi => absurd hi (Nat.not_lt_zero i)
  refine ⟨fun x s' => (a < l ∧ digs (z a) ≠ 0) ∧ GBs s z l a x s', ?_, a < l ∧ (z a = 99 ∨ z a = 116), fun c => ?_, ¬ a < l ∨ digs (z a) = 0, fun c => ?_, a < l ∧ (z a = 112 ∨ z a = 120), fun c => ?_, fun c => ?_, fun q1 => ⟨fun c => ⟨c.1, Or.inl c.2⟩, fun q2 => ⟨fun c => ?_, fun q3 => ⟨fun c => ⟨c.1, Or.inl c.2⟩, fun q4 => ⟨fun c => ?_, fun q5 => ⟨fun c => ⟨c.1, Or.inr c.2⟩, fun q6 => ⟨fun c => ⟨c.1, Or.inr c.2⟩, fun q7 => ⟨fun c => ?_, fun q8 => ?_⟩⟩⟩⟩⟩⟩⟩⟩
  · rintro x s14 ⟨⟨hal, hd0⟩, ⟨rfl, fb, r, r1, r2, r3, r4⟩ | ⟨rfl, fg, g1, g2, g3⟩⟩
    · refine ⟨fun _ => ?_, fun c => absurd rfl c⟩
      have hb := brk_1 hal r1 r2 r3
      have := hQ s14 fb
      rw [hb] at this
      exact this r4 (fun c => by cases c)
    · refine ⟨fun c => absurd c (by decide), fun _ => ?_⟩
      have hb := brk_2 hal hd0 g1
      have hD := digs_le (z a)
      refine m_here (fg.rd hr) g2 (by omega) ?_
      have hh2 : (I (hereZ z l (a + 1 + digs (z a))) = 59) ↔ (a + 1 + digs (z a) < l ∧ z (a + 1 + digs (z a)) = 59) := by
        unfold hereZ
        by_cases u : a + 1 + digs (z a) < l
        · have hz := hr.2.2.2.1 (a + 1 + digs (z a)) (by omega)
          rw [if_pos u, show (59 : Int32) = I 59 from rfl]
          by_cases v : z (a + 1 + digs (z a)) < 0
          · rw [if_pos v, I_eq ⟨by omega, by omega⟩ ⟨by omega, by omega⟩]
            omega
          · rw [if_neg v, I_eq ⟨by omega, by omega⟩ ⟨by omega, by omega⟩]
            omega
        · rw [if_neg u, show (59 : Int32) = I 59 from rfl, I_eq ⟨by omega, by omega⟩ ⟨by omega, by omega⟩]
          omega
      rw [hh2]
      refine ⟨fun c => ?_, fun c => ?_⟩
      · intro s20 h20
        rw [if_pos c] at hb
        have f20 : FRs s14 s20 := fun p j h1 h2 => by
          rw [h20]
          unfold wr
          repeat' split
          all_goals first | rfl | (exfalso; omega)
        have e88 : ∀ j, s20 88 j = s14 88 j := fun j => by rw [h20, wr_ne (by decide)]
        have := hQ s20 (fg.tr f20)
        rw [hb] at this
        refine this ?_ (fun _ => ?_)
        · rw [h20, wr_at, g2]
          simp (disch := (first | omega | (unfold inr; omega))) only [I_lit, I_nI, I_neg, I_add, I_sub, I_mul, I_div, I_le, I_lt, I_eq, I_clamp, I_clampN, I_vin]
          congr 1
          omega
        · unfold NUM
          simp only [e88]
          exact g3
      · rw [if_neg c] at hb
        have := hQ s14 fg
        rw [hb] at this
        exact this g2 (fun c => by cases c)
  · have hz := c.2
    have hd : digs (z a) = 2 := by rcases hz with w1 | w1 <;> (rw [w1]; rfl)
    refine m_rnum (a := a) (off := 0) (k := 0) (n := 2) r12 e12 (by decide) (by omega) ng rfl rfl (by decide) (fun r t1 t2 t3 t4 s' t5 t6 => ?_) (fun g1 s1a t5 t6 t7 => ?_)
    · exact ⟨⟨c.1, by omega⟩, Or.inl ⟨rfl, ⟨fr_k f12 t5, r, by omega, t3, t4, t6⟩⟩⟩
    have f1 := fr_k f12 t5
    have n1 := t7
    have fr1 := t5
    have e1 := t6
    have ha1 : a + 1 + 2 ≤ l := by have := g1 1 (by omega); unfold badD at this; omega
    have v1 := n1
    refine ⟨⟨c.1, by omega⟩, Or.inr ⟨rfl, f1, fun i hi => g1 i (by omega), by rw [hd]; exact e1, ⟨fun w => by omega, fun w => by omega, fun w => by omega, fun w => by omega, fun _ => v1, fun w => by omega⟩⟩⟩
  · intro s25 h25
    have hb := brk_0 (z := z) c
    have f25 : FRs s s25 := fun p j h1 h2 => by
      rw [h25]
      have := f12 p j h1 h2
      unfold wr
      repeat' split
      all_goals first | exact this | (exfalso; omega)
    have := hQ s25 f25
    rw [hb] at this
    refine this ?_ (fun c => by cases c)
    rw [h25, wr_at, e12]
    simp (disch := (first | omega | (unfold inr; omega))) only [I_lit, I_nI, I_neg, I_add, I_sub, I_mul, I_div, I_le, I_lt, I_eq, I_clamp, I_clampN, I_vin]
    congr 1
    omega
  · have hz := c.2
    have hd : digs (z a) = 2 := by rcases hz with w1 | w1 <;> (rw [w1]; rfl)
    refine m_rnum (a := a) (off := 0) (k := 0) (n := 1) r12 e12 (by decide) (by omega) ng rfl rfl (by decide) (fun r t1 t2 t3 t4 s' t5 t6 => ?_) (fun g1 s1a t5 t6 t7 => ?_)
    · exact ⟨fun x s' => (a < l ∧ digs (z a) ≠ 0) ∧ GBs s z l a x s', fun _ _ h => h, BADs s z l a, fun _ h => ⟨⟨c.1, by omega⟩, Or.inl ⟨rfl, h⟩⟩, fun _ => ⟨fr_k f12 t5, r, by omega, t3, t4, t6⟩, fun q => absurd rfl q⟩
    refine ⟨fun x s' => (a < l ∧ digs (z a) ≠ 0) ∧ GBs s z l a x s', fun _ _ h => h, BADs s z l a, fun _ h => ⟨⟨c.1, by omega⟩, Or.inl ⟨rfl, h⟩⟩, fun q => absurd q (by decide), fun _ => ?_⟩
    have f1 := fr_k f12 t5
    have n1 := t7
    have fr1 := t5
    have e1 := t6
    have ha1 : a + 1 + 1 ≤ l := by have := g1 0 (by omega); unfold badD at this; omega
    refine m_rnum (a := a) (off := 1) (k := 1) (n := 1) (f1.rd hr) e1 (by decide) (by omega) g1 rfl rfl (by decide) (fun r t1 t2 t3 t4 s' t5 t6 => ?_) (fun g2 s2a t5 t6 t7 => ?_)
    · exact ⟨fun _ => ⟨fr_k f1 t5, r, by omega, t3, t4, t6⟩, fun q => absurd rfl q⟩
    refine ⟨fun q => absurd q (by decide), fun _ => ?_⟩
    have f2 := fr_k f1 t5
    have n2 := t7
    have fr2 := t5
    have e2 := t6
    have ha2 : a + 1 + 2 ≤ l := by have := g2 1 (by omega); unfold badD at this; omega
    have v1 := ((fr2 88 0 (by omega) (by omega)).trans n1)
    have v2 := n2
    refine ⟨⟨c.1, by omega⟩, Or.inr ⟨rfl, f2, fun i hi => g2 i (by omega), by rw [hd]; exact e2, ⟨fun w => by omega, fun w => by omega, fun _ => ⟨v1, v2⟩, fun w => by omega, fun w => by omega, fun w => by omega⟩⟩⟩
  · have hz : z a = 98 := c.2
    have hd : digs (z a) = 5 := by rw [hz]; rfl
    refine m_rnum (a := a) (off := 0) (k := 0) (n := 2) r12 e12 (by decide) (by omega) ng rfl rfl (by decide) (fun r t1 t2 t3 t4 s' t5 t6 => ?_) (fun g1 s1a t5 t6 t7 => ?_)
    · exact ⟨fun x s' => (a < l ∧ digs (z a) ≠ 0) ∧ GBs s z l a x s', fun _ _ h => h, BADs s z l a, fun _ h => ⟨⟨c.1, by omega⟩, Or.inl ⟨rfl, h⟩⟩, fun _ => ⟨fr_k f12 t5, r, by omega, t3, t4, t6⟩, fun q => absurd rfl q⟩
    refine ⟨fun x s' => (a < l ∧ digs (z a) ≠ 0) ∧ GBs s z l a x s', fun _ _ h => h, BADs s z l a, fun _ h => ⟨⟨c.1, by omega⟩, Or.inl ⟨rfl, h⟩⟩, fun q => absurd q (by decide), fun _ => ?_⟩
    have f1 := fr_k f12 t5
    have n1 := t7
    have fr1 := t5
    have e1 := t6
    have ha1 : a + 1 + 2 ≤ l := by have := g1 1 (by omega); unfold badD at this; omega
    refine m_rnum (a := a) (off := 2) (k := 1) (n := 1) (f1.rd hr) e1 (by decide) (by omega) g1 rfl rfl (by decide) (fun r t1 t2 t3 t4 s' t5 t6 => ?_) (fun g2 s2a t5 t6 t7 => ?_)
    · exact ⟨fun _ => ⟨fr_k f1 t5, r, by omega, t3, t4, t6⟩, fun q => absurd rfl q⟩
    refine ⟨fun q => absurd q (by decide), fun _ => ?_⟩
    have f2 := fr_k f1 t5
    have n2 := t7
    have fr2 := t5
    have e2 := t6
    have ha2 : a + 1 + 3 ≤ l := by have := g2 2 (by omega); unfold badD at this; omega
    refine m_rnum (a := a) (off := 3) (k := 2) (n := 1) (f2.rd hr) e2 (by decide) (by omega) g2 rfl rfl (by decide) (fun r t1 t2 t3 t4 s' t5 t6 => ?_) (fun g3 s3a t5 t6 t7 => ?_)
    · exact ⟨fun _ => ⟨fr_k f2 t5, r, by omega, t3, t4, t6⟩, fun q => absurd rfl q⟩
    refine ⟨fun q => absurd q (by decide), fun _ => ?_⟩
    have f3 := fr_k f2 t5
    have n3 := t7
    have fr3 := t5
    have e3 := t6
    have ha3 : a + 1 + 4 ≤ l := by have := g3 3 (by omega); unfold badD at this; omega
    refine m_rnum (a := a) (off := 4) (k := 3) (n := 1) (f3.rd hr) e3 (by decide) (by omega) g3 rfl rfl (by decide) (fun r t1 t2 t3 t4 s' t5 t6 => ?_) (fun g4 s4a t5 t6 t7 => ?_)
    · exact ⟨fun _ => ⟨fr_k f3 t5, r, by omega, t3, t4, t6⟩, fun q => absurd rfl q⟩
    refine ⟨fun q => absurd q (by decide), fun _ => ?_⟩
    have f4 := fr_k f3 t5
    have n4 := t7
    have fr4 := t5
    have e4 := t6
    have ha4 : a + 1 + 5 ≤ l := by have := g4 4 (by omega); unfold badD at this; omega
    have v1 := ((fr4 88 0 (by omega) (by omega)).trans ((fr3 88 0 (by omega) (by omega)).trans ((fr2 88 0 (by omega) (by omega)).trans n1)))
    have v2 := ((fr4 88 1 (by omega) (by omega)).trans ((fr3 88 1 (by omega) (by omega)).trans n2))
    have v3 := ((fr4 88 2 (by omega) (by omega)).trans n3)
    have v4 := n4
    refine ⟨⟨c.1, by omega⟩, Or.inr ⟨rfl, f4, fun i hi => g4 i (by omega), by rw [hd]; exact e4, ⟨fun _ => ⟨v1, v2, v3, v4⟩, fun w => by omega, fun w => by omega, fun w => by omega, fun w => by omega, fun w => by omega⟩⟩⟩
  · have hz : z a = 108 := c.2
    have hd : digs (z a) = 3 := by rw [hz]; rfl
    refine m_rnum (a := a) (off := 0) (k := 0) (n := 3) r12 e12 (by decide) (by omega) ng rfl rfl (by decide) (fun r t1 t2 t3 t4 s' t5 t6 => ?_) (fun g1 s1a t5 t6 t7 => ?_)
    · exact ⟨⟨c.1, by omega⟩, Or.inl ⟨rfl, ⟨fr_k f12 t5, r, by omega, t3, t4, t6⟩⟩⟩
    have f1 := fr_k f12 t5
    have n1 := t7
    have fr1 := t5
    have e1 := t6
    have ha1 : a + 1 + 3 ≤ l := by have := g1 2 (by omega); unfold badD at this; omega
    have v1 := n1
    refine ⟨⟨c.1, by omega⟩, Or.inr ⟨rfl, f1, fun i hi => g1 i (by omega), by rw [hd]; exact e1, ⟨fun w => by omega, fun w => by omega, fun w => by omega, fun w => by omega, fun w => by omega, fun _ => v1⟩⟩⟩
  · have hz : z a = 114 := c.2
    have hd : digs (z a) = 1 := by rw [hz]; rfl
    refine m_rnum (a := a) (off := 0) (k := 0) (n := 1) r12 e12 (by decide) (by omega) ng rfl rfl (by decide) (fun r t1 t2 t3 t4 s' t5 t6 => ?_) (fun g1 s1a t5 t6 t7 => ?_)
    · exact ⟨⟨c.1, by omega⟩, Or.inl ⟨rfl, ⟨fr_k f12 t5, r, by omega, t3, t4, t6⟩⟩⟩
    have f1 := fr_k f12 t5
    have n1 := t7
    have fr1 := t5
    have e1 := t6
    have ha1 : a + 1 + 1 ≤ l := by have := g1 0 (by omega); unfold badD at this; omega
    have v1 := n1
    refine ⟨⟨c.1, by omega⟩, Or.inr ⟨rfl, f1, fun i hi => g1 i (by omega), by rw [hd]; exact e1, ⟨fun w => by omega, fun w => by omega, fun w => by omega, fun _ => v1, fun w => by omega, fun w => by omega⟩⟩⟩
  · have hz : z a = 121 := c.2
    have hd : digs (z a) = 4 := by rw [hz]; rfl
    refine m_rnum (a := a) (off := 0) (k := 0) (n := 1) r12 e12 (by decide) (by omega) ng rfl rfl (by decide) (fun r t1 t2 t3 t4 s' t5 t6 => ?_) (fun g1 s1a t5 t6 t7 => ?_)
    · exact ⟨fun x s' => (a < l ∧ digs (z a) ≠ 0) ∧ GBs s z l a x s', fun _ _ h => h, BADs s z l a, fun _ h => ⟨⟨c.1, by omega⟩, Or.inl ⟨rfl, h⟩⟩, fun _ => ⟨fr_k f12 t5, r, by omega, t3, t4, t6⟩, fun q => absurd rfl q⟩
    refine ⟨fun x s' => (a < l ∧ digs (z a) ≠ 0) ∧ GBs s z l a x s', fun _ _ h => h, BADs s z l a, fun _ h => ⟨⟨c.1, by omega⟩, Or.inl ⟨rfl, h⟩⟩, fun q => absurd q (by decide), fun _ => ?_⟩
    have f1 := fr_k f12 t5
    have n1 := t7
    have fr1 := t5
    have e1 := t6
    have ha1 : a + 1 + 1 ≤ l := by have := g1 0 (by omega); unfold badD at this; omega
    refine m_rnum (a := a) (off := 1) (k := 1) (n := 1) (f1.rd hr) e1 (by decide) (by omega) g1 rfl rfl (by decide) (fun r t1 t2 t3 t4 s' t5 t6 => ?_) (fun g2 s2a t5 t6 t7 => ?_)
    · exact ⟨fun _ => ⟨fr_k f1 t5, r, by omega, t3, t4, t6⟩, fun q => absurd rfl q⟩
    refine ⟨fun q => absurd q (by decide), fun _ => ?_⟩
    have f2 := fr_k f1 t5
    have n2 := t7
    have fr2 := t5
    have e2 := t6
    have ha2 : a + 1 + 2 ≤ l := by have := g2 1 (by omega); unfold badD at this; omega
    refine m_rnum (a := a) (off := 2) (k := 2) (n := 2) (f2.rd hr) e2 (by decide) (by omega) g2 rfl rfl (by decide) (fun r t1 t2 t3 t4 s' t5 t6 => ?_) (fun g3 s3a t5 t6 t7 => ?_)
    · exact ⟨fun _ => ⟨fr_k f2 t5, r, by omega, t3, t4, t6⟩, fun q => absurd rfl q⟩
    refine ⟨fun q => absurd q (by decide), fun _ => ?_⟩
    have f3 := fr_k f2 t5
    have n3 := t7
    have fr3 := t5
    have e3 := t6
    have ha3 : a + 1 + 4 ≤ l := by have := g3 3 (by omega); unfold badD at this; omega
    have v1 := ((fr3 88 0 (by omega) (by omega)).trans ((fr2 88 0 (by omega) (by omega)).trans n1))
    have v2 := ((fr3 88 1 (by omega) (by omega)).trans n2)
    have v3 := n3
    refine ⟨⟨c.1, by omega⟩, Or.inr ⟨rfl, f3, fun i hi => g3 i (by omega), by rw [hd]; exact e3, ⟨fun w => by omega, fun _ => ⟨v1, v2, v3⟩, fun w => by omega, fun w => by omega, fun w => by omega, fun w => by omega⟩⟩⟩
  · by_cases w : a < l
    · refine Or.inr ?_
      unfold digs
      rw [if_neg (fun q => q1 ⟨w, q⟩), if_neg (fun q => q2 ⟨w, q⟩), if_neg (fun q => q3 ⟨w, q⟩), if_neg (fun q => q4 ⟨w, q⟩), if_neg (fun q => q5 ⟨w, q⟩), if_neg (fun q => q6 ⟨w, q⟩), if_neg (fun q => q7 ⟨w, q⟩), if_neg (fun q => q8 ⟨w, q⟩)]
    · exact Or.inl w
