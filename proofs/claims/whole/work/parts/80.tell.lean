/-- the STATEMENT at a done (its bytes are right): the cave then, if it can be done so -/
def doS (k : Kv) (z : Nat → Int) (a : Nat) : Option Kv :=
  if z a = 98 then (if (10 ≤ numF z (a + 1) 2 ∧ numF z (a + 1) 2 ≤ 50) ∧ k 9 1 < 6 then some (addB k (numF z (a + 1) 2) (numF z (a + 3) 1) (numF z (a + 4) 1) (numF z (a + 5) 1)) else none)
  else if z a = 99 then (if 1 ≤ numF z (a + 1) 2 ∧ numF z (a + 1) 2 ≤ 60 then some (ku k 9 4 (numF z (a + 1) 2)) else none)
  else if z a = 108 then some (ku k 9 5 (numF z (a + 1) 3))
  else if z a = 112 then (if numF z (a + 1) 1 < k 9 1 ∧ numF z (a + 2) 1 ≤ 3 then some (ku k 7 (numF z (a + 1) 1).toNat (numF z (a + 2) 1)) else none)
  else if z a = 114 then some (ku k 9 3 (numF z (a + 1) 1))
  else if z a = 116 then (if k 9 2 + numF z (a + 1) 2 ≤ 9999 then some (ku k 9 2 (k 9 2 + numF z (a + 1) 2)) else none)
  else if z a = 120 then (if numF z (a + 1) 1 < k 9 1 ∧ numF z (a + 2) 1 < k 9 1 ∧ numF z (a + 1) 1 ≠ numF z (a + 2) 1 then some (swapK k (numF z (a + 1) 1).toNat (numF z (a + 2) 1).toNat) else none)
  else (if numF z (a + 1) 1 ≤ 7 ∧ (6 ≤ numF z (a + 3) 2 ∧ numF z (a + 3) 2 ≤ 40) ∧ k 9 0 < 12 then some (addY k (numF z (a + 1) 1) (numF z (a + 2) 1) (numF z (a + 3) 2)) else none)
theorem num1 (z : Nat → Int) (a : Nat) : numF z a 1 = z a - 48 := by
  show 10 * 0 + z (a + 0) - 48 = _
  rw [Nat.add_zero]
  omega
theorem num2 (z : Nat → Int) (a : Nat) : numF z a 2 = 10 * (z a - 48) + (z (a + 1) - 48) := by
  rw [numF_s, num1]
  omega
theorem num3 (z : Nat → Int) (a : Nat) : numF z a 3 = 100 * (z a - 48) + 10 * (z (a + 1) - 48) + (z (a + 2) - 48) := by
  rw [numF_s, num2]
  omega
theorem dg {z : Nat → Int} {l a i : Nat} (h : ¬ badD z l a i) : 0 ≤ z (a + 1 + i) - 48 ∧ z (a + 1 + i) - 48 ≤ 9 := by
  unfold badD at h
  omega
/-- the statement does what may be done -/
theorem doS_CC {k : Kv} (hk : CC k) {z : Nat → Int} {l a : Nat} (hb : (brk z l a).2 = true) {k' : Kv} (h : doS k z a = some k') : CC k' := by
  obtain ⟨b1, b2, b3, b4, b5, b6⟩ := brk_t hb
  have g : ∀ i, i < digs (z a) → 0 ≤ z (a + 1 + i) - 48 ∧ z (a + 1 + i) - 48 ≤ 9 := fun i hi => dg (b3 i hi)
  unfold doS at h
  rcases digs_of (z a) with e | e | e | e | e | e | e | e | e
  · exact absurd e b2
  · have hd : digs (z a) = 5 := by rw [e]; rfl
    have g0 := g 0 (by omega)
    have g2 := g 2 (by omega)
    have g3 := g 3 (by omega)
    have g4 := g 4 (by omega)
    rw [if_pos e] at h
    split at h
    · rename_i q
      cases h
      refine CC_addB hk q.2 q.1 ?_ ?_ ?_
      · rw [num1]; exact g2
      · rw [num1]; exact g3
      · rw [num1]; exact g4
    · cases h
  · rw [if_neg (by omega), if_pos e] at h
    split at h
    · rename_i q
      cases h
      exact CC_sc hk (Or.inr (Or.inr (Or.inl ⟨rfl, q.1, q.2⟩)))
    · cases h
  · have hd : digs (z a) = 3 := by rw [e]; rfl
    have g0 := g 0 (by omega)
    have g1 := g 1 (by omega)
    have g2 := g 2 (by omega)
    rw [if_neg (by omega), if_neg (by omega), if_pos e] at h
    cases h
    refine CC_sc hk (Or.inr (Or.inr (Or.inr ⟨rfl, ?_, ?_⟩)))
    · rw [num3]
      have : 0 ≤ z (a + 1) - 48 ∧ z (a + 1) - 48 ≤ 9 := g0
      have : 0 ≤ z (a + 1 + 1) - 48 ∧ z (a + 1 + 1) - 48 ≤ 9 := g1
      omega
    · rw [num3]
      have : 0 ≤ z (a + 1) - 48 ∧ z (a + 1) - 48 ≤ 9 := g0
      have : 0 ≤ z (a + 1 + 1) - 48 ∧ z (a + 1 + 1) - 48 ≤ 9 := g1
      omega
  · have hd : digs (z a) = 2 := by rw [e]; rfl
    have g1 := g 1 (by omega)
    rw [if_neg (by omega), if_neg (by omega), if_neg (by omega), if_pos e] at h
    split at h
    · rename_i q
      cases h
      refine CC_put hk (Or.inr (Or.inr ⟨rfl, ?_, q.2⟩))
      rw [num1]
      exact g1.1
    · cases h
  · have hd : digs (z a) = 1 := by rw [e]; rfl
    have g0 := g 0 (by omega)
    rw [if_neg (by omega), if_neg (by omega), if_neg (by omega), if_neg (by omega), if_pos e] at h
    cases h
    refine CC_sc hk (Or.inr (Or.inl ⟨rfl, ?_, ?_⟩))
    · rw [num1]; exact g0.1
    · rw [num1]; exact g0.2
  · have hd : digs (z a) = 2 := by rw [e]; rfl
    have g0 := g 0 (by omega)
    have g1 := g 1 (by omega)
    have a2 := hk.1.2.1
    rw [if_neg (by omega), if_neg (by omega), if_neg (by omega), if_neg (by omega), if_neg (by omega), if_pos e] at h
    split at h
    · rename_i q
      cases h
      refine CC_sc hk (Or.inl ⟨rfl, ?_, q⟩)
      rw [num2]
      have : 0 ≤ z (a + 1) - 48 ∧ z (a + 1) - 48 ≤ 9 := g0
      have : 0 ≤ z (a + 1 + 1) - 48 ∧ z (a + 1 + 1) - 48 ≤ 9 := g1
      omega
    · cases h
  · have hd : digs (z a) = 2 := by rw [e]; rfl
    have g0 := g 0 (by omega)
    have g1 := g 1 (by omega)
    rw [if_neg (by omega), if_neg (by omega), if_neg (by omega), if_neg (by omega), if_neg (by omega), if_neg (by omega), if_pos e] at h
    split at h
    · rename_i q
      cases h
      have n0 : 0 ≤ numF z (a + 1) 1 := by rw [num1]; exact g0.1
      have n1 : 0 ≤ numF z (a + 2) 1 := by rw [num1]; exact g1.1
      exact CC_swap hk (by omega) (by omega) (by omega)
    · cases h
  · have hd : digs (z a) = 4 := by rw [e]; rfl
    have g0 := g 0 (by omega)
    have g1 := g 1 (by omega)
    rw [if_neg (by omega), if_neg (by omega), if_neg (by omega), if_neg (by omega), if_neg (by omega), if_neg (by omega), if_neg (by omega)] at h
    split at h
    · rename_i q
      cases h
      refine CC_addY hk q.2.2 ⟨?_, q.1⟩ ?_ q.2.1
      · rw [num1]; exact g0.1
      · rw [num1]; exact g1
    · cases h
theorem c_tell {s : St} {d : Nat} {z : Nat → Int} {l a : Nat} {k : Kv} (hk : CC k) (hr : RC s 35 k) (ht : TX s d z l) (hb : (brk z l a).2 = true) {Q : Bool → St → Prop} (h0 : doS k z a = none → Q false s) (h1 : ∀ k', doS k z a = some k' → ∀ s' : St, (∀ p j, (p < 35 ∨ 51 < p) → s' p j = s p j) → RC s' 35 k' → Q true s') : vc_Tex_tell (66 + 2 * d) (I (a : Nat)) 35 s Q := by
  obtain ⟨b1, b2, b3, b4, b5, b6⟩ := brk_t hb
  have g : ∀ i, i < digs (z a) → 0 ≤ z (a + 1 + i) - 48 ∧ z (a + 1 + i) - 48 ≤ 9 := fun i hi => dg (b3 i hi)
  have ht2 := ht
  obtain ⟨l1, l2, ⟨l3, l4⟩, -⟩ := ht2
  have hza := l2 a (by omega)
  have aI : ∀ j : Nat, I (a : Int) + I (j : Nat) = I ((a + j : Nat) : Int) := fun j => by
    simp (disch := (first | omega | (unfold inr; omega))) only [I_lit, I_nI, I_neg, I_add, I_sub, I_mul, I_div, I_le, I_lt, I_eq, I_clamp, I_clampN, I_vin]
    congr 1
  have e1 : I (a : Int) + 1 = I ((a + 1 : Nat) : Int) := aI 1
  have e2 : I (a : Int) + 2 = I ((a + 2 : Nat) : Int) := aI 2
  have e3 : I (a : Int) + 3 = I ((a + 3 : Nat) : Int) := aI 3
  have e4 : I (a : Int) + 4 = I ((a + 4 : Nat) : Int) := aI 4
  have e5 : I (a : Int) + 5 = I ((a + 5 : Nat) : Int) := aI 5
  have ee : ∀ n : Nat, n < 128 → ((I (z a) = I (n : Nat)) ↔ z a = (n : Nat)) := fun n hn => I_eq ⟨by omega, by omega⟩ ⟨by omega, by omega⟩
  unfold vc_Tex_tell
  rw [e1, e2, e3, e4, e5]
  refine sp_number ht (n := 1) (by omega) rfl rfl ?_
  refine sp_number ht (n := 2) (by omega) rfl rfl ?_
  refine sp_number ht (n := 1) (by omega) rfl rfl ?_
  rw [I_clampN (by omega), show s (66 + 2 * d + 1) a = I (z a) from by rw [show 66 + 2 * d + 1 = 67 + 2 * d by omega]; exact l4 a (by omega)]
  rw [show (I (z a) = 98) ↔ z a = 98 from ee 98 (by decide), show (I (z a) = 99) ↔ z a = 99 from ee 99 (by decide), show (I (z a) = 108) ↔ z a = 108 from ee 108 (by decide), show (I (z a) = 112) ↔ z a = 112 from ee 112 (by decide), show (I (z a) = 114) ↔ z a = 114 from ee 114 (by decide), show (I (z a) = 116) ↔ z a = 116 from ee 116 (by decide), show (I (z a) = 120) ↔ z a = 120 from ee 120 (by decide), show (I (z a) = 121) ↔ z a = 121 from ee 121 (by decide)]
  have n11 := num1 z (a + 1)
  have n12 := num1 z (a + 2)
  have n13 := num1 z (a + 3)
  have n14 := num1 z (a + 4)
  have n15 := num1 z (a + 5)
  have n2 := num2 z (a + 1)
  have n23 := num2 z (a + 3)
  have n3 := num3 z (a + 1)
  have za : ∀ i, i < 100 → -128 ≤ z i ∧ z i ≤ 127 := l2
  have z1 := za (a + 1) (by omega)
  have z2 := za (a + 2) (by omega)
  have g0 : 0 ≤ z (a + 1) - 48 ∧ z (a + 1) - 48 ≤ 9 := g 0 (by omega)
  have g1 : 1 < digs (z a) → 0 ≤ z (a + 2) - 48 ∧ z (a + 2) - 48 ≤ 9 := fun h => g 1 h
  have g2 : 2 < digs (z a) → 0 ≤ z (a + 3) - 48 ∧ z (a + 3) - 48 ≤ 9 := fun h => g 2 h
  have g3 : 3 < digs (z a) → 0 ≤ z (a + 4) - 48 ∧ z (a + 4) - 48 ≤ 9 := fun h => g 3 h
  have g4 : 4 < digs (z a) → 0 ≤ z (a + 5) - 48 ∧ z (a + 5) - 48 ≤ 9 := fun h => g 4 h
  have n2' : numF z (a + 1) 2 = 10 * (z (a + 1) - 48) + (z (a + 2) - 48) := n2
  have n23' : numF z (a + 3) 2 = 10 * (z (a + 3) - 48) + (z (a + 4) - 48) := n23
  have n3' : numF z (a + 1) 3 = 100 * (z (a + 1) - 48) + 10 * (z (a + 2) - 48) + (z (a + 3) - 48) := n3
  unfold doS at h0 h1
  refine ⟨I_vinN (by omega) (by decide), fun q => ?_, fun q1 => ⟨fun q => ?_, fun q2 => ⟨fun q => ?_, fun q3 => ⟨fun q => ?_, fun q4 => ⟨fun q => ?_, fun q5 => ⟨fun q => ?_, fun q6 => ⟨fun q => ?_, fun q7 => ⟨fun q => ?_, fun q8 => ?_⟩⟩⟩⟩⟩⟩⟩⟩
  · have hd : digs (z a) = 5 := by rw [q]; rfl
    have k2 := g2 (by omega)
    have k3 := g3 (by omega)
    have k4 := g4 (by omega)
    rw [if_pos q] at h0 h1
    refine sp_number ht (n := 1) (by omega) rfl rfl ?_
    refine sp_number ht (n := 1) (by omega) rfl rfl ?_
    refine sp_number ht (n := 1) (by omega) rfl rfl ?_
    refine op_body hk hr ⟨by omega, by omega⟩ (by omega) (by omega) (by omega) (fun hno => h0 (by rw [if_neg hno])) (fun hyes s' f' hr' => h1 _ (by rw [if_pos hyes]) s' (fun p j hp => f' p j (by omega)) hr')
  · have hd : digs (z a) = 2 := by rw [q]; rfl
    have k1 := g1 (by omega)
    rw [if_neg q1, if_pos q] at h0 h1
    refine op_adjust (w := 1) ⟨by decide, by decide⟩ ⟨by omega, by omega⟩ (fun hno => h0 (by rw [if_neg (fun w => hno (Or.inr (Or.inl ⟨rfl, w.1, w.2⟩)))])) (fun hyes j hj => ?_)
    have ej : j = 3 := by omega
    subst ej
    have hy : 1 ≤ numF z (a + 1) 2 ∧ numF z (a + 1) 2 ≤ 60 := by unfold adjOk at hyes; omega
    exact h1 _ (by rw [if_pos hy]) _ (fun p j hp => wr_ne (by omega)) (RC_sc hr (i := 4) (j := 3) (by omega))
  · have hd : digs (z a) = 3 := by rw [q]; rfl
    have k1 := g1 (by omega)
    have k2 := g2 (by omega)
    rw [if_neg q1, if_neg q2, if_pos q] at h0 h1
    refine sp_number ht (n := 3) (by omega) rfl rfl ?_
    refine op_adjust (w := 2) ⟨by decide, by decide⟩ ⟨by omega, by omega⟩ (fun hno => absurd (Or.inr (Or.inr ⟨rfl, by omega, by omega⟩)) hno) (fun hyes j hj => ?_)
    have ej : j = 4 := by omega
    subst ej
    exact h1 _ rfl _ (fun p j hp => wr_ne (by omega)) (RC_sc hr (i := 5) (j := 4) (by omega))
  · have hd : digs (z a) = 2 := by rw [q]; rfl
    have k1 := g1 (by omega)
    have a1 := hk.1.1
    rw [if_neg q1, if_neg q2, if_neg q3, if_pos q] at h0 h1
    refine op_alter (n := k 9 1) (w := 1) ⟨by omega, by omega⟩ hr.1.2.1 ⟨by omega, by omega⟩ ⟨by decide, by decide⟩ ⟨by omega, by omega⟩ (fun hno => h0 (by rw [if_neg (fun w => hno ⟨⟨by omega, w.1⟩, Or.inr (Or.inl ⟨rfl, by omega, w.2⟩)⟩)])) (fun hyes => ?_)
    have hy : numF z (a + 1) 1 < k 9 1 ∧ numF z (a + 2) 1 ≤ 3 := ⟨hyes.1.2, by have := hyes.2; unfold altOk at this; omega⟩
    refine h1 _ (by rw [if_pos hy]) _ (fun p j hp => wr_ne (by rw [show altA 1 = 7 from rfl]; omega)) ?_
    exact RC_put hr (a := 7) (by decide)
  · have hd : digs (z a) = 1 := by rw [q]; rfl
    rw [if_neg q1, if_neg q2, if_neg q3, if_neg q4, if_pos q] at h0 h1
    refine op_adjust (w := 0) ⟨by decide, by decide⟩ ⟨by omega, by omega⟩ (fun hno => absurd (Or.inl ⟨rfl, by omega, by omega⟩) hno) (fun hyes j hj => ?_)
    have ej : j = 2 := by omega
    subst ej
    exact h1 _ rfl _ (fun p j hp => wr_ne (by omega)) (RC_sc hr (i := 3) (j := 2) (by omega))
  · have hd : digs (z a) = 2 := by rw [q]; rfl
    have k1 := g1 (by omega)
    have a2 := hk.1.2.1
    rw [if_neg q1, if_neg q2, if_neg q3, if_neg q4, if_neg q5, if_pos q] at h0 h1
    unfold vc_Cav_goOn
    rw [show s 35 5 = I (k 9 2) from hr.1.2.2.1, show I (k 9 2) + I (numF z (a + 1) 2) = I (k 9 2 + numF z (a + 1) 2) from by simp (disch := (first | omega | (unfold inr; omega))) only [I_lit, I_nI, I_neg, I_add, I_sub, I_mul, I_div, I_le, I_lt, I_eq, I_clamp, I_clampN, I_vin], show (I (k 9 2 + numF z (a + 1) 2) ≤ 9999) ↔ k 9 2 + numF z (a + 1) 2 ≤ 9999 from by simp (disch := (first | omega | (unfold inr; omega))) only [I_lit, I_nI, I_neg, I_add, I_sub, I_mul, I_div, I_le, I_lt, I_eq, I_clamp, I_clampN, I_vin]]
    refine ⟨fun c s11 h11 => ?_, fun c => h0 (by rw [if_neg c])⟩
    rw [h11]
    exact h1 _ (by rw [if_pos c]) _ (fun p j hp => wr_ne (by omega)) (RC_sc hr (i := 2) (j := 5) (by omega))
  · have hd : digs (z a) = 2 := by rw [q]; rfl
    have k1 := g1 (by omega)
    rw [if_neg q1, if_neg q2, if_neg q3, if_neg q4, if_neg q5, if_neg q6, if_pos q] at h0 h1
    refine op_swap hk hr ⟨by omega, by omega⟩ ⟨by omega, by omega⟩ (fun hno => h0 (by rw [if_neg (fun w => hno ⟨⟨by omega, w.1⟩, ⟨by omega, w.2.1⟩, w.2.2⟩)])) (fun hyes s' f' hr' => h1 _ (by rw [if_pos ⟨hyes.1.2, hyes.2.1.2, hyes.2.2⟩]) s' (fun p j hp => f' p j (by omega)) hr')
  · have hd : digs (z a) = 4 := by rw [q]; rfl
    have k1 := g1 (by omega)
    have k2 := g2 (by omega)
    have k3 := g3 (by omega)
    rw [if_neg q1, if_neg q2, if_neg q3, if_neg q4, if_neg q5, if_neg q6, if_neg q7] at h0 h1
    refine sp_number ht (n := 2) (by omega) rfl rfl ?_
    refine op_yard hk hr ⟨by omega, by omega⟩ ⟨by omega, by omega⟩ ⟨by omega, by omega⟩ (fun hno => h0 (by rw [if_neg (fun w => hno ⟨⟨by omega, w.1⟩, ⟨by omega, by omega⟩, w.2.1, w.2.2⟩)])) (fun hyes s' f' hr' => h1 _ (by rw [if_pos ⟨hyes.1.2, hyes.2.2.1, hyes.2.2.2⟩]) s' (fun p j hp => f' p j (by omega)) hr')
  · exfalso
    apply b2
    unfold digs
    rw [if_neg q1, if_neg q2, if_neg q3, if_neg q4, if_neg q5, if_neg q6, if_neg q7, if_neg q8]
