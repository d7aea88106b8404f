-- order: the class
theorem tab_in {k : Kv} (hv : CV k) {l : Nat → Nat} {n : Nat} (hn : n ≤ 6) (hl : ∀ j, j < n → (l j : Int) < k 9 1) : (0 ≤ tabN k l n ∧ tabN k l n ≤ n) ∧ (k 9 2 ≤ tabC k l n ∧ tabC k l n ≤ k 9 2 + 4320) := by
  have a5 := hv.2.1
  have ht := (goZ_in hv hn (oat_in hl false) false (c := k 9 2) ⟨by omega, by omega⟩ zt).2.2.2.1
  have et : goZ k (oat l n false) n false (k 9 2) zt = thereZ k l n (k 9 2) zt := rfl
  rw [et] at ht
  unfold tabN tabC homeZ
  split
  · have h := goZ_in hv hn (oat_in hl true) true (c := (thereZ k l n (k 9 2) zt).2.2.2.2.1) ⟨by omega, by omega⟩ zt
    have h1 := h.2.2.1
    have h2 := h.2.2.2.1
    exact ⟨h1, by omega, by omega⟩
  · refine ⟨⟨Int.le_refl 0, Int.natCast_nonneg _⟩, ?_⟩
    show k 9 2 ≤ (thereZ k l n (k 9 2) zt).2.2.2.2.1 ∧ (thereZ k l n (k 9 2) zt).2.2.2.2.1 ≤ k 9 2 + 4320
    omega
/-- the class's best so far -/
def BRc (s : St) (n : Nat) (b : Int × Int × List Nat) : Prop := s 58 1 = I b.1 ∧ (0 ≤ b.1 → s 58 3 = I b.2.1 ∧ ∀ j, j < n → s 59 j = I (b.2.2.getD j 0 : Nat))
def bIn (k : Kv) (n : Nat) (b : Int × Int × List Nat) : Prop := -1 ≤ b.1 ∧ b.1 ≤ n ∧ (0 ≤ b.1 → 0 ≤ b.2.1 ∧ b.2.1 ≤ 30000)
theorem bestP_in {k : Kv} (hv : CV k) {n : Nat} (hn : n ≤ 6) {b : Int × Int × List Nat} (hb : bIn k n b) {l : List Nat} (hl : ∀ j, j < n → ((l.getD j 0 : Nat) : Int) < k 9 1) : bIn k n (bestP k n b l) ∧ 0 ≤ (bestP k n b l).1 := by
  have a5 := hv.2.1
  have ht := tab_in hv hn (l := fun j => l.getD j 0) hl
  unfold bestP
  by_cases c : b.1 < tabN k (fun j => l.getD j 0) n ∨ (b.1 = tabN k (fun j => l.getD j 0) n ∧ tabC k (fun j => l.getD j 0) n < b.2.1)
  · rw [if_pos c]
    refine ⟨⟨?_, ?_, fun _ => ⟨?_, ?_⟩⟩, ?_⟩
    · show -1 ≤ tabN k (fun j => l.getD j 0) n
      omega
    · exact ht.1.2
    · show 0 ≤ tabC k (fun j => l.getD j 0) n
      omega
    · show tabC k (fun j => l.getD j 0) n ≤ 30000
      omega
    · exact ht.1.1
  · rw [if_neg c]
    exact ⟨hb, by omega⟩
theorem c_weigh {s : St} {k : Kv} (hv : CV k) {n : Nat} (hn : n ≤ 6) {b : Int × Int × List Nat} (hb : bIn k n b) (hs : BRc s n b) {l : List Nat} (hl : ∀ j, j < n → ((l.getD j 0 : Nat) : Int) < k 9 1) (h60 : ∀ j, j < n → s 60 j = I (l.getD j 0 : Nat)) (h1 : s 55 1 = I (tabN k (fun j => l.getD j 0) n)) (h4 : s 55 4 = I (tabC k (fun j => l.getD j 0) n)) {Q : St → Prop} (hQ : ∀ s', (∀ p j, p ≠ 58 → p ≠ 59 → s' p j = s p j) → BRc s' n (bestP k n b l) → Q s') : vc_Best_weigh 58 55 s Q := by
  have a5 := hv.2.1
  have ht := tab_in hv hn (l := fun j => l.getD j 0) hl
  obtain ⟨b1, b2, b3⟩ := hb
  obtain ⟨s1, s2⟩ := hs
  have hbp : bestP k n b l = if b.1 < tabN k (fun j => l.getD j 0) n ∨ (b.1 = tabN k (fun j => l.getD j 0) n ∧ tabC k (fun j => l.getD j 0) n < b.2.1) then (tabN k (fun j => l.getD j 0) n, tabC k (fun j => l.getD j 0) n, l) else b := rfl
  generalize bestP k n b l = b' at hbp hQ
  generalize tabN k (fun j => l.getD j 0) n = N at ht h1 hbp
  generalize tabC k (fun j => l.getD j 0) n = C at ht h4 hbp
  unfold vc_Best_weigh
  rw [h1, h4, s1, show (I b.1 < I N) ↔ b.1 < N from by simp (disch := (first | omega | (unfold inr; omega))) only [I_lit, I_nI, I_neg, I_add, I_sub, I_mul, I_div, I_le, I_lt, I_eq, I_clamp, I_clampN, I_vin], show (I N = I b.1) ↔ N = b.1 from by simp (disch := (first | omega | (unfold inr; omega))) only [I_lit, I_nI, I_neg, I_add, I_sub, I_mul, I_div, I_le, I_lt, I_eq, I_clamp, I_clampN, I_vin]]
  refine ⟨fun x => (x = 1 ∧ (b.1 = N ∧ C < b.2.1)) ∨ (x = 0 ∧ ¬ (b.1 = N ∧ C < b.2.1)), ?_, ¬ (b.1 = N ∧ C < b.2.1), fun q => Or.inr ⟨rfl, q⟩, fun q1 q2 => q1 q2.1.symm, fun q1 => ?_⟩
  · intro x10 hx
    refine ⟨b.1 < N ∨ (b.1 = N ∧ C < b.2.1), fun hbt => ?_, fun q => Or.inl q, fun q => ⟨fun q2 => ?_, fun q2 => ?_⟩⟩
    · intro s13 h13 s14 h14
      refine ⟨cp_ok 6 rfl (by decide), ?_⟩
      intro s16 h16
      rw [show Int32.toNatClampNeg 0 = 0 from rfl, show Int32.toNatClampNeg 6 = 6 from rfl] at h16
      refine hQ s16 (fun p j p1 p2 => ?_) ?_
      · rw [h16, wcp_ne p2, h14, wr_ne p1, h13, wr_ne p1]
      · rw [hbp, if_pos hbt]
        refine ⟨?_, fun _ => ⟨?_, fun j hj => ?_⟩⟩
        · rw [h16, wcp_ne (by decide), h14, wr_off (by decide), h13, wr_at]
        · rw [h16, wcp_ne (by decide), h14, wr_at, h13, wr_ne (by decide), h4]
        · rw [h16]
          show wcp s14 60 59 0 0 6 59 j = _
          rw [wcp_at (by omega), h14, wr_ne (by decide), h13, wr_ne (by decide)]
          exact h60 j hj
    · rcases hx with ⟨rfl, _⟩ | ⟨_, hx⟩
      · exact absurd q2 (by decide)
      · refine hQ s (fun _ _ _ _ => rfl) ?_
        rw [hbp, if_neg (fun q3 => q3.elim q hx)]
        exact ⟨s1, s2⟩
    · rcases hx with ⟨_, hx⟩ | ⟨rfl, _⟩
      · exact Or.inr hx
      · exact absurd rfl q2
  · have e3 := (s2 (by omega)).1
    have b4 := b3 (by omega)
    rw [e3, show (I b.2.1 ≤ I C) ↔ b.2.1 ≤ C from by simp (disch := (first | omega | (unfold inr; omega))) only [I_lit, I_nI, I_neg, I_add, I_sub, I_mul, I_div, I_le, I_lt, I_eq, I_clamp, I_clampN, I_vin]]
    exact ⟨fun q2 q3 => by omega, fun q2 => Or.inl ⟨rfl, q1.symm, by omega⟩⟩
