theorem in2 {k : Kv} (hk : CV k) {s : St} (hrm : RM s 83 k) {b y : Int} (hb : inr b) (hy : inr y) {P Q : Prop} (hno : ¬ ((0 ≤ b ∧ b < k 9 1) ∧ (0 ≤ y ∧ y < k 9 0)) → P) (hyes : ((0 ≤ b ∧ b < k 9 1) ∧ (0 ≤ y ∧ y < k 9 0)) → Q) : vc_Mod_isBody (I b) s (fun b10 => (((bi b10) = 0 → P) ∧ (¬ (bi b10) = 0 → vc_Mod_isYard (I y) s (fun b13 => (((bi b13) = 0 → P) ∧ (¬ (bi b13) = 0 → Q)))))) := by
  refine isBody_ok hk hrm hb ?_
  rw [bi_f]
  refine ⟨fun z => hno (fun q => by simp at z; omega), fun z => ?_⟩
  have z : 0 ≤ b ∧ b < k 9 1 := by simpa using z
  refine isYard_ok hk hrm hy ?_
  rw [bi_f]
  refine ⟨fun z2 => hno (fun q => by simp at z2; omega), fun z2 => ?_⟩
  have z2 : 0 ≤ y ∧ y < k 9 0 := by simpa using z2
  exact hyes ⟨z, z2⟩
theorem e_fits {s : St} {A : Ab} (hR : RR s A) (x y : Int32) : vc_Brt_fits x y s (fun r => vc_Mod_fits x y s (fun r' => r = r')) := by
  obtain ⟨b, hb, rfl⟩ := I_of x
  obtain ⟨w, hw, rfl⟩ := I_of y
  obtain ⟨hk, -⟩ := hR.2.2.1
  have hrc := hR.1.1
  have hrm := hR.2.1.1
  generalize A.1 = k at hk hrc hrm
  have a := hk.1
  have a5 := hk.2.1
  unfold vc_Brt_fits
  refine both_ok hk hrc hb hw ?_
  rw [bi_f]
  unfold vc_Mod_fits
  constructor
  · intro z
    have z := (decide_eq_false_iff_not.mp z)
    exact in2 hk hrm hb hw (fun _ => rfl) (fun q => absurd q z)
  · intro z
    have z : ((0 ≤ b ∧ b < k 9 1) ∧ (0 ≤ w ∧ w < k 9 0)) := by simpa only [decide_eq_false_iff_not, Decidable.not_not] using z
    obtain ⟨b, rfl, hb1⟩ := nat_of z.1
    obtain ⟨y, rfl, hy1⟩ := nat_of z.2
    refine sp_fit hk hrc hb1 hy1 ?_
    refine in2 hk hrm hb hw (fun q => absurd z q) (fun _ => ?_)
    refine hour_ok hk hrm ?_
    exact sp_mfits hrm hb1 (by omega) hy1 (by omega) (hk.2.2.1 _ hy1) (hk.2.2.2 _ hb1) ⟨by omega, by omega⟩ ⟨by omega, by omega⟩ rfl
theorem e_size {s : St} {A : Ab} (hR : RR s A) (x y x3 x4 : Int32) : vc_Brt_size x y x3 x4 s (fun r => vc_Mod_size x y x3 x4 s (fun r' => r = r')) := by
  obtain ⟨b, hb, rfl⟩ := I_of x
  obtain ⟨w, hw, rfl⟩ := I_of y
  obtain ⟨p, hp, rfl⟩ := I_of x3
  obtain ⟨o, ho, rfl⟩ := I_of x4
  obtain ⟨hk, -⟩ := hR.2.2.1
  have hrc := hR.1.1
  have hrm := hR.2.1.1
  generalize A.1 = k at hk hrc hrm
  have a := hk.1
  have a5 := hk.2.1
  have mod : ∀ r : Int32, (¬ (((0 ≤ b ∧ b < k 9 1) ∧ (0 ≤ w ∧ w < k 9 0)) ∧ (0 ≤ p ∧ p ≤ 3) ∧ (0 ≤ o ∧ o ≤ 1)) → r = -1) → ((((0 ≤ b ∧ b < k 9 1) ∧ (0 ≤ w ∧ w < k 9 0)) ∧ (0 ≤ p ∧ p ≤ 3) ∧ (0 ≤ o ∧ o ≤ 1)) → r = I (sizeZ k b.toNat w.toNat p (decide (o = 1)))) → vc_Mod_size (I b) (I w) (I p) (I o) s (fun r' => r = r') := by
    intro r hno hyes
    unfold vc_Mod_size
    refine in2 hk hrm hb hw (fun q => hno (fun z => q z.1)) (fun q => ?_)
    rw [show (3 : Int32) = I 3 from rfl, show (1 : Int32) = I 1 from rfl]
    have e0 : vc_Mod_isIn (I p) 0 (I 3) = vc_Mod_isIn (I p) (I 0) (I 3) := rfl
    have e1 : vc_Mod_isIn (I o) 0 (I 1) = vc_Mod_isIn (I o) (I 0) (I 1) := rfl
    rw [e0, e1]
    refine sp_isIn hp ⟨by decide, by decide⟩ ⟨by decide, by decide⟩ ?_
    rw [bi_f]
    refine ⟨fun z => hno (fun q2 => by simp at z; omega), fun z => ?_⟩
    have z : 0 ≤ p ∧ p ≤ 3 := by simpa using z
    refine sp_isIn ho ⟨by decide, by decide⟩ ⟨by decide, by decide⟩ ?_
    rw [bi_f]
    refine ⟨fun z => hno (fun q2 => by simp at z; omega), fun z2 => ?_⟩
    have z2 : 0 ≤ o ∧ o ≤ 1 := by simpa using z2
    have h := hyes ⟨q, z, z2⟩
    obtain ⟨b, rfl, hb1⟩ := nat_of q.1
    obtain ⟨y, rfl, hy1⟩ := nat_of q.2
    refine ⟨fun x => x = bi (decide (o = 1)), ?_, ?_, ?_⟩
    · rintro x rfl
      exact sp_msize hrm hb1 (by omega) hy1 (by omega) (hk.2.2.1 _ hy1) (hk.2.2.2 _ hb1) z (decide (o = 1)) rfl h
    · intro c
      have c : ¬ o = 1 := by
        intro e
        exact c (by rw [e])
      simp [c]
      rfl
    · intro c
      have c : o = 1 := by
        revert c
        simp (disch := (first | omega | (unfold inr; omega))) only [I_lit, I_nI, I_neg, I_add, I_sub, I_mul, I_div, I_le, I_lt, I_eq, I_clamp, I_clampN, I_vin]
        exact id
      simp [c]
      rfl
  unfold vc_Brt_size
  refine both_ok hk hrc hb hw ?_
  rw [bi_f]
  constructor
  · intro z
    have z := (decide_eq_false_iff_not.mp z)
    exact mod _ (fun _ => rfl) (fun q => absurd q.1 z)
  · intro z
    have z : ((0 ≤ b ∧ b < k 9 1) ∧ (0 ≤ w ∧ w < k 9 0)) := by simpa only [decide_eq_false_iff_not, Decidable.not_not] using z
    have e0 : vc_Brt_within (I p) 0 3 = vc_Brt_within (I p) (I 0) (I 3) := rfl
    have e1 : vc_Brt_within (I o) 0 1 = vc_Brt_within (I o) (I 0) (I 1) := rfl
    rw [e0, e1]
    refine sp_within hp ⟨by decide, by decide⟩ ⟨by decide, by decide⟩ ?_
    rw [bi_f]
    refine ⟨fun zp => mod _ (fun _ => rfl) (fun q2 => by simp at zp; omega), fun zp => ?_⟩
    have zp : 0 ≤ p ∧ p ≤ 3 := by simpa using zp
    refine sp_within ho ⟨by decide, by decide⟩ ⟨by decide, by decide⟩ ?_
    rw [bi_f]
    refine ⟨fun zo => ?_, fun zo => mod _ (fun _ => rfl) (fun q2 => by simp at zo; omega)⟩
    have zo : 0 ≤ o ∧ o ≤ 1 := by simpa using zo
    have hz := z
    obtain ⟨b, rfl, hb1⟩ := nat_of z.1
    obtain ⟨y, rfl, hy1⟩ := nat_of z.2
    obtain ⟨f1, f2, f3, f4, f5, f6⟩ := hrc.2.2 b hb1
    obtain ⟨g1, g2, g3, g4, g5, g6, g7, g8⟩ := hrc.2.1 y hy1
    have hcy : (I (y : Int)).toNatClampNeg = y := I_clampN (by omega)
    refine ⟨fun x => x = bi (decide (o = 1)), ?_, ?_, ?_⟩
    · rintro x rfl
      refine sp_bulk (k := k) (by omega) (hk.2.2.2 _ hb1) f1 f2 f3 zp (decide (o = 1)) rfl ?_
      refine sp_more zp ?_
      intro _
      refine ⟨I_vinN (by omega) (by decide), ?_⟩
      refine mod _ (fun q => absurd ⟨hz, zp, zo⟩ q) (fun _ => ?_)
      rw [hcy]
      unfold sizeZ
      split
      · rename_i q9
        rw [show s (2 + 8) y = I (moreZ (k 0 y) true) from g8, I_add]
        simp [q9]
      · rename_i q9
        rw [show s (2 + 7) y = I (moreZ (k 0 y) false) from g7, I_add]
        simp [q9]
    · intro c
      have c : ¬ o = 1 := by
        intro e
        exact c (by rw [e]; rfl)
      simp [c]
      rfl
    · intro c
      have c : o = 1 := by
        revert c
        simp (disch := (first | omega | (unfold inr; omega))) only [I_lit, I_nI, I_neg, I_add, I_sub, I_mul, I_div, I_le, I_lt, I_eq, I_clamp, I_clampN, I_vin]
        exact id
      simp [c]
      rfl
/-- the most inches that lack b, over n YARDS -/
def lacksF (k : Kv) (b : Nat) : Nat → Int
  | 0 => 0
  | n + 1 => max (lacksF k b n) (lackZ k b n (k 9 2))
theorem lacks_in {k : Kv} (hk : CV k) {b : Nat} (hb : (b : Int) < k 9 1) : ∀ n : Nat, (n : Int) ≤ k 9 0 → 0 ≤ lacksF k b n ∧ lacksF k b n ≤ 55 := by
  intro n
  induction n with
  | zero => intro _; exact ⟨Int.le_refl 0, by show (0 : Int) ≤ 55; decide⟩
  | succ n ih =>
    intro h
    have := ih (by omega)
    have a5 := hk.2.1
    have := lack_in (hk.2.2.2 _ hb) (hk.2.2.1 n (by omega)) (c := k 9 2) ⟨by omega, by omega⟩ ⟨by omega, by omega⟩
    unfold lacksF
    omega
theorem e_lacks {s : St} {A : Ab} (hR : RR s A) (x : Int32) : vc_Brt_lacks x s (fun r => vc_Mod_lacks x s (fun r' => r = r')) := by
  obtain ⟨b, hb, rfl⟩ := I_of x
  obtain ⟨hk, -⟩ := hR.2.2.1
  have hrc := hR.1.1
  have hrm := hR.2.1.1
  generalize A.1 = k at hk hrc hrm
  have a := hk.1
  have a5 := hk.2.1
  unfold vc_Brt_lacks
  refine has_ok (n := k 9 1) ⟨by omega, by omega⟩ hrc.1.2.1 hb ?_
  rw [bi_f]
  unfold vc_Mod_lacks
  constructor
  · intro z
    have z : 0 ≤ b ∧ b < k 9 1 := by simpa using z
    obtain ⟨b, rfl, hb1⟩ := nat_of z
    have hli := lacks_in hk hb1
    refine ⟨fun N m y => ∃ i : Nat, y = I i ∧ (i : Int) ≤ k 9 0 ∧ N = (k 9 0).toNat - i ∧ m = I (lacksF k b i), ⟨_, 0, rfl, by simpa using a.1, rfl, rfl⟩, ?_⟩
    rintro N m y ⟨i, rfl, hi, hN, rfl⟩
    have hl := hli i hi
    rw [show s 2 0 = I (k 9 0) from hrc.1.1]
    constructor
    · intro q
      have q : (k 9 0).toNat = i := by
        revert q
        simp (disch := (first | omega | (unfold inr; omega))) only [I_lit, I_nI, I_neg, I_add, I_sub, I_mul, I_div, I_le, I_lt, I_eq, I_clamp, I_clampN, I_vin]
        omega
      refine isBody_ok hk hrm hb ?_
      rw [bi_f]
      refine ⟨fun _ => ?_, fun q => by simp at q; omega⟩
      refine ⟨fun N m y => ∃ i : Nat, y = I i ∧ (i : Int) ≤ k 9 0 ∧ N = (k 9 0).toNat - i ∧ m = I (lacksF k b i), ⟨_, 0, rfl, by simpa using a.1, rfl, rfl⟩, ?_⟩
      rintro N m y ⟨i', rfl, hi', hN', rfl⟩
      have hl' := hli i' hi'
      refine ⟨v_in (a := 0) ⟨by decide, by decide⟩ (by decide) rfl, ?_⟩
      rw [show s 83 (Int32.toNatClampNeg 0) = I (k 9 0) from hrm.1 0 (by decide)]
      constructor
      · intro q2
        have q2 : (k 9 0).toNat = i' := by
          revert q2
          simp (disch := (first | omega | (unfold inr; omega))) only [I_lit, I_nI, I_neg, I_add, I_sub, I_mul, I_div, I_le, I_lt, I_eq, I_clamp, I_clampN, I_vin]
          omega
        rw [← q2, q]
      · intro q2
        have q2 : (i' : Int) < k 9 0 := by
          revert q2
          simp (disch := (first | omega | (unfold inr; omega))) only [I_lit, I_nI, I_neg, I_add, I_sub, I_mul, I_div, I_le, I_lt, I_eq, I_clamp, I_clampN, I_vin]
          omega
        have hcy := hk.2.2.1 _ q2
        have hcb := hk.2.2.2 _ hb1
        refine sp_msizeNow hrm hb1 (by omega) q2 (by omega) hcy hcb true rfl ?_
        refine hour_ok hk hrm ?_
        refine sp_mroom hrm q2 (by omega) hcy ⟨by omega, by omega⟩ ⟨by omega, by omega⟩ ?_
        have hlk := lack_in hcb hcy (c := k 9 2) ⟨by omega, by omega⟩ ⟨by omega, by omega⟩
        rw [I_sub, show sizeZ k b i' (k 7 b) true - roomZ k i' (k 9 2 / 60 * k 9 3) = lackZ k b i' (k 9 2) from rfl]
        refine sp_mmost ⟨by omega, by omega⟩ ⟨by omega, by omega⟩ ?_
        intro x27 hx27
        refine ⟨(k 9 0).toNat - (i' + 1), by omega, i' + 1, ?_, by omega, rfl, rfl⟩
        rw [hx27]
        simp (disch := (first | omega | (unfold inr; omega))) only [I_lit, I_nI, I_neg, I_add, I_sub, I_mul, I_div, I_le, I_lt, I_eq, I_clamp, I_clampN, I_vin]
        congr 1
    · intro q
      have q : (i : Int) < k 9 0 := by
        revert q
        simp (disch := (first | omega | (unfold inr; omega))) only [I_lit, I_nI, I_neg, I_add, I_sub, I_mul, I_div, I_le, I_lt, I_eq, I_clamp, I_clampN, I_vin]
        omega
      refine sp_lack hk hrc hb1 q ?_
      intro x20 hx20 x21 hx21
      have hlk := lack_in (hk.2.2.2 _ hb1) (hk.2.2.1 _ q) (c := k 9 2) ⟨by omega, by omega⟩ ⟨by omega, by omega⟩
      refine ⟨(k 9 0).toNat - (i + 1), by omega, i + 1, ?_, by omega, rfl, ?_⟩
      · rw [hx21]
        simp (disch := (first | omega | (unfold inr; omega))) only [I_lit, I_nI, I_neg, I_add, I_sub, I_mul, I_div, I_le, I_lt, I_eq, I_clamp, I_clampN, I_vin]
        congr 1
      · rw [hx20, imax_I ⟨by omega, by omega⟩ ⟨by omega, by omega⟩]
        rfl
  · intro z
    refine isBody_ok hk hrm hb ?_
    rw [bi_f]
    exact ⟨fun q => absurd z q, fun _ => rfl⟩
