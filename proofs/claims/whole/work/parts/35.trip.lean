/-! THERE AND BACK (class) -/
theorem RC_ext {s s' : St} {c : Nat} {k : Kv} (h : ∀ q j, q ≤ 16 → s' (c + q) j = s (c + q) j) (hr : RC s c k) : RC s' c k := by
  obtain ⟨⟨r1, r2, r3, r4, r5, r6⟩, hy, hb⟩ := hr
  refine ⟨⟨(h 1 0 (by decide)).trans r1, (h 10 0 (by decide)).trans r2, (h 0 5 (by decide)).trans r3, (h 0 2 (by decide)).trans r4, (h 0 3 (by decide)).trans r5, (h 0 4 (by decide)).trans r6⟩, fun y q => ?_, fun b q => ?_⟩
  · obtain ⟨g1, g2, g3, g4, g5, g6, g7, g8⟩ := hy y q
    exact ⟨(h 2 y (by decide)).trans g1, (h 3 y (by decide)).trans g2, (h 4 y (by decide)).trans g3, (h 5 y (by decide)).trans g4, (h 6 y (by decide)).trans g5, (h 7 y (by decide)).trans g6, (h 8 y (by decide)).trans g7, (h 9 y (by decide)).trans g8⟩
  · obtain ⟨g1, g2, g3, g4, g5, g6⟩ := hb b q
    exact ⟨(h 11 b (by decide)).trans g1, (h 12 b (by decide)).trans g2, (h 13 b (by decide)).trans g3, (h 14 b (by decide)).trans g4, (h 15 b (by decide)).trans g5, (h 16 b (by decide)).trans g6⟩
theorem RC_LG {s : St} {c p : Nat} {k : Kv} {v ts : Nat → Int32} (hp : c + 16 < p) (h : RC s c k) : RC (LG s p v ts) c k := RC_ext (fun q j hq => LG_ne (Or.inl (by omega))) h
theorem goF_in {k : Kv} (hk : CV k) {o : Nat → Nat} {n : Nat} (ho : ∀ i, i < n → (o i : Int) < k 9 1) (back : Bool) : ∀ (f i : Nat) (mx cl br : Int) (m : Int32) (ts : Nat → Int32), i + f = n → 0 ≤ cl → cl + 360 * f ≤ 800000 →
    ((goF k o n back f i mx m cl br ts).2.2.1 = -4 ∨ 0 ≤ (goF k o n back f i mx m cl br ts).2.2.1 ∧ (goF k o n back f i mx m cl br ts).2.2.1 < k 9 1) ∧
    ((goF k o n back f i mx m cl br ts).2.2.2.1 = -4 ∨ 0 ≤ (goF k o n back f i mx m cl br ts).2.2.2.1 ∧ (goF k o n back f i mx m cl br ts).2.2.2.1 < k 9 0) ∧
    ((i : Int) ≤ (goF k o n back f i mx m cl br ts).2.1 ∧ (goF k o n back f i mx m cl br ts).2.1 ≤ n) ∧ (cl ≤ (goF k o n back f i mx m cl br ts).2.2.2.2.1 ∧ (goF k o n back f i mx m cl br ts).2.2.2.2.1 ≤ cl + 360 * f) ∧ (br ≤ (goF k o n back f i mx m cl br ts).2.2.2.2.2.1 ∧ (goF k o n back f i mx m cl br ts).2.2.2.2.2.1 ≤ br + 12 * f) ∧
    ((goF k o n back f i mx m cl br ts).2.2.1 = -4 ↔ (goF k o n back f i mx m cl br ts).2.1 = n) := by
  intro f
  induction f with
  | zero =>
    intro i mx cl br m ts h1 h2 h3
    refine ⟨Or.inl rfl, Or.inl rfl, ⟨Int.le_refl _, ?_⟩, ⟨Int.le_refl _, ?_⟩, ⟨Int.le_refl _, ?_⟩, ?_⟩
    · show (i : Int) ≤ n; omega
    · show cl ≤ _; omega
    · show br ≤ _; omega
    · show (-4 : Int) = -4 ↔ (i : Int) = n
      constructor
      · intro _; omega
      · intro _; rfl
  | succ f ih =>
    intro i mx cl br m ts h1 h2 h3
    have hob := ho i (by omega)
    unfold goF
    generalize (mx / 3 + if i + 1 < n then k 6 (o (i + 1)) / 3 else 0) = hv
    have hwi := wayZ_in hk hob back hv (c := cl) (br := br) ⟨by omega, by omega⟩
    generalize wayZ k (o i) back hv cl br = r at hwi ⊢
    split
    · have := ih (i + 1) (max mx (k 6 (o i))) r.2.1 r.2.2 (m ||| (1 <<< (I (o i) &&& 31))) (upd ts i (I r.2.1)) (by omega) (by omega) (by omega)
      omega
    · rename_i z
      have a := hk.1
      refine ⟨Or.inr ⟨Int.natCast_nonneg _, hob⟩, hwi.1, ⟨Int.le_refl _, ?_⟩, ⟨hwi.2.1, ?_⟩, ⟨hwi.2.2.2.1, ?_⟩, ?_⟩
      · show (i : Int) ≤ n; omega
      · show r.2.1 ≤ _; omega
      · show r.2.2 ≤ _; omega
      · show ((o i : Nat) : Int) = -4 ↔ (i : Int) = n
        constructor
        · intro q; omega
        · intro q; omega
theorem goZ_in {k : Kv} (hk : CV k) {o : Nat → Nat} {n : Nat} (hn : n ≤ 6) (ho : ∀ i, i < n → (o i : Int) < k 9 1) (back : Bool) {c : Int} (hc : 0 ≤ c ∧ c ≤ 700000) (ts : Nat → Int32) :
    ((goZ k o n back c ts).2.2.1 = -4 ∨ 0 ≤ (goZ k o n back c ts).2.2.1 ∧ (goZ k o n back c ts).2.2.1 < k 9 1) ∧
    ((goZ k o n back c ts).2.2.2.1 = -4 ∨ 0 ≤ (goZ k o n back c ts).2.2.2.1 ∧ (goZ k o n back c ts).2.2.2.1 < k 9 0) ∧
    (0 ≤ (goZ k o n back c ts).2.1 ∧ (goZ k o n back c ts).2.1 ≤ n) ∧ (c ≤ (goZ k o n back c ts).2.2.2.2.1 ∧ (goZ k o n back c ts).2.2.2.2.1 ≤ c + 2160) ∧ (0 ≤ (goZ k o n back c ts).2.2.2.2.2.1 ∧ (goZ k o n back c ts).2.2.2.2.2.1 ≤ 72) ∧
    ((goZ k o n back c ts).2.2.1 = -4 ↔ (goZ k o n back c ts).2.1 = n) := by
  have := goF_in hk ho back n 0 0 c 0 0 ts (by omega) hc.1 (by omega)
  unfold goZ
  refine ⟨this.1, this.2.1, ⟨by have := this.2.2.1; omega, this.2.2.1.2⟩, ⟨this.2.2.2.1.1, by have := this.2.2.2.1.2; omega⟩, ⟨this.2.2.2.2.1.1, by have := this.2.2.2.2.1.2; omega⟩, this.2.2.2.2.2⟩
theorem oat_in {k : Kv} {l : Nat → Nat} {n : Nat} (h : ∀ j, j < n → (l j : Int) < k 9 1) (back : Bool) : ∀ i, i < n → (oat l n back i : Int) < k 9 1 := by
  intro i hi
  unfold oat
  split
  · exact h _ (by omega)
  · exact h _ hi
/-- the way there -/
def thereZ (k : Kv) (l : Nat → Nat) (n : Nat) (c : Int) (ts : Nat → Int32) : Gr := goZ k (oat l n false) n false c ts
/-- the way back, behind that there -/
def homeZ (k : Kv) (l : Nat → Nat) (n : Nat) (rt : Gr) (ts : Nat → Int32) : Gr := if rt.2.2.1 = -4 then goZ k (oat l n true) n true rt.2.2.2.2.1 ts else (0, 0, -4, -4, rt.2.2.2.2.1, 0, ts)
def okZ (rt rh : Gr) : Bool := decide (rt.2.2.1 = -4 ∧ rh.2.2.1 = -4)
def TB (s : St) (rt rh : Gr) : St := LG (LG s 53 (rowR (s 53) rt) rt.2.2.2.2.2.2) 55 (rowR (s 55) rh) rh.2.2.2.2.2.2
theorem rowR2 {v : Nat → Int32} {r : Gr} : rowR v r 2 = I r.2.2.1 := rfl
theorem rowR4 {v : Nat → Int32} {r : Gr} : rowR v r 4 = I r.2.2.2.2.1 := rfl
set_option maxHeartbeats 1000000 in
theorem sp_tab {s : St} {c p2 n2 : Nat} {k : Kv} (hk : CV k) (hr : RC s c k) (hc : c ≤ 35) (hp2 : p2 < 53 ∨ 56 < p2) {l : Nat → Nat} {n : Nat} (hn : n ≤ 6) (hn2 : n ≤ n2) (hn9 : n2 < 1000) (hl : ∀ j, j < n → s p2 j = I (l j) ∧ (l j : Int) < k 9 1) {c0 : Int} (hc0 : 0 ≤ c0 ∧ c0 ≤ 100000)
    {Q : Bool → St → Prop} (hQ : Q (okZ (thereZ k l n c0 (s 54)) (homeZ k l n (thereZ k l n c0 (s 54)) (s 56))) (TB s (thereZ k l n c0 (s 54)) (homeZ k l n (thereZ k l n c0 (s 54)) (s 56)))) : vc_Tri_thereAndBack 52 c p2 n2 (I n) (I c0) s Q := by
  have a := hk.1
  have hlb := fun j hj => (hl j hj).2
  have hin := goZ_in hk hn (oat_in hlb false) false (c := c0) ⟨by omega, by omega⟩ (s 54)
  obtain ⟨rt, ert⟩ : ∃ r, r = thereZ k l n c0 (s 54) := ⟨_, rfl⟩
  have ert2 := ert
  unfold thereZ at ert2
  rw [← ert2] at hin
  rw [← ert] at hQ
  have e5 : (LG s 53 (rowR (s 53) rt) rt.2.2.2.2.2.2) 55 = s 55 := funext fun j => LG_ne (Or.inr (by decide))
  have e6 : (LG s 53 (rowR (s 53) rt) rt.2.2.2.2.2.2) 56 = s 56 := funext fun j => LG_ne (Or.inr (by decide))
  unfold vc_Tri_thereAndBack
  have hs : s = LG s 53 (s 53) (s 54) := (LG_self s 53).symm
  rw [hs]
  refine sp_passAll hk hr (by omega) (by omega) hn hn2 hn9 hl false ⟨by omega, by omega⟩ rfl ?_
  rw [← ert2]
  have e2 : (LG s 53 (rowR (s 53) rt) rt.2.2.2.2.2.2) 53 2 = I rt.2.2.1 := LG_p
  have e4 : (LG s 53 (rowR (s 53) rt) rt.2.2.2.2.2.2) 53 4 = I rt.2.2.2.2.1 := LG_p
  have hself : LG s 53 (rowR (s 53) rt) rt.2.2.2.2.2.2 = LG (LG s 53 (rowR (s 53) rt) rt.2.2.2.2.2.2) 55 (s 55) (s 56) := by
    have := LG_self (LG s 53 (rowR (s 53) rt) rt.2.2.2.2.2.2) 55
    rw [e5, e6] at this
    exact this.symm
  show ((LG s 53 (rowR (s 53) rt) rt.2.2.2.2.2.2 53 2 = -4 → _) ∧ (¬ LG s 53 (rowR (s 53) rt) rt.2.2.2.2.2.2 53 2 = -4 → _))
  rw [e2]
  constructor
  · intro z
    have z : rt.2.2.1 = -4 := by
      revert z
      simp (disch := (first | omega | (unfold inr; omega))) only [I_lit, I_nI, I_neg, I_add, I_sub, I_mul, I_div, I_le, I_lt, I_eq, I_clamp, I_clampN, I_vin]
      exact id
    have ehome : homeZ k l n rt (s 56) = goZ k (oat l n true) n true rt.2.2.2.2.1 (s 56) := by
      unfold homeZ
      rw [if_pos z]
    rw [ehome] at hQ
    have hin2 := goZ_in hk hn (oat_in hlb true) true (c := rt.2.2.2.2.1) ⟨by omega, by omega⟩ (s 56)
    show vc_Leg_passAll 55 c p2 n2 (I n) 1 (LG s 53 (rowR (s 53) rt) rt.2.2.2.2.2.2 53 4) _ _
    rw [e4]
    rw [hself]
    refine sp_passAll hk (RC_LG (by omega) hr) (by omega) (by omega) hn hn2 hn9 (fun j hj => ⟨(LG_ne (by omega)).trans (hl j hj).1, (hl j hj).2⟩) true ⟨by omega, by omega⟩ rfl ?_
    have e7 : LG (LG s 53 (rowR (s 53) rt) rt.2.2.2.2.2.2) 55 (rowR (s 55) (goZ k (oat l n true) n true rt.2.2.2.2.1 (s 56))) (goZ k (oat l n true) n true rt.2.2.2.2.1 (s 56)).2.2.2.2.2.2 55 2 = I (goZ k (oat l n true) n true rt.2.2.2.2.1 (s 56)).2.2.1 := LG_p
    show ((¬ LG (LG s 53 (rowR (s 53) rt) rt.2.2.2.2.2.2) 55 (rowR (s 55) (goZ k (oat l n true) n true rt.2.2.2.2.1 (s 56))) (goZ k (oat l n true) n true rt.2.2.2.2.1 (s 56)).2.2.2.2.2.2 55 2 = -4 → _) ∧ (LG (LG s 53 (rowR (s 53) rt) rt.2.2.2.2.2.2) 55 (rowR (s 55) (goZ k (oat l n true) n true rt.2.2.2.2.1 (s 56))) (goZ k (oat l n true) n true rt.2.2.2.2.1 (s 56)).2.2.2.2.2.2 55 2 = -4 → _))
    rw [e7]
    unfold okZ TB at hQ
    constructor
    · intro z2
      have z2 : ¬ (goZ k (oat l n true) n true rt.2.2.2.2.1 (s 56)).2.2.1 = -4 := by
        revert z2
        simp (disch := (first | omega | (unfold inr; omega))) only [I_lit, I_nI, I_neg, I_add, I_sub, I_mul, I_div, I_le, I_lt, I_eq, I_clamp, I_clampN, I_vin]
        exact id
      simpa [z, z2] using hQ
    · intro z2
      have z2 : (goZ k (oat l n true) n true rt.2.2.2.2.1 (s 56)).2.2.1 = -4 := by
        revert z2
        simp (disch := (first | omega | (unfold inr; omega))) only [I_lit, I_nI, I_neg, I_add, I_sub, I_mul, I_div, I_le, I_lt, I_eq, I_clamp, I_clampN, I_vin]
        exact id
      simpa [z, z2] using hQ
  · intro z
    have z : ¬ rt.2.2.1 = -4 := by
      revert z
      simp (disch := (first | omega | (unfold inr; omega))) only [I_lit, I_nI, I_neg, I_add, I_sub, I_mul, I_div, I_le, I_lt, I_eq, I_clamp, I_clampN, I_vin]
      exact id
    have ehome : homeZ k l n rt (s 56) = (0, 0, -4, -4, rt.2.2.2.2.1, 0, s 56) := by
      unfold homeZ
      rw [if_neg z]
    rw [ehome] at hQ
    show vc_Leg_begin 55 (LG s 53 (rowR (s 53) rt) rt.2.2.2.2.2.2 53 4) _ _
    rw [e4, hself]
    refine sp_begin ?_
    unfold okZ TB at hQ
    simp only [z, false_and, decide_false] at hQ
    exact hQ
-- one alone
def aloneR (k : Kv) (b : Nat) (back : Bool) (c : Int) (ts : Nat → Int32) : Gr := goZ k (oat (fun _ => b) 1 back) 1 back c ts
theorem alone_eq (k : Kv) (b : Nat) (back : Bool) (c : Int) (ts : Nat → Int32) : aloneR k b back c ts = if (wayZ k b back 0 c 0).1 = -4 then ((0 : Int32) ||| (1 <<< (I b &&& 31)), (1 : Int), (-4 : Int), (-4 : Int), (wayZ k b back 0 c 0).2.1, (wayZ k b back 0 c 0).2.2, upd ts 0 (I (wayZ k b back 0 c 0).2.1)) else ((0 : Int32), (0 : Int), (b : Int), (wayZ k b back 0 c 0).1, (wayZ k b back 0 c 0).2.1, (wayZ k b back 0 c 0).2.2, ts) := by
  have ho : oat (fun _ => b) 1 back 0 = b := by
    unfold oat
    split <;> rfl
  unfold aloneR goZ goF
  rw [ho]
  simp only [goF]
  rfl
def AL (s : St) (b : Nat) (p : Nat) (r : Gr) : St := LG (wr s 57 0 (I b)) p (rowR (s p) r) r.2.2.2.2.2.2
theorem sp_alone {s : St} {c : Nat} {k : Kv} (hk : CV k) (hr : RC s c k) (hc : c ≤ 35) {b : Nat} (hb : (b : Int) < k 9 1) (back : Bool) {bk : Int32} (hbk : bk = bi back)
    {Q : Nat → St → Prop} (hQ : Q (if back then 55 else 53) (AL s b (if back then 55 else 53) (aloneR k b back (k 9 2) (s (if back then 56 else 54))))) : vc_Tri_alone 52 c (I b) bk s Q := by
  have a := hk.1
  have a5 := hk.2.1
  unfold vc_Tri_alone
  refine ⟨(I_vin (a := 0) ⟨by decide, by decide⟩).mpr ⟨by decide, by decide⟩, ?_⟩
  intro s11 hs11
  rw [show Int32.toNatClampNeg 0 = 0 from rfl] at hs11
  have hr1 : RC s11 c k := RC_ext (fun q j hq => by rw [hs11]; exact wr_ne (by omega)) hr
  have ecl : s11 c 5 = I (k 9 2) := hr1.1.2.2.1
  rw [ecl]
  have h57 : ∀ j, j < 1 → s11 57 j = I ((fun _ => b : Nat → Nat) j : Int) ∧ (((fun _ => b : Nat → Nat) j : Nat) : Int) < k 9 1 := by
    intro j hj
    have : j = 0 := by omega
    subst this
    exact ⟨by rw [hs11]; exact wr_at, hb⟩
  have go : ∀ p, p = (if back then 55 else 53) → vc_Leg_passAll p c (52 + 5) 1 1 bk (I (k 9 2)) s11 (fun s14 => Q p s14) := by
    intro p hp
    have hp3 : p = 53 ∨ p = 55 := by
      rw [hp]
      split
      · exact Or.inr rfl
      · exact Or.inl rfl
    have hts : s11 (p + 1) = s (if back then 56 else 54) := by
      rw [hp, hs11]
      funext j
      cases back
      · exact wr_ne (by decide)
      · exact wr_ne (by decide)
    have hsp : s11 p = s p := by
      rw [hs11]
      funext j
      exact wr_ne (by omega)
    have hs : s11 = LG s11 p (s11 p) (s11 (p + 1)) := (LG_self s11 p).symm
    rw [hs]
    refine sp_passAll (n := 1) (l := fun _ => b) hk hr1 (by omega) (by omega) (by decide) (by decide) (by decide) h57 back ⟨by omega, by omega⟩ hbk ?_
    rw [hts, hsp]
    rw [← hp] at hQ
    unfold AL at hQ
    rw [← hs11] at hQ
    exact hQ
  refine ⟨fun p => p = (if back then 55 else 53), fun p _ hp => go p hp, fun z => ?_, fun z => ?_⟩
  · rw [hbk, bi_f] at z
    subst z
    rfl
  · rw [hbk, bi_f] at z
    have z : back = true := by simpa using z
    subst z
    rfl
