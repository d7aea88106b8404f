section XG
variable {X : Xx} {cc : ByteArray} {own : String} {nL : Nat} {ret : Option FieldType} {rm : Room} {Q : State → Prop} {kc ks : Nat} {s : St} {pc : Nat} {L : List (Option Value)} {st : List Value} {p : Nat}
theorem x_ldcw (C : Cok X cc own nL ret rm) {i : Nat} {v : Int32} (d : decode cc pc = .ok (.ldc_w i, 3)) (hc : Cond.constant own i v ∈ tbl) (k : V X Q kc ks s (pc + 3) L (.int v :: st)) : V X Q kc ks s pc L st := fun H locs ls hP hS hl => lv_ldcw C.1 C.2.1 C.2.2.2.1 (C.2.2.2.2.1 _ hc) d (k H locs ls hP hS hl)
theorem x_lcmp (C : Cok X cc own nL ret rm) {x y : Int64} (d : decode cc pc = .ok (.lcmp, 1)) (k : V X Q kc ks s (pc + 1) L (.int (lg_cmp x y) :: st)) : V X Q kc ks s pc L (.long y :: .long x :: st) := fun H locs ls hP hS hl => W.lcmp C.1 C.2.1 d (k H locs ls hP hS hl)
theorem x_wk {L' : List (Option Value)} (k : V X Q kc ks s pc L' st) (h : lsub L L') : V X Q kc ks s pc L st := x_sub h k
theorem x_st (k : ∀ s' : St, s' = s → V X Q kc ks s' pc L st) : V X Q kc ks s pc L st := k s rfl
/-- System.arraycopy may be done -/
def cpok (sp dp n : Int32) (n0 n1 : Nat) : Prop := ¬ sp < 0 ∧ ¬ dp < 0 ∧ ¬ n < 0 ∧ sp.toNatClampNeg + n.toNatClampNeg ≤ n0 ∧ dp.toNatClampNeg + n.toNatClampNeg ≤ n1
theorem gw_cpy {g : Gx} {s : St} {d e n a b c : Nat} (h : kd e = 100 + n) : (gw g s).set e (ga g e, .inl (gI g, n, .inl (va_cpy (s d) (s e) a b c))) = gw g (wcp s d e a b c) :=
  wl_set (kd_lt (by omega)) (fun q i hq => by simp [wcp, hq]) (by rw [cellE_arr h]; congr; funext j; simp [wcp])
theorem cp_nat : Cond.native arraycopyName ∈ tbl ∧ Cond.static arraycopyName ∈ tbl ∧ Cond.initialized "java/lang/System" ∈ tbl := ⟨tbl_at 425 (by decide +kernel) rfl, tbl_at 424 (by decide +kernel) rfl, tbl_at 59 (by decide +kernel) rfl⟩
theorem x_copy (C : Cok X cc own nL ret rm) {d e n0 n1 i : Nat} {sp dp n : Int32} (hd : kd d = 100 + n0) (he : kd e = 100 + n1) (ho : cpok sp dp n n0 n1) (hl : Cond.methodLink own i arraycopyName ∈ tbl) (hfr : 1 ≤ rm.frames) (hlo : (st.map fun v => v.category).sum + 18 ≤ rm.locals) (dc : decode cc pc = .ok (.invokestatic i, 3)) (k : V X Q kc ks (wcp s d e sp.toNatClampNeg dp.toNatClampNeg n.toNatClampNeg) (pc + 3) L st) : V X Q kc ks s pc L (.int n :: .int dp :: .ref (xa X e) :: .int sp :: .ref (xa X d) :: st) := fun H locs ls hP hS hh => by
  have hts := C.2.2.2.2.1
  have hRm := C.2.2.2.2.2.2.2.1
  exact va_copyi C.1 C.2.1 (C.2.2.1.trans (hh.1.trans C.2.2.2.2.2.2.2.2.2.2.1).symm) C.2.2.2.1 (hts _ hl) (hts _ cp_nat.1) (hts _ cp_nat.2.1) (hts _ cp_nat.2.2) C.2.2.2.2.2.1 hP (C.2.2.2.2.2.2.1 s) hS d e 0 0 (ty := .int) (gw_arr hd) (gw_arr he) rfl rfl rfl ho.1 ho.2.1 ho.2.2.1 ho.2.2.2.1 ho.2.2.2.2 (fun _ _ => rfl) (by rw [hRm]; exact hfr) (by rw [hRm]; exact hlo) dc (fun H1 locs1 hP1 hD1 hS1 => k H1 locs1 ls (by rw [← gw_cpy he]; exact hP1) hS1 hh)
def imax (x y : Int32) : Int32 := if x < y then y else x
def imin (x y : Int32) : Int32 := if y < x then y else x
theorem mx_w : Cond.static Lib.Math.max.name ∈ tbl ∧ Cond.initialized "java/lang/Math" ∈ tbl ∧ Cond.code Lib.Math.max.name Lib.Math.max.code 2 (some .int) ∈ tbl := ⟨tbl_at 449 (by decide +kernel) rfl, tbl_at 61 (by decide +kernel) rfl, tbl_at 450 (by decide +kernel) rfl⟩
theorem mn_w : Cond.static Lib.Math.min.name ∈ tbl ∧ Cond.initialized "java/lang/Math" ∈ tbl ∧ Cond.code Lib.Math.min.name Lib.Math.min.code 2 (some .int) ∈ tbl := ⟨tbl_at 711 (by decide +kernel) rfl, tbl_at 61 (by decide +kernel) rfl, tbl_at 712 (by decide +kernel) rfl⟩
theorem x_mmax (C : Cok X cc own nL ret rm) {i : Nat} {x y : Int32} (hl : Cond.methodLink own i Lib.Math.max.name ∈ tbl) (hfr : 1 ≤ rm.frames) (hlo : (st.map fun v => v.category).sum + 13 ≤ rm.locals) (hcs : kc ≤ rm.cells ∧ ks ≤ rm.slots) (d : decode cc pc = .ok (.invokestatic i, 3)) (k : V X Q kc ks s (pc + 3) L (.int (imax x y) :: st)) : V X Q kc ks s pc L (.int y :: .int x :: st) := fun H locs ls hP hS hh => by
  have hts := C.2.2.2.2.1
  have hRm := C.2.2.2.2.2.2.2.1
  exact va_mmax C.1 C.2.1 (C.2.2.1.trans (hh.1.trans C.2.2.2.2.2.2.2.2.2.2.1).symm) C.2.2.2.1 (hts _ hl) (hts _ mx_w.1) (hts _ mx_w.2.1) (hts _ mx_w.2.2) (by rw [hRm]; exact hfr) (by rw [hRm]; exact hlo) (by rw [hRm]; exact hcs.1) (by rw [hRm]; exact hcs.2) d (k H locs ls hP hS hh)
theorem x_mmin (C : Cok X cc own nL ret rm) {i : Nat} {x y : Int32} (hl : Cond.methodLink own i Lib.Math.min.name ∈ tbl) (hfr : 1 ≤ rm.frames) (hlo : (st.map fun v => v.category).sum + 13 ≤ rm.locals) (hcs : kc ≤ rm.cells ∧ ks ≤ rm.slots) (d : decode cc pc = .ok (.invokestatic i, 3)) (k : V X Q kc ks s (pc + 3) L (.int (imin x y) :: st)) : V X Q kc ks s pc L (.int y :: .int x :: st) := fun H locs ls hP hS hh => by
  have hts := C.2.2.2.2.1
  have hRm := C.2.2.2.2.2.2.2.1
  exact va_mmin C.1 C.2.1 (C.2.2.1.trans (hh.1.trans C.2.2.2.2.2.2.2.2.2.2.1).symm) C.2.2.2.1 (hts _ hl) (hts _ mn_w.1) (hts _ mn_w.2.1) (hts _ mn_w.2.2) (by rw [hRm]; exact hfr) (by rw [hRm]; exact hlo) (by rw [hRm]; exact hcs.1) (by rw [hRm]; exact hcs.2) d (k H locs ls hP hS hh)
end XG
theorem kd_big {p : Nat} (h : 98 ≤ p) : kd p = 0 := by
  unfold kd
  rw [List.getD_eq_getElem?_getD, List.getElem?_eq_none (by simpa [kdl] using h)]
  rfl
theorem kd_chk {a b o : Nat} (h0 : a ≠ 0) (h : ∀ p, p < 98 → kd p = a → kd (p + o) = b) {p : Nat} (hp : kd p = a) : kd (p + o) = b := by
  rcases Nat.lt_or_ge p 98 with q | q
  · exact h p q hp
  · exact absurd ((kd_big q).symm.trans hp) (fun z => h0 z.symm)

theorem ks_7_1 {p : Nat} (h : kd p = 7) : kd (p + 1) = 106 := kd_chk (by decide) (by decide +kernel) h
theorem ks_7_2 {p : Nat} (h : kd p = 7) : kd (p + 2) = 106 := kd_chk (by decide) (by decide +kernel) h
theorem ks_4_1 {p : Nat} (h : kd p = 4) : kd (p + 1) = 106 := kd_chk (by decide) (by decide +kernel) h
theorem ks_4_2 {p : Nat} (h : kd p = 4) : kd (p + 2) = 106 := kd_chk (by decide) (by decide +kernel) h
theorem ks_4_3 {p : Nat} (h : kd p = 4) : kd (p + 3) = 106 := kd_chk (by decide) (by decide +kernel) h
theorem ks_4_4 {p : Nat} (h : kd p = 4) : kd (p + 4) = 106 := kd_chk (by decide) (by decide +kernel) h
theorem ks_4_5 {p : Nat} (h : kd p = 4) : kd (p + 5) = 106 := kd_chk (by decide) (by decide +kernel) h
theorem ks_4_6 {p : Nat} (h : kd p = 4) : kd (p + 6) = 106 := kd_chk (by decide) (by decide +kernel) h
theorem ks_2_1 {p : Nat} (h : kd p = 2) : kd (p + 1) = 3 := kd_chk (by decide) (by decide +kernel) h
theorem ks_2_10 {p : Nat} (h : kd p = 2) : kd (p + 10) = 4 := kd_chk (by decide) (by decide +kernel) h
theorem ks_6_1 {p : Nat} (h : kd p = 6) : kd (p + 1) = 106 := kd_chk (by decide) (by decide +kernel) h
theorem ks_8_1 {p : Nat} (h : kd p = 8) : kd (p + 1) = 106 := kd_chk (by decide) (by decide +kernel) h
theorem ks_8_2 {p : Nat} (h : kd p = 8) : kd (p + 2) = 106 := kd_chk (by decide) (by decide +kernel) h
theorem ks_9_1 {p : Nat} (h : kd p = 9) : kd (p + 1) = 200 := kd_chk (by decide) (by decide +kernel) h
theorem ks_5_1 {p : Nat} (h : kd p = 5) : kd (p + 1) = 6 := kd_chk (by decide) (by decide +kernel) h
theorem ks_5_3 {p : Nat} (h : kd p = 5) : kd (p + 3) = 6 := kd_chk (by decide) (by decide +kernel) h
theorem ks_5_5 {p : Nat} (h : kd p = 5) : kd (p + 5) = 101 := kd_chk (by decide) (by decide +kernel) h
theorem ks_3_1 {p : Nat} (h : kd p = 3) : kd (p + 1) = 112 := kd_chk (by decide) (by decide +kernel) h
theorem ks_3_2 {p : Nat} (h : kd p = 3) : kd (p + 2) = 112 := kd_chk (by decide) (by decide +kernel) h
theorem ks_3_3 {p : Nat} (h : kd p = 3) : kd (p + 3) = 112 := kd_chk (by decide) (by decide +kernel) h
theorem ks_3_4 {p : Nat} (h : kd p = 3) : kd (p + 4) = 112 := kd_chk (by decide) (by decide +kernel) h
theorem ks_3_5 {p : Nat} (h : kd p = 3) : kd (p + 5) = 112 := kd_chk (by decide) (by decide +kernel) h
theorem ks_3_6 {p : Nat} (h : kd p = 3) : kd (p + 6) = 112 := kd_chk (by decide) (by decide +kernel) h
theorem ks_3_7 {p : Nat} (h : kd p = 3) : kd (p + 7) = 112 := kd_chk (by decide) (by decide +kernel) h
theorem ks_3_8 {p : Nat} (h : kd p = 3) : kd (p + 8) = 112 := kd_chk (by decide) (by decide +kernel) h
theorem ks_1_1 {p : Nat} (h : kd p = 1) : kd (p + 1) = 2 := kd_chk (by decide) (by decide +kernel) h
theorem ks_1_18 {p : Nat} (h : kd p = 1) : kd (p + 18) = 2 := kd_chk (by decide) (by decide +kernel) h
theorem ks_1_35 {p : Nat} (h : kd p = 1) : kd (p + 35) = 2 := kd_chk (by decide) (by decide +kernel) h
theorem ks_1_52 {p : Nat} (h : kd p = 1) : kd (p + 52) = 5 := kd_chk (by decide) (by decide +kernel) h
theorem ks_1_58 {p : Nat} (h : kd p = 1) : kd (p + 58) = 7 := kd_chk (by decide) (by decide +kernel) h
theorem ks_1_61 {p : Nat} (h : kd p = 1) : kd (p + 61) = 8 := kd_chk (by decide) (by decide +kernel) h
theorem ks_1_64 {p : Nat} (h : kd p = 1) : kd (p + 64) = 106 := kd_chk (by decide) (by decide +kernel) h
theorem ks_1_65 {p : Nat} (h : kd p = 1) : kd (p + 65) = 11 := kd_chk (by decide) (by decide +kernel) h
theorem ks_10_1 {p : Nat} (h : kd p = 10) : kd (p + 1) = 178 := kd_chk (by decide) (by decide +kernel) h
theorem ks_10_2 {p : Nat} (h : kd p = 10) : kd (p + 2) = 178 := kd_chk (by decide) (by decide +kernel) h
theorem ks_10_3 {p : Nat} (h : kd p = 10) : kd (p + 3) = 178 := kd_chk (by decide) (by decide +kernel) h
theorem ks_10_4 {p : Nat} (h : kd p = 10) : kd (p + 4) = 106 := kd_chk (by decide) (by decide +kernel) h
theorem ks_10_5 {p : Nat} (h : kd p = 10) : kd (p + 5) = 106 := kd_chk (by decide) (by decide +kernel) h
theorem ks_10_6 {p : Nat} (h : kd p = 10) : kd (p + 6) = 104 := kd_chk (by decide) (by decide +kernel) h
theorem ks_10_7 {p : Nat} (h : kd p = 10) : kd (p + 7) = 106 := kd_chk (by decide) (by decide +kernel) h
theorem ks_10_8 {p : Nat} (h : kd p = 10) : kd (p + 8) = 106 := kd_chk (by decide) (by decide +kernel) h
theorem ks_10_9 {p : Nat} (h : kd p = 10) : kd (p + 9) = 106 := kd_chk (by decide) (by decide +kernel) h
theorem ks_10_10 {p : Nat} (h : kd p = 10) : kd (p + 10) = 108 := kd_chk (by decide) (by decide +kernel) h
theorem ks_10_11 {p : Nat} (h : kd p = 10) : kd (p + 11) = 108 := kd_chk (by decide) (by decide +kernel) h
theorem ks_10_12 {p : Nat} (h : kd p = 10) : kd (p + 12) = 108 := kd_chk (by decide) (by decide +kernel) h
theorem ks_10_13 {p : Nat} (h : kd p = 10) : kd (p + 13) = 108 := kd_chk (by decide) (by decide +kernel) h
theorem ks_10_14 {p : Nat} (h : kd p = 10) : kd (p + 14) = 108 := kd_chk (by decide) (by decide +kernel) h
theorem ks_10_15 {p : Nat} (h : kd p = 10) : kd (p + 15) = 900 := kd_chk (by decide) (by decide +kernel) h
