/-! THE START: what the constructors leave -/
def kB : List Nat := [1, 2, 3, 112, 112, 112, 112, 112, 112, 112, 112, 4, 106, 106, 106, 106, 106, 106, 2, 3, 112, 112, 112, 112, 112, 112, 112, 112, 4, 106, 106, 106, 106, 106, 106, 2, 3, 112, 112, 112, 112, 112, 112, 112, 112, 4, 106, 106, 106, 106, 106, 106, 5, 6, 106, 6, 106, 101, 7, 106, 106, 8, 106, 106, 106, 11, 9, 200, 9, 200, 9, 200, 9, 200, 9, 200, 9, 200, 9, 200, 9, 200]
def kM : List Nat := [10, 178, 178, 178, 106, 106, 104, 106, 106, 106, 108, 108, 108, 108, 108, 900]
def s0 : St := fun p k => if p < 82 then z_Brt p k else z_Mod (p - 82) k
def k00 : Kv := fun r i => if r = 9 then (if i = 3 then 1 else if i = 4 then 15 else if i = 5 then 120 else 0) else 0
def A0 : Ab := (k00, k00, false, fun _ _ => 0, fun _ _ => 0)
theorem k00_9 (i : Nat) : k00 9 i = if i = 3 then 1 else if i = 4 then 15 else if i = 5 then 120 else 0 := rfl
theorem CC_00 : CC k00 := by
  have z0 : k00 9 0 = 0 := rfl
  have z1 : k00 9 1 = 0 := rfl
  refine ⟨⟨by decide, by decide, fun y h => ?_, fun y h => ?_⟩, by decide, fun y h => ?_, fun y j h => ?_, fun y h => ?_⟩
  all_goals first | (rw [z0] at h; omega) | (rw [z1] at h; omega)
theorem RR_0 : RR s0 A0 := by
  have z0 : k00 9 0 = 0 := rfl
  have z1 : k00 9 1 = 0 := rfl
  refine ⟨⟨⟨by decide, fun y h => ?_, fun y h => ?_⟩, by decide, fun h => absurd h (by decide), fun d hd => ?_, Or.inl (by decide)⟩, ⟨⟨fun i hi => ?_, fun y h => ?_, fun y h => ?_⟩, by decide, fun h => absurd h (by decide), fun d hd => ?_⟩, CC_00, fun h => absurd h (by decide), fun d hd => ⟨Or.inl rfl, fun h => absurd (show (0 : Int) = 1 from h) (by decide), fun h => absurd (show (0 : Int) = 2 from h) (by decide)⟩⟩
  · exact absurd (show (y : Int) < 0 from h) (by omega)
  · exact absurd (show (y : Int) < 0 from h) (by omega)
  · refine ⟨?_, fun h => absurd (show (0 : Int) = 1 from h) (by decide), fun h => absurd (show (0 : Int) = 2 from h) (by decide)⟩
    rcases (show d = 0 ∨ d = 1 ∨ d = 2 ∨ d = 3 ∨ d = 4 ∨ d = 5 ∨ d = 6 ∨ d = 7 by omega) with rfl | rfl | rfl | rfl | rfl | rfl | rfl | rfl <;> decide
  · rcases (show i = 0 ∨ i = 1 ∨ i = 2 ∨ i = 3 ∨ i = 4 ∨ i = 5 by omega) with rfl | rfl | rfl | rfl | rfl | rfl <;> decide
  · exact absurd (show (y : Int) < 0 from h) (by omega)
  · exact absurd (show (y : Int) < 0 from h) (by omega)
  · refine ⟨?_, fun h => absurd (show (0 : Int) = 1 from h) (by decide), fun h => absurd (show (0 : Int) = 2 from h) (by decide)⟩
    rcases (show d = 0 ∨ d = 1 ∨ d = 2 ∨ d = 3 ∨ d = 4 ∨ d = 5 ∨ d = 6 ∨ d = 7 by omega) with rfl | rfl | rfl | rfl | rfl | rfl | rfl | rfl <;> decide
def ad (a u : Nat → Nat) : Nat → Nat := fun p => if p < 82 then a p else u (p - 82)
set_option maxRecDepth 100000 in
set_option maxHeartbeats 4000000 in
/-- the two new objects' cells are the world of places -/
theorem wl_0 (a u : Nat → Nat) (cI cS cM : ClassId) : (sg cI cS a z_Brt 0 kB ++ sg cI cM u z_Mod 0 kM).set 65 (a 65, .inl (cS, 8, .inr (.inr (.inr (.inr (fun i => some (ad a u (65 + 1 + 2 * i)))))))) = wl (ad a u) cI cS s0 := by
  rw [wl_sg]
  rfl
theorem wl_at (a u : Nat → Nat) (cI cS cM : ClassId) : (sg cI cS a z_Brt 0 kB ++ sg cI cM u z_Mod 0 kM)[65]? = some (a 65, .inl (cS, 8, .inr (.inr (.inr (.inr (fun i => some (a (65 + 1 + 2 * i)))))))) := by
  rw [List.getElem?_append_left (by rw [show (sg cI cS a z_Brt 0 kB).length = 82 from rfl]; decide), sg_at]
  rfl
theorem wl_00 {D : va_G} {cl : List vw_C} {A : Nat → Prop} {H : Heap} {a u : Nat → Nat} {cI cS cM : ClassId} (hP : va_P D cl (sg cI cS a z_Brt 0 kB ++ sg cI cM u z_Mod 0 kM) H) (hD : va_D A (sg cI cS a z_Brt 0 kB ++ sg cI cM u z_Mod 0 kM)) : va_P D cl (wl (ad a u) cI cS s0) H ∧ va_D A (wl (ad a u) cI cS s0) := by
  rw [← wl_0 a u cI cS cM]
  exact ⟨va_rp hP (wl_at a u cI cS cM) (fun j hj => by rw [ad, if_pos (by omega)]), va_D.set hD (wl_at a u cI cS cM)⟩
