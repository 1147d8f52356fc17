def R_Text : String := "ChangeTracker$Text"
def F_Text : u_T := fun k => match k with
  | 0 => ("ChangeTracker$Text", "row", "[J", true)
  | _ => ("ChangeTracker$Text", "size", "I", false)
def t_Text : Nat → FieldType := fun k => match k with
  | 0 => .array (.long)
  | _ => .int
def R_Group : String := "ChangeTracker$Group"
def F_Group : u_T := fun k => match k with
  | 0 => ("ChangeTracker$Group", "otherSide", "LChangeTracker$Text;", false)
  | 1 => ("ChangeTracker$Group", "edits", "I", false)
  | _ => ("ChangeTracker$Group", "weight", "I", false)
def t_Group : Nat → FieldType := fun k => match k with
  | 0 => .object "ChangeTracker$Text"
  | 1 => .int
  | _ => .int
def R_Hist : String := "ChangeTracker$History"
def F_Hist : u_T := fun k => match k with
  | 0 => ("ChangeTracker$History", "groups", "[LChangeTracker$Group;", true)
  | 1 => ("ChangeTracker$History", "done", "I", false)
  | 2 => ("ChangeTracker$History", "undone", "I", false)
  | 3 => ("ChangeTracker$History", "isOpen", "Z", false)
  | _ => ("ChangeTracker$History", "isBegun", "Z", false)
def t_Hist : Nat → FieldType := fun k => match k with
  | 0 => .array (.object "ChangeTracker$Group")
  | 1 => .int
  | 2 => .int
  | 3 => .boolean
  | _ => .boolean
def R_CT : String := "ChangeTracker"
def F_CT : u_T := fun k => match k with
  | 0 => ("ChangeTracker", "history", "LChangeTracker$History;", true)
  | 1 => ("ChangeTracker", "marksFound", "[J", true)
  | 2 => ("ChangeTracker", "text", "LChangeTracker$Text;", false)
  | 3 => ("ChangeTracker", "draft", "LChangeTracker$Text;", false)
  | 4 => ("ChangeTracker", "worker", "I", false)
  | _ => ("ChangeTracker", "tracking", "Z", false)
def t_CT : Nat → FieldType := fun k => match k with
  | 0 => .object "ChangeTracker$History"
  | 1 => .array (.long)
  | 2 => .object "ChangeTracker$Text"
  | 3 => .object "ChangeTracker$Text"
  | 4 => .int
  | _ => .boolean
def R_Mo : String := "ChangeTrackerModel"
def F_Mo : u_T := fun k => match k with
  | 0 => ("ChangeTrackerModel", "code", "I", false)
  | 1 => ("ChangeTrackerModel", "author", "I", false)
  | 2 => ("ChangeTrackerModel", "tracking", "Z", false)
  | 3 => ("ChangeTrackerModel", "length", "I", false)
  | 4 => ("ChangeTrackerModel", "text", "[J", true)
  | 5 => ("ChangeTrackerModel", "wasLength", "I", false)
  | 6 => ("ChangeTrackerModel", "was", "[J", true)
  | 7 => ("ChangeTrackerModel", "baseLength", "I", false)
  | 8 => ("ChangeTrackerModel", "base", "[J", true)
  | 9 => ("ChangeTrackerModel", "done", "I", false)
  | 10 => ("ChangeTrackerModel", "commands", "[J", true)
  | 11 => ("ChangeTrackerModel", "codes", "[J", true)
  | 12 => ("ChangeTrackerModel", "groups", "I", false)
  | 13 => ("ChangeTrackerModel", "allGroups", "I", false)
  | 14 => ("ChangeTrackerModel", "groupEnd", "[I", true)
  | 15 => ("ChangeTrackerModel", "groupEdits", "[I", true)
  | 16 => ("ChangeTrackerModel", "groupWeight", "[I", true)
  | 17 => ("ChangeTrackerModel", "open", "Z", false)
  | 18 => ("ChangeTrackerModel", "openEdits", "I", false)
  | _ => ("ChangeTrackerModel", "openWeight", "I", false)
def t_Mo : Nat → FieldType := fun k => match k with
  | 0 => .int
  | 1 => .int
  | 2 => .boolean
  | 3 => .int
  | 4 => .array (.long)
  | 5 => .int
  | 6 => .array (.long)
  | 7 => .int
  | 8 => .array (.long)
  | 9 => .int
  | 10 => .array (.long)
  | 11 => .array (.long)
  | 12 => .int
  | 13 => .int
  | 14 => .array (.int)
  | 15 => .array (.int)
  | 16 => .array (.int)
  | 17 => .boolean
  | 18 => .int
  | _ => .int
abbrev zq_cl : List vw_C := [(R_Text, F_Text, 2), (R_Group, F_Group, 3), (R_Hist, F_Hist, 5), (R_CT, F_CT, 6), (R_Mo, F_Mo, 20)]
abbrev zq_ty (f : Nat → ClassId) : List (ClassId × FieldType) := [(f 0, .long), (f 1, .object "ChangeTracker$Group"), (f 2, .int)]
def zq_xn (k : Nat) : String := match k with
  | 0 => "java/lang/IndexOutOfBoundsException"
  | 1 => "java/lang/IllegalArgumentException"
  | _ => "java/lang/IllegalStateException"
abbrev zq_nc : List (String × String) := [(zq_xn 0, zq_xn 1), (zq_xn 0, zq_xn 2), (zq_xn 1, zq_xn 0), (zq_xn 1, zq_xn 2), (zq_xn 2, zq_xn 0), (zq_xn 2, zq_xn 1)]
/-- words that stay true while the tables grow warmer, whatever becomes of the heap -/
def zq_gw (w : Cond) : Bool := match w with
  | .methodLinkNest _ _ _ _ => true
  | .stringRef _ _ _ => true
  | .castable _ _ => true
  | .declares _ => true
  | .arrayOver (.object _) => true
  | w => goodWord w
def zq_T : List Cond := lw_tbl.filter zq_gw
theorem zq_in {w : Cond} (h : w ∈ lw_tbl) (g : zq_gw w = true) : w ∈ zq_T := List.mem_filter.mpr ⟨h, g⟩
theorem zq_warm {s U : State} (w : Cond) (hw : w ∈ zq_T) (hW : s.WarmedH U.vm) (h : ∀ a : Array Value, w.before a s = true) : ∀ a : Array Value, w.before a U = true := by
  have hg := (List.mem_filter.mp hw).2
  unfold zq_gw at hg
  split at hg
  · exact fun a => va_Nw.use rfl (va_Nw.warmM hW (h #[]))
  · intro a
    have h1 := Cond.stringRef_warmed hW (h a)
    exact h1
  · exact fun a => va_tabs rfl (rfl : (s.setVm U.vm).vm = U.vm) (Cond.before_shiftedFace (State.Shifted.of_warmed hW) _ rfl (h #[]))
  · exact fun a => va_tabs rfl (rfl : (s.setVm U.vm).vm = U.vm) (Cond.before_shiftedFace (State.Shifted.of_warmed hW) _ rfl (h #[]))
  · exact fun a => va_AO.use (va_AO.moved hW.alike (va_AO.of (h #[])))
  · exact fun a => word_at hW (good_of_word hg) (h a)
theorem u_Text_in : ∀ w ∈ u_ws R_Text F_Text 2, w ∈ zq_T := by
  intro w hw
  obtain ⟨k, hk, rfl⟩ := List.mem_map.mp hw
  have hk : k < 2 := List.mem_range.mp hk
  have hk : k = 0 ∨ k = 1 := by omega
  rcases hk with rfl | rfl
  · exact zq_in (List.mem_of_getElem? (i := 97) (by decide +kernel)) (by decide +kernel)
  · exact zq_in (List.mem_of_getElem? (i := 99) (by decide +kernel)) (by decide +kernel)
theorem t_Text_ok : ∀ k, k < 2 → parseFieldDescriptor (F_Text k).2.2.1 = some (t_Text k) := by decide +kernel
theorem n_Text_ok : ∀ a, a < 2 → ∀ b, b < 2 → a ≠ b → (F_Text a).2.1 ≠ (F_Text b).2.1 := by decide +kernel
theorem u_Group_in : ∀ w ∈ u_ws R_Group F_Group 3, w ∈ zq_T := by
  intro w hw
  obtain ⟨k, hk, rfl⟩ := List.mem_map.mp hw
  have hk : k < 3 := List.mem_range.mp hk
  have hk : k = 0 ∨ k = 1 ∨ k = 2 := by omega
  rcases hk with rfl | rfl | rfl
  · exact zq_in (List.mem_of_getElem? (i := 375) (by decide +kernel)) (by decide +kernel)
  · exact zq_in (List.mem_of_getElem? (i := 377) (by decide +kernel)) (by decide +kernel)
  · exact zq_in (List.mem_of_getElem? (i := 379) (by decide +kernel)) (by decide +kernel)
theorem t_Group_ok : ∀ k, k < 3 → parseFieldDescriptor (F_Group k).2.2.1 = some (t_Group k) := by decide +kernel
theorem n_Group_ok : ∀ a, a < 3 → ∀ b, b < 3 → a ≠ b → (F_Group a).2.1 ≠ (F_Group b).2.1 := by decide +kernel
theorem u_Hist_in : ∀ w ∈ u_ws R_Hist F_Hist 5, w ∈ zq_T := by
  intro w hw
  obtain ⟨k, hk, rfl⟩ := List.mem_map.mp hw
  have hk : k < 5 := List.mem_range.mp hk
  have hk : k = 0 ∨ k = 1 ∨ k = 2 ∨ k = 3 ∨ k = 4 := by omega
  rcases hk with rfl | rfl | rfl | rfl | rfl
  · exact zq_in (List.mem_of_getElem? (i := 76) (by decide +kernel)) (by decide +kernel)
  · exact zq_in (List.mem_of_getElem? (i := 78) (by decide +kernel)) (by decide +kernel)
  · exact zq_in (List.mem_of_getElem? (i := 80) (by decide +kernel)) (by decide +kernel)
  · exact zq_in (List.mem_of_getElem? (i := 82) (by decide +kernel)) (by decide +kernel)
  · exact zq_in (List.mem_of_getElem? (i := 84) (by decide +kernel)) (by decide +kernel)
theorem t_Hist_ok : ∀ k, k < 5 → parseFieldDescriptor (F_Hist k).2.2.1 = some (t_Hist k) := by decide +kernel
theorem n_Hist_ok : ∀ a, a < 5 → ∀ b, b < 5 → a ≠ b → (F_Hist a).2.1 ≠ (F_Hist b).2.1 := by decide +kernel
theorem u_CT_in : ∀ w ∈ u_ws R_CT F_CT 6, w ∈ zq_T := by
  intro w hw
  obtain ⟨k, hk, rfl⟩ := List.mem_map.mp hw
  have hk : k < 6 := List.mem_range.mp hk
  have hk : k = 0 ∨ k = 1 ∨ k = 2 ∨ k = 3 ∨ k = 4 ∨ k = 5 := by omega
  rcases hk with rfl | rfl | rfl | rfl | rfl | rfl
  · exact zq_in (List.mem_of_getElem? (i := 109) (by decide +kernel)) (by decide +kernel)
  · exact zq_in (List.mem_of_getElem? (i := 111) (by decide +kernel)) (by decide +kernel)
  · exact zq_in (List.mem_of_getElem? (i := 113) (by decide +kernel)) (by decide +kernel)
  · exact zq_in (List.mem_of_getElem? (i := 115) (by decide +kernel)) (by decide +kernel)
  · exact zq_in (List.mem_of_getElem? (i := 117) (by decide +kernel)) (by decide +kernel)
  · exact zq_in (List.mem_of_getElem? (i := 119) (by decide +kernel)) (by decide +kernel)
theorem t_CT_ok : ∀ k, k < 6 → parseFieldDescriptor (F_CT k).2.2.1 = some (t_CT k) := by decide +kernel
theorem n_CT_ok : ∀ a, a < 6 → ∀ b, b < 6 → a ≠ b → (F_CT a).2.1 ≠ (F_CT b).2.1 := by decide +kernel
theorem u_Mo_in : ∀ w ∈ u_ws R_Mo F_Mo 20, w ∈ zq_T := by
  intro w hw
  obtain ⟨k, hk, rfl⟩ := List.mem_map.mp hw
  have hk : k < 20 := List.mem_range.mp hk
  have hk : k = 0 ∨ k = 1 ∨ k = 2 ∨ k = 3 ∨ k = 4 ∨ k = 5 ∨ k = 6 ∨ k = 7 ∨ k = 8 ∨ k = 9 ∨ k = 10 ∨ k = 11 ∨ k = 12 ∨ k = 13 ∨ k = 14 ∨ k = 15 ∨ k = 16 ∨ k = 17 ∨ k = 18 ∨ k = 19 := by omega
  rcases hk with rfl | rfl | rfl | rfl | rfl | rfl | rfl | rfl | rfl | rfl | rfl | rfl | rfl | rfl | rfl | rfl | rfl | rfl | rfl | rfl
  · exact zq_in (List.mem_of_getElem? (i := 575) (by decide +kernel)) (by decide +kernel)
  · exact zq_in (List.mem_of_getElem? (i := 577) (by decide +kernel)) (by decide +kernel)
  · exact zq_in (List.mem_of_getElem? (i := 579) (by decide +kernel)) (by decide +kernel)
  · exact zq_in (List.mem_of_getElem? (i := 581) (by decide +kernel)) (by decide +kernel)
  · exact zq_in (List.mem_of_getElem? (i := 583) (by decide +kernel)) (by decide +kernel)
  · exact zq_in (List.mem_of_getElem? (i := 585) (by decide +kernel)) (by decide +kernel)
  · exact zq_in (List.mem_of_getElem? (i := 587) (by decide +kernel)) (by decide +kernel)
  · exact zq_in (List.mem_of_getElem? (i := 589) (by decide +kernel)) (by decide +kernel)
  · exact zq_in (List.mem_of_getElem? (i := 591) (by decide +kernel)) (by decide +kernel)
  · exact zq_in (List.mem_of_getElem? (i := 593) (by decide +kernel)) (by decide +kernel)
  · exact zq_in (List.mem_of_getElem? (i := 595) (by decide +kernel)) (by decide +kernel)
  · exact zq_in (List.mem_of_getElem? (i := 597) (by decide +kernel)) (by decide +kernel)
  · exact zq_in (List.mem_of_getElem? (i := 599) (by decide +kernel)) (by decide +kernel)
  · exact zq_in (List.mem_of_getElem? (i := 601) (by decide +kernel)) (by decide +kernel)
  · exact zq_in (List.mem_of_getElem? (i := 603) (by decide +kernel)) (by decide +kernel)
  · exact zq_in (List.mem_of_getElem? (i := 605) (by decide +kernel)) (by decide +kernel)
  · exact zq_in (List.mem_of_getElem? (i := 607) (by decide +kernel)) (by decide +kernel)
  · exact zq_in (List.mem_of_getElem? (i := 609) (by decide +kernel)) (by decide +kernel)
  · exact zq_in (List.mem_of_getElem? (i := 611) (by decide +kernel)) (by decide +kernel)
  · exact zq_in (List.mem_of_getElem? (i := 613) (by decide +kernel)) (by decide +kernel)
theorem t_Mo_ok : ∀ k, k < 20 → parseFieldDescriptor (F_Mo k).2.2.1 = some (t_Mo k) := by decide +kernel
theorem n_Mo_ok : ∀ a, a < 20 → ∀ b, b < 20 → a ≠ b → (F_Mo a).2.1 ≠ (F_Mo b).2.1 := by decide +kernel
