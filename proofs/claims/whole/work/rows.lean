section
-- ===== PART A: goes FIRST, ahead of the names: the tables' words, and 'selects' of the private methods out of them =====
/-- a private method of a class that the tables say can be made, by its rows of tables_1 -/
def lw_okq (q : MethodName × Nat) : Prop := (q.1.cls ≠ "java/lang/invoke/MethodHandle" ∧ q.1.cls ≠ "java/lang/invoke/VarHandle") ∧ Cond.instantiable q.1.cls q.2 ∈ tables_1 ∧ Cond.privateMethod q.1 ∈ tables_1 ∧ Cond.instanceMethod q.1 ∈ tables_1
theorem lw_p0 : lw_okq (⟨"ChangeTracker", "countRuns", "()I"⟩, 6) := ⟨⟨by decide +kernel, by decide +kernel⟩, List.mem_of_getElem? (i := 16) (by decide +kernel), List.mem_of_getElem? (i := 112) (by decide +kernel), List.mem_of_getElem? (i := 113) (by decide +kernel)⟩
theorem lw_p1 : lw_okq (⟨"ChangeTracker", "countDifferentMarks", "()I"⟩, 6) := ⟨⟨by decide +kernel, by decide +kernel⟩, List.mem_of_getElem? (i := 16) (by decide +kernel), List.mem_of_getElem? (i := 119) (by decide +kernel), List.mem_of_getElem? (i := 120) (by decide +kernel)⟩
theorem lw_p2 : lw_okq (⟨"ChangeTracker", "isFound", "(JI)Z"⟩, 6) := ⟨⟨by decide +kernel, by decide +kernel⟩, List.mem_of_getElem? (i := 16) (by decide +kernel), List.mem_of_getElem? (i := 123) (by decide +kernel), List.mem_of_getElem? (i := 124) (by decide +kernel)⟩
theorem lw_p3 : lw_okq (⟨"ChangeTracker$History", "weightBetween", "(II)I"⟩, 5) := ⟨⟨by decide +kernel, by decide +kernel⟩, List.mem_of_getElem? (i := 24) (by decide +kernel), List.mem_of_getElem? (i := 131) (by decide +kernel), List.mem_of_getElem? (i := 132) (by decide +kernel)⟩
theorem lw_p4 : lw_okq (⟨"java/lang/Throwable", "fillInStackTrace", "(I)Ljava/lang/Throwable;"⟩, 6) := ⟨⟨by decide +kernel, by decide +kernel⟩, List.mem_of_getElem? (i := 188) (by decide +kernel), List.mem_of_getElem? (i := 186) (by decide +kernel), List.mem_of_getElem? (i := 187) (by decide +kernel)⟩
theorem lw_p5 : lw_okq (⟨"ChangeTracker", "requireRange", "(II)V"⟩, 6) := ⟨⟨by decide +kernel, by decide +kernel⟩, List.mem_of_getElem? (i := 16) (by decide +kernel), List.mem_of_getElem? (i := 227) (by decide +kernel), List.mem_of_getElem? (i := 228) (by decide +kernel)⟩
theorem lw_p6 : lw_okq (⟨"ChangeTracker", "workerBit", "()I"⟩, 6) := ⟨⟨by decide +kernel, by decide +kernel⟩, List.mem_of_getElem? (i := 16) (by decide +kernel), List.mem_of_getElem? (i := 274) (by decide +kernel), List.mem_of_getElem? (i := 275) (by decide +kernel)⟩
theorem lw_p7 : lw_okq (⟨"ChangeTracker", "startDraft", "(I)V"⟩, 6) := ⟨⟨by decide +kernel, by decide +kernel⟩, List.mem_of_getElem? (i := 16) (by decide +kernel), List.mem_of_getElem? (i := 278) (by decide +kernel), List.mem_of_getElem? (i := 279) (by decide +kernel)⟩
theorem lw_p8 : lw_okq (⟨"ChangeTracker", "finishDraft", "(I)V"⟩, 6) := ⟨⟨by decide +kernel, by decide +kernel⟩, List.mem_of_getElem? (i := 16) (by decide +kernel), List.mem_of_getElem? (i := 307) (by decide +kernel), List.mem_of_getElem? (i := 308) (by decide +kernel)⟩
theorem lw_p9 : lw_okq (⟨"ChangeTracker$History", "groupBeingMade", "()LChangeTracker$Group;"⟩, 5) := ⟨⟨by decide +kernel, by decide +kernel⟩, List.mem_of_getElem? (i := 24) (by decide +kernel), List.mem_of_getElem? (i := 320) (by decide +kernel), List.mem_of_getElem? (i := 321) (by decide +kernel)⟩
theorem lw_p10 : lw_okq (⟨"ChangeTracker$History", "isTooMuch", "()Z"⟩, 5) := ⟨⟨by decide +kernel, by decide +kernel⟩, List.mem_of_getElem? (i := 24) (by decide +kernel), List.mem_of_getElem? (i := 356) (by decide +kernel), List.mem_of_getElem? (i := 357) (by decide +kernel)⟩
theorem lw_p11 : lw_okq (⟨"ChangeTracker$History", "forgetEarliest", "()V"⟩, 5) := ⟨⟨by decide +kernel, by decide +kernel⟩, List.mem_of_getElem? (i := 24) (by decide +kernel), List.mem_of_getElem? (i := 361) (by decide +kernel), List.mem_of_getElem? (i := 362) (by decide +kernel)⟩
theorem lw_p12 : lw_okq (⟨"ChangeTracker", "afterErasing", "(J)J"⟩, 6) := ⟨⟨by decide +kernel, by decide +kernel⟩, List.mem_of_getElem? (i := 16) (by decide +kernel), List.mem_of_getElem? (i := 372) (by decide +kernel), List.mem_of_getElem? (i := 373) (by decide +kernel)⟩
theorem lw_p13 : lw_okq (⟨"ChangeTracker", "isOwn", "(J)Z"⟩, 6) := ⟨⟨by decide +kernel, by decide +kernel⟩, List.mem_of_getElem? (i := 16) (by decide +kernel), List.mem_of_getElem? (i := 376) (by decide +kernel), List.mem_of_getElem? (i := 377) (by decide +kernel)⟩
theorem lw_p14 : lw_okq (⟨"ChangeTracker", "afterFormatting", "(JI)J"⟩, 6) := ⟨⟨by decide +kernel, by decide +kernel⟩, List.mem_of_getElem? (i := 16) (by decide +kernel), List.mem_of_getElem? (i := 388) (by decide +kernel), List.mem_of_getElem? (i := 389) (by decide +kernel)⟩
theorem lw_p15 : lw_okq (⟨"ChangeTracker", "settleMarks", "(IIIZ)I"⟩, 6) := ⟨⟨by decide +kernel, by decide +kernel⟩, List.mem_of_getElem? (i := 16) (by decide +kernel), List.mem_of_getElem? (i := 413) (by decide +kernel), List.mem_of_getElem? (i := 414) (by decide +kernel)⟩
def lw_privs_1 : List (MethodName × Nat) := [(⟨"ChangeTracker", "countRuns", "()I"⟩, 6), (⟨"ChangeTracker", "countDifferentMarks", "()I"⟩, 6), (⟨"ChangeTracker", "isFound", "(JI)Z"⟩, 6), (⟨"ChangeTracker$History", "weightBetween", "(II)I"⟩, 5), (⟨"java/lang/Throwable", "fillInStackTrace", "(I)Ljava/lang/Throwable;"⟩, 6), (⟨"ChangeTracker", "requireRange", "(II)V"⟩, 6), (⟨"ChangeTracker", "workerBit", "()I"⟩, 6), (⟨"ChangeTracker", "startDraft", "(I)V"⟩, 6), (⟨"ChangeTracker", "finishDraft", "(I)V"⟩, 6), (⟨"ChangeTracker$History", "groupBeingMade", "()LChangeTracker$Group;"⟩, 5), (⟨"ChangeTracker$History", "isTooMuch", "()Z"⟩, 5), (⟨"ChangeTracker$History", "forgetEarliest", "()V"⟩, 5), (⟨"ChangeTracker", "afterErasing", "(J)J"⟩, 6), (⟨"ChangeTracker", "isOwn", "(J)Z"⟩, 6), (⟨"ChangeTracker", "afterFormatting", "(JI)J"⟩, 6), (⟨"ChangeTracker", "settleMarks", "(IIIZ)I"⟩, 6)]
theorem lw_r1 : ∀ q ∈ lw_privs_1, lw_okq q := List.forall_mem_cons.mpr ⟨lw_p0, List.forall_mem_cons.mpr ⟨lw_p1, List.forall_mem_cons.mpr ⟨lw_p2, List.forall_mem_cons.mpr ⟨lw_p3, List.forall_mem_cons.mpr ⟨lw_p4, List.forall_mem_cons.mpr ⟨lw_p5, List.forall_mem_cons.mpr ⟨lw_p6, List.forall_mem_cons.mpr ⟨lw_p7, List.forall_mem_cons.mpr ⟨lw_p8, List.forall_mem_cons.mpr ⟨lw_p9, List.forall_mem_cons.mpr ⟨lw_p10, List.forall_mem_cons.mpr ⟨lw_p11, List.forall_mem_cons.mpr ⟨lw_p12, List.forall_mem_cons.mpr ⟨lw_p13, List.forall_mem_cons.mpr ⟨lw_p14, List.forall_mem_cons.mpr ⟨lw_p15, fun _ h => absurd h List.not_mem_nil⟩⟩⟩⟩⟩⟩⟩⟩⟩⟩⟩⟩⟩⟩⟩⟩
theorem lw_p16 : lw_okq (⟨"ChangeTracker", "crossOver", "(LChangeTracker$Group;)I"⟩, 6) := ⟨⟨by decide +kernel, by decide +kernel⟩, List.mem_of_getElem? (i := 16) (by decide +kernel), List.mem_of_getElem? (i := 462) (by decide +kernel), List.mem_of_getElem? (i := 463) (by decide +kernel)⟩
theorem lw_p17 : lw_okq (⟨"ChangeTracker", "placeOfSeen", "(II)I"⟩, 6) := ⟨⟨by decide +kernel, by decide +kernel⟩, List.mem_of_getElem? (i := 16) (by decide +kernel), List.mem_of_getElem? (i := 486) (by decide +kernel), List.mem_of_getElem? (i := 487) (by decide +kernel)⟩
theorem lw_p18 : lw_okq (⟨"ChangeTrackerModel", "isPlace", "(I)Z"⟩, 20) := ⟨⟨by decide +kernel, by decide +kernel⟩, List.mem_of_getElem? (i := 513) (by decide +kernel), List.mem_of_getElem? (i := 600) (by decide +kernel), List.mem_of_getElem? (i := 601) (by decide +kernel)⟩
theorem lw_p19 : lw_okq (⟨"ChangeTrackerModel", "raise", "(I)I"⟩, 20) := ⟨⟨by decide +kernel, by decide +kernel⟩, List.mem_of_getElem? (i := 513) (by decide +kernel), List.mem_of_getElem? (i := 605) (by decide +kernel), List.mem_of_getElem? (i := 606) (by decide +kernel)⟩
theorem lw_p20 : lw_okq (⟨"ChangeTrackerModel", "edit", "(IIIIJ)I"⟩, 20) := ⟨⟨by decide +kernel, by decide +kernel⟩, List.mem_of_getElem? (i := 513) (by decide +kernel), List.mem_of_getElem? (i := 609) (by decide +kernel), List.mem_of_getElem? (i := 610) (by decide +kernel)⟩
theorem lw_p21 : lw_okq (⟨"ChangeTrackerModel", "keepWas", "()V"⟩, 20) := ⟨⟨by decide +kernel, by decide +kernel⟩, List.mem_of_getElem? (i := 513) (by decide +kernel), List.mem_of_getElem? (i := 613) (by decide +kernel), List.mem_of_getElem? (i := 614) (by decide +kernel)⟩
theorem lw_p22 : lw_okq (⟨"ChangeTrackerModel", "play", "(JJ)I"⟩, 20) := ⟨⟨by decide +kernel, by decide +kernel⟩, List.mem_of_getElem? (i := 513) (by decide +kernel), List.mem_of_getElem? (i := 620) (by decide +kernel), List.mem_of_getElem? (i := 621) (by decide +kernel)⟩
theorem lw_p23 : lw_okq (⟨"ChangeTrackerModel", "put", "(IJII)I"⟩, 20) := ⟨⟨by decide +kernel, by decide +kernel⟩, List.mem_of_getElem? (i := 513) (by decide +kernel), List.mem_of_getElem? (i := 625) (by decide +kernel), List.mem_of_getElem? (i := 626) (by decide +kernel)⟩
theorem lw_p24 : lw_okq (⟨"ChangeTrackerModel", "weight", "()I"⟩, 20) := ⟨⟨by decide +kernel, by decide +kernel⟩, List.mem_of_getElem? (i := 513) (by decide +kernel), List.mem_of_getElem? (i := 642) (by decide +kernel), List.mem_of_getElem? (i := 643) (by decide +kernel)⟩
theorem lw_p25 : lw_okq (⟨"ChangeTrackerModel", "startOf", "(I)I"⟩, 20) := ⟨⟨by decide +kernel, by decide +kernel⟩, List.mem_of_getElem? (i := 513) (by decide +kernel), List.mem_of_getElem? (i := 646) (by decide +kernel), List.mem_of_getElem? (i := 647) (by decide +kernel)⟩
theorem lw_p26 : lw_okq (⟨"ChangeTrackerModel", "endGroup", "()V"⟩, 20) := ⟨⟨by decide +kernel, by decide +kernel⟩, List.mem_of_getElem? (i := 513) (by decide +kernel), List.mem_of_getElem? (i := 650) (by decide +kernel), List.mem_of_getElem? (i := 651) (by decide +kernel)⟩
theorem lw_p27 : lw_okq (⟨"ChangeTrackerModel", "forgetAll", "()V"⟩, 20) := ⟨⟨by decide +kernel, by decide +kernel⟩, List.mem_of_getElem? (i := 513) (by decide +kernel), List.mem_of_getElem? (i := 654) (by decide +kernel), List.mem_of_getElem? (i := 655) (by decide +kernel)⟩
theorem lw_p28 : lw_okq (⟨"ChangeTrackerModel", "toBase", "()V"⟩, 20) := ⟨⟨by decide +kernel, by decide +kernel⟩, List.mem_of_getElem? (i := 513) (by decide +kernel), List.mem_of_getElem? (i := 658) (by decide +kernel), List.mem_of_getElem? (i := 659) (by decide +kernel)⟩
theorem lw_p29 : lw_okq (⟨"ChangeTrackerModel", "weightOf", "(II)I"⟩, 20) := ⟨⟨by decide +kernel, by decide +kernel⟩, List.mem_of_getElem? (i := 513) (by decide +kernel), List.mem_of_getElem? (i := 662) (by decide +kernel), List.mem_of_getElem? (i := 663) (by decide +kernel)⟩
theorem lw_p30 : lw_okq (⟨"ChangeTrackerModel", "forgetFirst", "()V"⟩, 20) := ⟨⟨by decide +kernel, by decide +kernel⟩, List.mem_of_getElem? (i := 513) (by decide +kernel), List.mem_of_getElem? (i := 666) (by decide +kernel), List.mem_of_getElem? (i := 667) (by decide +kernel)⟩
theorem lw_p31 : lw_okq (⟨"ChangeTrackerModel", "fromBase", "()V"⟩, 20) := ⟨⟨by decide +kernel, by decide +kernel⟩, List.mem_of_getElem? (i := 513) (by decide +kernel), List.mem_of_getElem? (i := 670) (by decide +kernel), List.mem_of_getElem? (i := 671) (by decide +kernel)⟩
def lw_privs_2 : List (MethodName × Nat) := [(⟨"ChangeTracker", "crossOver", "(LChangeTracker$Group;)I"⟩, 6), (⟨"ChangeTracker", "placeOfSeen", "(II)I"⟩, 6), (⟨"ChangeTrackerModel", "isPlace", "(I)Z"⟩, 20), (⟨"ChangeTrackerModel", "raise", "(I)I"⟩, 20), (⟨"ChangeTrackerModel", "edit", "(IIIIJ)I"⟩, 20), (⟨"ChangeTrackerModel", "keepWas", "()V"⟩, 20), (⟨"ChangeTrackerModel", "play", "(JJ)I"⟩, 20), (⟨"ChangeTrackerModel", "put", "(IJII)I"⟩, 20), (⟨"ChangeTrackerModel", "weight", "()I"⟩, 20), (⟨"ChangeTrackerModel", "startOf", "(I)I"⟩, 20), (⟨"ChangeTrackerModel", "endGroup", "()V"⟩, 20), (⟨"ChangeTrackerModel", "forgetAll", "()V"⟩, 20), (⟨"ChangeTrackerModel", "toBase", "()V"⟩, 20), (⟨"ChangeTrackerModel", "weightOf", "(II)I"⟩, 20), (⟨"ChangeTrackerModel", "forgetFirst", "()V"⟩, 20), (⟨"ChangeTrackerModel", "fromBase", "()V"⟩, 20)]
theorem lw_r2 : ∀ q ∈ lw_privs_2, lw_okq q := List.forall_mem_cons.mpr ⟨lw_p16, List.forall_mem_cons.mpr ⟨lw_p17, List.forall_mem_cons.mpr ⟨lw_p18, List.forall_mem_cons.mpr ⟨lw_p19, List.forall_mem_cons.mpr ⟨lw_p20, List.forall_mem_cons.mpr ⟨lw_p21, List.forall_mem_cons.mpr ⟨lw_p22, List.forall_mem_cons.mpr ⟨lw_p23, List.forall_mem_cons.mpr ⟨lw_p24, List.forall_mem_cons.mpr ⟨lw_p25, List.forall_mem_cons.mpr ⟨lw_p26, List.forall_mem_cons.mpr ⟨lw_p27, List.forall_mem_cons.mpr ⟨lw_p28, List.forall_mem_cons.mpr ⟨lw_p29, List.forall_mem_cons.mpr ⟨lw_p30, List.forall_mem_cons.mpr ⟨lw_p31, fun _ h => absurd h List.not_mem_nil⟩⟩⟩⟩⟩⟩⟩⟩⟩⟩⟩⟩⟩⟩⟩⟩
theorem lw_p32 : lw_okq (⟨"ChangeTrackerModel", "isRange", "(II)Z"⟩, 20) := ⟨⟨by decide +kernel, by decide +kernel⟩, List.mem_of_getElem? (i := 513) (by decide +kernel), List.mem_of_getElem? (i := 678) (by decide +kernel), List.mem_of_getElem? (i := 679) (by decide +kernel)⟩
theorem lw_p33 : lw_okq (⟨"ChangeTrackerModel", "placeOf", "(II)I"⟩, 20) := ⟨⟨by decide +kernel, by decide +kernel⟩, List.mem_of_getElem? (i := 513) (by decide +kernel), List.mem_of_getElem? (i := 714) (by decide +kernel), List.mem_of_getElem? (i := 715) (by decide +kernel)⟩
theorem lw_p34 : lw_okq (⟨"ChangeTrackerModel", "isSeen", "(IJ)Z"⟩, 20) := ⟨⟨by decide +kernel, by decide +kernel⟩, List.mem_of_getElem? (i := 513) (by decide +kernel), List.mem_of_getElem? (i := 718) (by decide +kernel), List.mem_of_getElem? (i := 719) (by decide +kernel)⟩
theorem lw_p35 : lw_okq (⟨"ChangeTrackerModel", "marks", "(Z)I"⟩, 20) := ⟨⟨by decide +kernel, by decide +kernel⟩, List.mem_of_getElem? (i := 513) (by decide +kernel), List.mem_of_getElem? (i := 738) (by decide +kernel), List.mem_of_getElem? (i := 739) (by decide +kernel)⟩
theorem lw_p36 : lw_okq (⟨"ChangeTrackerModel", "alike", "(II)Z"⟩, 20) := ⟨⟨by decide +kernel, by decide +kernel⟩, List.mem_of_getElem? (i := 513) (by decide +kernel), List.mem_of_getElem? (i := 742) (by decide +kernel), List.mem_of_getElem? (i := 743) (by decide +kernel)⟩
def lw_privs_3 : List (MethodName × Nat) := [(⟨"ChangeTrackerModel", "isRange", "(II)Z"⟩, 20), (⟨"ChangeTrackerModel", "placeOf", "(II)I"⟩, 20), (⟨"ChangeTrackerModel", "isSeen", "(IJ)Z"⟩, 20), (⟨"ChangeTrackerModel", "marks", "(Z)I"⟩, 20), (⟨"ChangeTrackerModel", "alike", "(II)Z"⟩, 20)]
theorem lw_r3 : ∀ q ∈ lw_privs_3, lw_okq q := List.forall_mem_cons.mpr ⟨lw_p32, List.forall_mem_cons.mpr ⟨lw_p33, List.forall_mem_cons.mpr ⟨lw_p34, List.forall_mem_cons.mpr ⟨lw_p35, List.forall_mem_cons.mpr ⟨lw_p36, fun _ h => absurd h List.not_mem_nil⟩⟩⟩⟩⟩
def lw_privs : List (MethodName × Nat) := lw_privs_1 ++ (lw_privs_2 ++ (lw_privs_3))
def lw_tbl : List Cond := k2_sels lw_privs ++ tables_1
theorem lw_privs_ok : ∀ q ∈ lw_privs, lw_okq q := by
  show ∀ q ∈ lw_privs_1 ++ (lw_privs_2 ++ (lw_privs_3)), lw_okq q
  exact List.forall_mem_append.mpr ⟨lw_r1, List.forall_mem_append.mpr ⟨lw_r2, lw_r3⟩⟩
end
section
def R_Text : String := "ChangeTracker$Text"
def F_Text : u_T := fun k => match k with
  | 0 => ("ChangeTracker$Text", "row", "[J", true)
  | _ => ("ChangeTracker$Text", "size", "I", false)
def t_Text : Nat → FieldType := fun k => match k with
  | 0 => .array (.long)
  | _ => .int
def R_Group : String := "ChangeTracker$Group"
def F_Group : u_T := fun k => match k with
  | 0 => ("ChangeTracker$Group", "otherSide", "LChangeTracker$Text;", false)
  | 1 => ("ChangeTracker$Group", "edits", "I", false)
  | _ => ("ChangeTracker$Group", "weight", "I", false)
def t_Group : Nat → FieldType := fun k => match k with
  | 0 => .object "ChangeTracker$Text"
  | 1 => .int
  | _ => .int
def R_Hist : String := "ChangeTracker$History"
def F_Hist : u_T := fun k => match k with
  | 0 => ("ChangeTracker$History", "groups", "[LChangeTracker$Group;", true)
  | 1 => ("ChangeTracker$History", "done", "I", false)
  | 2 => ("ChangeTracker$History", "undone", "I", false)
  | 3 => ("ChangeTracker$History", "isOpen", "Z", false)
  | _ => ("ChangeTracker$History", "isBegun", "Z", false)
def t_Hist : Nat → FieldType := fun k => match k with
  | 0 => .array (.object "ChangeTracker$Group")
  | 1 => .int
  | 2 => .int
  | 3 => .boolean
  | _ => .boolean
def R_CT : String := "ChangeTracker"
def F_CT : u_T := fun k => match k with
  | 0 => ("ChangeTracker", "history", "LChangeTracker$History;", true)
  | 1 => ("ChangeTracker", "marksFound", "[J", true)
  | 2 => ("ChangeTracker", "text", "LChangeTracker$Text;", false)
  | 3 => ("ChangeTracker", "draft", "LChangeTracker$Text;", false)
  | 4 => ("ChangeTracker", "worker", "I", false)
  | _ => ("ChangeTracker", "tracking", "Z", false)
def t_CT : Nat → FieldType := fun k => match k with
  | 0 => .object "ChangeTracker$History"
  | 1 => .array (.long)
  | 2 => .object "ChangeTracker$Text"
  | 3 => .object "ChangeTracker$Text"
  | 4 => .int
  | _ => .boolean
def R_Mo : String := "ChangeTrackerModel"
def F_Mo : u_T := fun k => match k with
  | 0 => ("ChangeTrackerModel", "code", "I", false)
  | 1 => ("ChangeTrackerModel", "author", "I", false)
  | 2 => ("ChangeTrackerModel", "tracking", "Z", false)
  | 3 => ("ChangeTrackerModel", "length", "I", false)
  | 4 => ("ChangeTrackerModel", "text", "[J", true)
  | 5 => ("ChangeTrackerModel", "wasLength", "I", false)
  | 6 => ("ChangeTrackerModel", "was", "[J", true)
  | 7 => ("ChangeTrackerModel", "baseLength", "I", false)
  | 8 => ("ChangeTrackerModel", "base", "[J", true)
  | 9 => ("ChangeTrackerModel", "done", "I", false)
  | 10 => ("ChangeTrackerModel", "commands", "[J", true)
  | 11 => ("ChangeTrackerModel", "codes", "[J", true)
  | 12 => ("ChangeTrackerModel", "groups", "I", false)
  | 13 => ("ChangeTrackerModel", "allGroups", "I", false)
  | 14 => ("ChangeTrackerModel", "groupEnd", "[I", true)
  | 15 => ("ChangeTrackerModel", "groupEdits", "[I", true)
  | 16 => ("ChangeTrackerModel", "groupWeight", "[I", true)
  | 17 => ("ChangeTrackerModel", "open", "Z", false)
  | 18 => ("ChangeTrackerModel", "openEdits", "I", false)
  | _ => ("ChangeTrackerModel", "openWeight", "I", false)
def t_Mo : Nat → FieldType := fun k => match k with
  | 0 => .int
  | 1 => .int
  | 2 => .boolean
  | 3 => .int
  | 4 => .array (.long)
  | 5 => .int
  | 6 => .array (.long)
  | 7 => .int
  | 8 => .array (.long)
  | 9 => .int
  | 10 => .array (.long)
  | 11 => .array (.long)
  | 12 => .int
  | 13 => .int
  | 14 => .array (.int)
  | 15 => .array (.int)
  | 16 => .array (.int)
  | 17 => .boolean
  | 18 => .int
  | _ => .int
abbrev zq_cl : List vw_C := [(R_Text, F_Text, 2), (R_Group, F_Group, 3), (R_Hist, F_Hist, 5), (R_CT, F_CT, 6), (R_Mo, F_Mo, 20)]
abbrev zq_ty (f : Nat → ClassId) : List (ClassId × FieldType) := [(f 0, .long), (f 1, .object "ChangeTracker$Group"), (f 2, .int)]
def zq_xn (k : Nat) : String := match k with
  | 0 => "java/lang/IndexOutOfBoundsException"
  | 1 => "java/lang/IllegalArgumentException"
  | _ => "java/lang/IllegalStateException"
abbrev zq_nc : List (String × String) := [(zq_xn 0, zq_xn 1), (zq_xn 0, zq_xn 2), (zq_xn 1, zq_xn 0), (zq_xn 1, zq_xn 2), (zq_xn 2, zq_xn 0), (zq_xn 2, zq_xn 1)]
/-- words that stay true while the tables grow warmer, whatever becomes of the heap -/
def zq_gw (w : Cond) : Bool := match w with
  | .methodLinkNest _ _ _ _ => true
  | .stringRef _ _ _ => true
  | w => goodWord w
def zq_T : List Cond := lw_tbl.filter zq_gw
theorem zq_in {w : Cond} (h : w ∈ lw_tbl) (g : zq_gw w = true) : w ∈ zq_T := List.mem_filter.mpr ⟨h, g⟩
theorem zq_warm {s U : State} (w : Cond) (hw : w ∈ zq_T) (hW : s.WarmedH U.vm) (h : ∀ a : Array Value, w.before a s = true) : ∀ a : Array Value, w.before a U = true := by
  have hg := (List.mem_filter.mp hw).2
  unfold zq_gw at hg
  split at hg
  · exact fun a => va_Nw.use rfl (va_Nw.warmM hW (h #[]))
  · intro a
    have h1 := Cond.stringRef_warmed hW (h a)
    exact h1
  · exact fun a => word_at hW (good_of_word hg) (h a)
theorem u_Text_in : ∀ w ∈ u_ws R_Text F_Text 2, w ∈ zq_T := by
  intro w hw
  obtain ⟨k, hk, rfl⟩ := List.mem_map.mp hw
  have hk : k < 2 := List.mem_range.mp hk
  have hk : k = 0 ∨ k = 1 := by omega
  rcases hk with rfl | rfl
  · exact zq_in (List.mem_of_getElem? (i := 97) (by decide +kernel)) (by decide +kernel)
  · exact zq_in (List.mem_of_getElem? (i := 99) (by decide +kernel)) (by decide +kernel)
theorem t_Text_ok : ∀ k, k < 2 → parseFieldDescriptor (F_Text k).2.2.1 = some (t_Text k) := by decide +kernel
theorem n_Text_ok : ∀ a, a < 2 → ∀ b, b < 2 → a ≠ b → (F_Text a).2.1 ≠ (F_Text b).2.1 := by decide +kernel
theorem u_Group_in : ∀ w ∈ u_ws R_Group F_Group 3, w ∈ zq_T := by
  intro w hw
  obtain ⟨k, hk, rfl⟩ := List.mem_map.mp hw
  have hk : k < 3 := List.mem_range.mp hk
  have hk : k = 0 ∨ k = 1 ∨ k = 2 := by omega
  rcases hk with rfl | rfl | rfl
  · exact zq_in (List.mem_of_getElem? (i := 375) (by decide +kernel)) (by decide +kernel)
  · exact zq_in (List.mem_of_getElem? (i := 377) (by decide +kernel)) (by decide +kernel)
  · exact zq_in (List.mem_of_getElem? (i := 379) (by decide +kernel)) (by decide +kernel)
theorem t_Group_ok : ∀ k, k < 3 → parseFieldDescriptor (F_Group k).2.2.1 = some (t_Group k) := by decide +kernel
theorem n_Group_ok : ∀ a, a < 3 → ∀ b, b < 3 → a ≠ b → (F_Group a).2.1 ≠ (F_Group b).2.1 := by decide +kernel
theorem u_Hist_in : ∀ w ∈ u_ws R_Hist F_Hist 5, w ∈ zq_T := by
  intro w hw
  obtain ⟨k, hk, rfl⟩ := List.mem_map.mp hw
  have hk : k < 5 := List.mem_range.mp hk
  have hk : k = 0 ∨ k = 1 ∨ k = 2 ∨ k = 3 ∨ k = 4 := by omega
  rcases hk with rfl | rfl | rfl | rfl | rfl
  · exact zq_in (List.mem_of_getElem? (i := 76) (by decide +kernel)) (by decide +kernel)
  · exact zq_in (List.mem_of_getElem? (i := 78) (by decide +kernel)) (by decide +kernel)
  · exact zq_in (List.mem_of_getElem? (i := 80) (by decide +kernel)) (by decide +kernel)
  · exact zq_in (List.mem_of_getElem? (i := 82) (by decide +kernel)) (by decide +kernel)
  · exact zq_in (List.mem_of_getElem? (i := 84) (by decide +kernel)) (by decide +kernel)
theorem t_Hist_ok : ∀ k, k < 5 → parseFieldDescriptor (F_Hist k).2.2.1 = some (t_Hist k) := by decide +kernel
theorem n_Hist_ok : ∀ a, a < 5 → ∀ b, b < 5 → a ≠ b → (F_Hist a).2.1 ≠ (F_Hist b).2.1 := by decide +kernel
theorem u_CT_in : ∀ w ∈ u_ws R_CT F_CT 6, w ∈ zq_T := by
  intro w hw
  obtain ⟨k, hk, rfl⟩ := List.mem_map.mp hw
  have hk : k < 6 := List.mem_range.mp hk
  have hk : k = 0 ∨ k = 1 ∨ k = 2 ∨ k = 3 ∨ k = 4 ∨ k = 5 := by omega
  rcases hk with rfl | rfl | rfl | rfl | rfl | rfl
  · exact zq_in (List.mem_of_getElem? (i := 109) (by decide +kernel)) (by decide +kernel)
  · exact zq_in (List.mem_of_getElem? (i := 111) (by decide +kernel)) (by decide +kernel)
  · exact zq_in (List.mem_of_getElem? (i := 113) (by decide +kernel)) (by decide +kernel)
  · exact zq_in (List.mem_of_getElem? (i := 115) (by decide +kernel)) (by decide +kernel)
  · exact zq_in (List.mem_of_getElem? (i := 117) (by decide +kernel)) (by decide +kernel)
  · exact zq_in (List.mem_of_getElem? (i := 119) (by decide +kernel)) (by decide +kernel)
theorem t_CT_ok : ∀ k, k < 6 → parseFieldDescriptor (F_CT k).2.2.1 = some (t_CT k) := by decide +kernel
theorem n_CT_ok : ∀ a, a < 6 → ∀ b, b < 6 → a ≠ b → (F_CT a).2.1 ≠ (F_CT b).2.1 := by decide +kernel
theorem u_Mo_in : ∀ w ∈ u_ws R_Mo F_Mo 20, w ∈ zq_T := by
  intro w hw
  obtain ⟨k, hk, rfl⟩ := List.mem_map.mp hw
  have hk : k < 20 := List.mem_range.mp hk
  have hk : k = 0 ∨ k = 1 ∨ k = 2 ∨ k = 3 ∨ k = 4 ∨ k = 5 ∨ k = 6 ∨ k = 7 ∨ k = 8 ∨ k = 9 ∨ k = 10 ∨ k = 11 ∨ k = 12 ∨ k = 13 ∨ k = 14 ∨ k = 15 ∨ k = 16 ∨ k = 17 ∨ k = 18 ∨ k = 19 := by omega
  rcases hk with rfl | rfl | rfl | rfl | rfl | rfl | rfl | rfl | rfl | rfl | rfl | rfl | rfl | rfl | rfl | rfl | rfl | rfl | rfl | rfl
  · exact zq_in (List.mem_of_getElem? (i := 575) (by decide +kernel)) (by decide +kernel)
  · exact zq_in (List.mem_of_getElem? (i := 577) (by decide +kernel)) (by decide +kernel)
  · exact zq_in (List.mem_of_getElem? (i := 579) (by decide +kernel)) (by decide +kernel)
  · exact zq_in (List.mem_of_getElem? (i := 581) (by decide +kernel)) (by decide +kernel)
  · exact zq_in (List.mem_of_getElem? (i := 583) (by decide +kernel)) (by decide +kernel)
  · exact zq_in (List.mem_of_getElem? (i := 585) (by decide +kernel)) (by decide +kernel)
  · exact zq_in (List.mem_of_getElem? (i := 587) (by decide +kernel)) (by decide +kernel)
  · exact zq_in (List.mem_of_getElem? (i := 589) (by decide +kernel)) (by decide +kernel)
  · exact zq_in (List.mem_of_getElem? (i := 591) (by decide +kernel)) (by decide +kernel)
  · exact zq_in (List.mem_of_getElem? (i := 593) (by decide +kernel)) (by decide +kernel)
  · exact zq_in (List.mem_of_getElem? (i := 595) (by decide +kernel)) (by decide +kernel)
  · exact zq_in (List.mem_of_getElem? (i := 597) (by decide +kernel)) (by decide +kernel)
  · exact zq_in (List.mem_of_getElem? (i := 599) (by decide +kernel)) (by decide +kernel)
  · exact zq_in (List.mem_of_getElem? (i := 601) (by decide +kernel)) (by decide +kernel)
  · exact zq_in (List.mem_of_getElem? (i := 603) (by decide +kernel)) (by decide +kernel)
  · exact zq_in (List.mem_of_getElem? (i := 605) (by decide +kernel)) (by decide +kernel)
  · exact zq_in (List.mem_of_getElem? (i := 607) (by decide +kernel)) (by decide +kernel)
  · exact zq_in (List.mem_of_getElem? (i := 609) (by decide +kernel)) (by decide +kernel)
  · exact zq_in (List.mem_of_getElem? (i := 611) (by decide +kernel)) (by decide +kernel)
  · exact zq_in (List.mem_of_getElem? (i := 613) (by decide +kernel)) (by decide +kernel)
theorem t_Mo_ok : ∀ k, k < 20 → parseFieldDescriptor (F_Mo k).2.2.1 = some (t_Mo k) := by decide +kernel
theorem n_Mo_ok : ∀ a, a < 20 → ∀ b, b < 20 → a ≠ b → (F_Mo a).2.1 ≠ (F_Mo b).2.1 := by decide +kernel
end
section
/-! pictures of the heap, a judgement of walks over them -/
abbrev zq_E : Type := (Nat × vp_A) ⊕ (Nat × List Value)
abbrev zq_G : Type := va_G × (Nat → ClassId)
/-- a picture: what the cells hold, how many cells there are, how many writes there have been -/
abbrev zq_S : Type := (Nat → Option zq_E) × Nat × Nat
abbrev zq_R : Type := Option Value ⊕ Nat
def zq_c (G : zq_G) (e : zq_E) : va_E := match e with
  | .inl x => .inl (G.2 x.1, x.2)
  | .inr o => .inr o
def zq_P (G : zq_G) (S : zq_S) (H : Heap) : Prop := H.size = S.2.1 ∧ ∀ (a : Nat) (e : zq_E), S.1 a = some e → va_at G.1 zq_cl (a, zq_c G e) H
def zq_A (S : zq_S) : Nat → Prop := fun q => S.1 q ≠ none ∨ S.2.1 ≤ q
def zq_u (S : zq_S) (a : Nat) (e : zq_E) : zq_S := (fun q => if q = a then some e else S.1 q, S.2.1, S.2.2 + 1)
def zq_n (S : zq_S) (e : zq_E) : zq_S := (fun q => if q = S.2.1 then some e else S.1 q, S.2.1 + 1, S.2.2)
theorem zq_P.lt {G : zq_G} {S : zq_S} {H : Heap} (h : zq_P G S H) {a : Nat} {e : zq_E} (ha : S.1 a = some e) : a < H.size := (h.2 a e ha).lt
theorem zq_P.set {G : zq_G} {S : zq_S} {H H' : Heap} {a : Nat} {e : zq_E} (h : zq_P G S H) (he : va_at G.1 zq_cl (a, zq_c G e) H') (hz : H'.size = H.size) (oq : ∀ q : Nat, q ≠ a → H'[q]? = H[q]?) : zq_P G (zq_u S a e) H' := by
  refine ⟨hz.trans h.1, fun b e' hb => ?_⟩
  by_cases hba : b = a
  · subst hba
    have hb : (if b = b then some e else S.1 b) = some e' := hb
    rw [if_pos rfl] at hb
    cases hb
    exact he
  · have hb : (if b = a then some e else S.1 b) = some e' := hb
    rw [if_neg hba] at hb
    exact (h.2 b e' hb).kept (oq b hba)
theorem zq_P.push {G : zq_G} {S : zq_S} {H H' : Heap} {e : zq_E} (h : zq_P G S H) (he : va_at G.1 zq_cl (S.2.1, zq_c G e) H') (hz : H'.size = H.size + 1) (oq : ∀ q : Nat, q < H.size → H'[q]? = H[q]?) : zq_P G (zq_n S e) H' := by
  refine ⟨by rw [hz, h.1]; rfl, fun b e' hb => ?_⟩
  have hb : (if b = S.2.1 then some e else S.1 b) = some e' := hb
  by_cases hba : b = S.2.1
  · rw [if_pos hba] at hb
    cases hb
    rw [hba]
    exact he
  · rw [if_neg hba] at hb
    exact (h.2 b e' hb).kept (oq b (h.lt hb))
theorem zq_SP {A : Nat → Prop} {H0 H H1 : Heap} {locs : List Loc} (h : va_S A H0 H locs) (z : H1.size = H.size + 1) (o : ∀ q : Nat, q < H.size → H1[q]? = H[q]?) : va_S A H0 H1 locs :=
  ⟨Nat.le_trans h.1 (by omega), fun q g1 g2 => (o q (Nat.lt_of_lt_of_le g1 h.1)).trans (h.2.1 q g1 g2), h.2.2⟩
/-- the tables' words, the classes as the tables have them, what can't be cast -/
def zq_I (G : zq_G) (U : State) : Prop := (∀ w ∈ zq_T, ∀ a : Array Value, w.before a U = true) ∧ va_K G.1 zq_cl (zq_ty G.2) U ∧ ∀ q ∈ zq_nc, va_Nc q.1 q.2 U
/-- a static field lies in its class's cell of statics, which nobody writes -/
def zq_L (C n d : String) (A : Nat → Prop) (U : State) (H : Heap) : Prop := ∃ (c : ClassId) (k : Class) (i : Nat) (f : Field) (a : Nat) (cell : Cell), U.vm.findClass C = some c ∧ U.fieldFound? C n d = some (c, k, i, f) ∧ f.isStatic = true ∧ k.statics = some a ∧ H[a]? = some cell ∧ cell.vm.isStatics = true ∧ cell.cls = c ∧ f.slot < cell.slots.size ∧ k.staticTypes[f.slot]? = some f.type ∧ ¬ A a
def zq_V (C n d : String) (A : Nat → Prop) (U : State) (H : Heap) : Prop := va_Zq C n d A U H ∧ zq_L C n d A U H
theorem zq_V.to {C n d : String} {A B : Nat → Prop} {u U : State} {H H1 : Heap} (h : zq_V C n d A u H) (hvm : u.vm.Alike U.vm) (hq : ∀ a : Nat, a < H.size → ¬ A a → H1[a]? = H[a]?) (hAB : ∀ q, B q → A q) : zq_V C n d B U H1 := by
  refine ⟨((va_Zq.moved hvm h.1).kept hq).narrow hAB, ?_⟩
  obtain ⟨c, k, i, f, a, cell, h1, h2, h3, h4, h5, h6, h7, h8, h9, h10⟩ := h.2
  obtain ⟨k', hi', he⟩ := State.fieldFound?_setVm hvm h2
  exact ⟨c, k', i, f, a, cell, by rw [hvm.findClass]; exact h1, hi', h3, by rw [he]; exact h4, by rw [hq a (Array.getElem?_eq_some_iff.mp h5).1 h10]; exact h5, h6, h7, h8, by rw [he]; exact h9, fun z => h10 (hAB _ z)⟩
/-- the two statics of Throwable that a new exception reads -/
def zq_J (S : zq_S) (U : State) : Prop := zq_V Bundle.tN "UNASSIGNED_STACK" Bundle.steD (zq_A S) U U.heap ∧ zq_V Bundle.tN "SUPPRESSED_SENTINEL" Bundle.listD (zq_A S) U U.heap
def zq_out (r : zq_R) (st : State) (o : Outcome) (t : State) : Prop := match r with
  | .inl v => o = .returned v
  | .inr k => ∃ (x : Addr) (ce : Cell), o = .threw x ∧ t.heap[x]? = some ce ∧ ce.vm = .none ∧ st.vm.findClass (zq_xn k) = some ce.cls
def zq_end (G : zq_G) (S0 : zq_S) (r : zq_R) (S1 : zq_S) (rm : Room) (st : State) (o : Outcome) (t : State) : Prop :=
  zq_out r st o t ∧ zq_P G S1 t.heap ∧ (∀ q : Nat, q < S0.2.1 → ¬ zq_A S0 q → t.heap[q]? = st.heap[q]?) ∧ (∀ (q : Nat) (e : zq_E), S1.1 q = some e → zq_A S0 q) ∧ S0.2.2 ≤ S1.2.2 ∧ st.WarmedH t.vm ∧
  ∃ (L : List Loc) (k n : Nat), k ≤ rm.cells ∧ n ≤ rm.slots ∧ S1.2.1 = S0.2.1 + k ∧ (S1.2.2 = S0.2.2 → L = []) ∧ st.sameButNew ({ t with vm := st.vm } : State) L k n ∧ ∀ q ∈ L, zq_A S0 q.base
/-- a method's contract: from the picture S0 with the arguments av it ends with r and the picture S1 -/
def zq_M (l : Launch) (y : MethodName) (w : Cond) (rm : Room) (G : zq_G) (av : List Value) (S0 : zq_S) (r : zq_R) (S1 : zq_S) : Prop :=
  MetFree l y (headSpec [w] rm) (fun a U => a = av.toArray ∧ zq_I G U ∧ zq_J S0 U ∧ zq_P G S0 U.heap) (fun _ _ _ _ _ => True) (fun _ st o t => zq_end G S0 r S1 rm st o t)
abbrev zq_X : Type := Program × Env × State × MethodId × Array Value × List Frame × Method × Code
abbrev zq_Y : Type := Launch × Room × zq_G × zq_S × zq_R × zq_S
abbrev xp (X : zq_X) : Program := X.1
abbrev xe (X : zq_X) : Env := X.2.1
abbrev xs (X : zq_X) : State := X.2.2.1
abbrev xm (X : zq_X) : MethodId := X.2.2.2.1
abbrev xa (X : zq_X) : Array Value := X.2.2.2.2.1
abbrev xb (X : zq_X) : List Frame := X.2.2.2.2.2.1
abbrev xt (X : zq_X) : Method := X.2.2.2.2.2.2.1
abbrev xc (X : zq_X) : Code := X.2.2.2.2.2.2.2
abbrev yl (Y : zq_Y) : Launch := Y.1
abbrev yR (Y : zq_Y) : Room := Y.2.1
abbrev yG (Y : zq_Y) : zq_G := Y.2.2.1
abbrev yS (Y : zq_Y) : zq_S := Y.2.2.2.1
abbrev yr (Y : zq_Y) : zq_R := Y.2.2.2.2.1
abbrev yT (Y : zq_Y) : zq_S := Y.2.2.2.2.2
def zq_Q (Y : zq_Y) (X : zq_X) : State → Prop := fun t => ∃ o, t.status = .running ∧ Ended t (xb X) o ∧ zq_end (yG Y) (yS Y) (yr Y) (yT Y) (yR Y) (xs X) o t
/-- what a walk may lean on -/
def zq_ok (Y : zq_Y) (X : zq_X) (cc : ByteArray) (nL : Nat) (own nm : String) (ret : Option FieldType) (hh : List (Nat × Nat × Nat × Nat)) : Prop :=
  (xp X).tables.exec = Jvm.exec ∧ (xc X).code = cc ∧ (xc X).maxLocals = nL ∧ (xs X).vm.findClass own = some (xm X).cls ∧ (xt X).sig.returnType = ret ∧ (xt X).locks = false ∧ (xt X).name = nm ∧
  zq_I (yG Y) (xs X) ∧ zq_J (yS Y) (xs X) ∧ zq_P (yG Y) (yS Y) (xs X).heap ∧ (yl Y).stackTraces = false ∧ (xc X).exceptionTable.toList = tableOf hh
/-- THE JUDGEMENT: at pc, with the locals lo, the operands st, the picture S, at most kc cells of ks slots made: the method goes on to its end -/
def zq_W (Y : zq_Y) (X : zq_X) (pc : Nat) (lo : List (Nat × Value)) (st : List Value) (S : zq_S) (kc ks : Nat) : Prop :=
  ∀ (H : Heap) (locs : List Loc) (ls : Array Slot) (ce sl : Nat), zq_P (yG Y) S H → va_S (zq_A (yS Y)) (xs X).heap H locs → (∀ (q : Nat) (e : zq_E), S.1 q = some e → zq_A (yS Y) q) →
    S.2.1 = (yS Y).2.1 + ce → (yS Y).2.2 ≤ S.2.2 → (S.2.2 = (yS Y).2.2 → locs = []) → ce ≤ kc → sl ≤ ks → lv_has ls (xc X).maxLocals lo →
    W (xp X) (yl Y) (xe X) (yR Y) (xs X) (xm X) (xa X) (xb X) (xt X) (xc X) H locs ce sl (zq_Q Y X) (F0 (xm X) pc ls st)
section ZQ1
variable {Y : zq_Y} {X : zq_X} {cc : ByteArray} {nL : Nat} {own nm : String} {ret : Option FieldType} {hh : List (Nat × Nat × Nat × Nat)} {pc : Nat} {lo : List (Nat × Value)} {st : List Value} {S : zq_S} {kc ks : Nat}
theorem zq_ok.x (Z : zq_ok Y X cc nL own nm ret hh) : (xp X).tables.exec = Jvm.exec := Z.1
theorem zq_ok.b (Z : zq_ok Y X cc nL own nm ret hh) : (xc X).code = cc := Z.2.1
theorem zq_ok.l (Z : zq_ok Y X cc nL own nm ret hh) : (xc X).maxLocals = nL := Z.2.2.1
theorem zq_ok.o (Z : zq_ok Y X cc nL own nm ret hh) : (xs X).vm.findClass own = some (xm X).cls := Z.2.2.2.1
theorem zq_ok.r (Z : zq_ok Y X cc nL own nm ret hh) : (xt X).sig.returnType = ret := Z.2.2.2.2.1
theorem zq_ok.k (Z : zq_ok Y X cc nL own nm ret hh) : (xt X).locks = false := Z.2.2.2.2.2.1
theorem zq_ok.n (Z : zq_ok Y X cc nL own nm ret hh) : (xt X).name = nm := Z.2.2.2.2.2.2.1
theorem zq_ok.i (Z : zq_ok Y X cc nL own nm ret hh) : zq_I (yG Y) (xs X) := Z.2.2.2.2.2.2.2.1
theorem zq_ok.j (Z : zq_ok Y X cc nL own nm ret hh) : zq_J (yS Y) (xs X) := Z.2.2.2.2.2.2.2.2.1
theorem zq_ok.p (Z : zq_ok Y X cc nL own nm ret hh) : zq_P (yG Y) (yS Y) (xs X).heap := Z.2.2.2.2.2.2.2.2.2.1
theorem zq_ok.t (Z : zq_ok Y X cc nL own nm ret hh) : (yl Y).stackTraces = false := Z.2.2.2.2.2.2.2.2.2.2.1
theorem zq_ok.h (Z : zq_ok Y X cc nL own nm ret hh) : (xc X).exceptionTable.toList = tableOf hh := Z.2.2.2.2.2.2.2.2.2.2.2
theorem zq_ok.w (Z : zq_ok Y X cc nL own nm ret hh) {w : Cond} (h : w ∈ zq_T) : w.before (xa X) (xs X) = true := Z.i.1 w h _
theorem zq_ok.ws (Z : zq_ok Y X cc nL own nm ret hh) : ∀ w ∈ zq_T, w.before (xa X) (xs X) = true := fun _ h => Z.w h
theorem zq_Wmono {p : Program} {l : Launch} {e : Env} {R : Room} {s : State} {m : MethodId} {args : Array Value} {below : List Frame} {meth : Method} {c : Code} {H : Heap} {locs : List Loc} {cells slots : Nat} {Q Q' : State → Prop} {g : JFrame} (h : W p l e R s m args below meth c H locs cells slots Q g) (k : ∀ t, Q t → Q' t) : W p l e R s m args below meth c H locs cells slots Q' g := fun T hT X => by
  obtain ⟨t, a, b⟩ := h T hT X
  exact ⟨t, a, k t b⟩
/-- a row that touches neither heap nor locals -/
theorem zq_lift {pc' : Nat} {st' : List Value} (h : ∀ (H : Heap) (locs : List Loc) (ls : Array Slot) (ce sl : Nat), lv_has ls (xc X).maxLocals lo → W (xp X) (yl Y) (xe X) (yR Y) (xs X) (xm X) (xa X) (xb X) (xt X) (xc X) H locs ce sl (zq_Q Y X) (F0 (xm X) pc' ls st') → W (xp X) (yl Y) (xe X) (yR Y) (xs X) (xm X) (xa X) (xb X) (xt X) (xc X) H locs ce sl (zq_Q Y X) (F0 (xm X) pc ls st))
    (k : zq_W Y X pc' lo st' S kc ks) : zq_W Y X pc lo st S kc ks :=
  fun H locs ls ce sl h1 h2 h3 h4 h5 h6 h7 h8 h9 => h H locs ls ce sl h9 (k H locs ls ce sl h1 h2 h3 h4 h5 h6 h7 h8 h9)
theorem zq_wid {kc' ks' : Nat} (h1 : kc ≤ kc') (h2 : ks ≤ ks') (k : zq_W Y X pc lo st S kc' ks') : zq_W Y X pc lo st S kc ks :=
  fun H locs ls ce sl a1 a2 a3 a4 a5 a6 a7 a8 a9 => k H locs ls ce sl a1 a2 a3 a4 a5 a6 (Nat.le_trans a7 h1) (Nat.le_trans a8 h2) a9
theorem zq_sub {lo' : List (Nat × Value)} (ix : List Nat) (h : lv_pick lo ix = lo') (k : zq_W Y X pc lo' st S kc ks) : zq_W Y X pc lo st S kc ks :=
  fun H locs ls ce sl a1 a2 a3 a4 a5 a6 a7 a8 a9 => k H locs ls ce sl a1 a2 a3 a4 a5 a6 a7 a8 (lv_sub a9 ix h)
theorem zq_at {ls : Array Slot} {n i : Nat} {v : Value} (h : lv_has ls n lo) (k : Nat) (e : lo[k]? = some (i, v)) : ls[i]? = some (.val v) := lv_at h k e
end ZQ1
end
section
def zf_iushr (x y : Int32) : Int32 := (x.toUInt32 >>> (y.toUInt32 &&& Int32.toUInt32 31)).toInt32
def zf_lushr (x : Int64) (y : Int32) : Int64 := (x.toUInt64 >>> (y.toInt64.toUInt64 &&& Int64.toUInt64 63)).toInt64
def zf_lshl (x : Int64) (y : Int32) : Int64 := x <<< (y.toInt64 &&& 63)
def zf_lshr (x : Int64) (y : Int32) : Int64 := x >>> (y.toInt64 &&& 63)
section ZQ2
variable {Y : zq_Y} {X : zq_X} {cc : ByteArray} {nL : Nat} {own nm : String} {ret : Option FieldType} {hh : List (Nat × Nat × Nat × Nat)} {pc : Nat} {lo : List (Nat × Value)} {st : List Value} {S : zq_S} {kc ks : Nat}
theorem zq_iconst (Z : zq_ok Y X cc nL own nm ret hh) {n : Int} (v : Int32) (d : decode cc pc = .ok (.iconst n, 1)) (hv : Int32.ofInt n = v) (c : zq_W Y X (pc + 1) lo (.int v :: st) S kc ks) : zq_W Y X pc lo (st) S kc ks := zq_lift (fun _ _ ls _ _ hl => lv_iconst Z.x Z.b d hv) c
theorem zq_bipush (Z : zq_ok Y X cc nL own nm ret hh) {n : Int} (v : Int32) (d : decode cc pc = .ok (.bipush n, 2)) (hv : (Int8.ofInt n).toInt32 = v) (c : zq_W Y X (pc + 2) lo (.int v :: st) S kc ks) : zq_W Y X pc lo (st) S kc ks := zq_lift (fun _ _ ls _ _ hl => lv_bipush Z.x Z.b d hv) c
theorem zq_sipush (Z : zq_ok Y X cc nL own nm ret hh) {n : Int} (v : Int32) (d : decode cc pc = .ok (.sipush n, 3)) (hv : (Int16.ofInt n).toInt32 = v) (c : zq_W Y X (pc + 3) lo (.int v :: st) S kc ks) : zq_W Y X pc lo (st) S kc ks := zq_lift (fun _ _ ls _ _ hl => lv_sipush Z.x Z.b d hv) c
theorem zq_lconst (Z : zq_ok Y X cc nL own nm ret hh) {n : Fin 2} (v : Int64) (d : decode cc pc = .ok (.lconst n, 1)) (hv : Int64.ofNat (n : Nat) = v) (c : zq_W Y X (pc + 1) lo (.long v :: st) S kc ks) : zq_W Y X pc lo (st) S kc ks := zq_lift (fun _ _ ls _ _ hl => lv_lconst Z.x Z.b d hv) c
theorem zq_null (Z : zq_ok Y X cc nL own nm ret hh)  (d : decode cc pc = .ok (.aconst_null, 1))  (c : zq_W Y X (pc + 1) lo (.null :: st) S kc ks) : zq_W Y X pc lo (st) S kc ks := zq_lift (fun _ _ ls _ _ hl => lv_null Z.x Z.b d) c
theorem zq_ldc (Z : zq_ok Y X cc nL own nm ret hh) {ix : Nat} (v : Int32) (d : decode cc pc = .ok (.ldc ix, 2)) (hw : Cond.constant own ix v ∈ zq_T) (c : zq_W Y X (pc + 2) lo (.int v :: st) S kc ks) : zq_W Y X pc lo (st) S kc ks := zq_lift (fun _ _ ls _ _ hl => lv_ldc Z.x Z.b Z.o (Z.w hw) d) c
theorem zq_ldc2 (Z : zq_ok Y X cc nL own nm ret hh) {ix : Nat} (v : Int64) (d : decode cc pc = .ok (.ldc2_w ix, 3)) (hw : Cond.constantLong own ix v ∈ zq_T) (c : zq_W Y X (pc + 3) lo (.long v :: st) S kc ks) : zq_W Y X pc lo (st) S kc ks := zq_lift (fun _ _ ls _ _ hl => lv_ldc2 Z.x Z.b Z.o (Z.w hw) d) c
theorem zq_iload_n (Z : zq_ok Y X cc nL own nm ret hh) {kf : Fin 4} {x : Int32} (d : decode cc pc = .ok (.iload_n kf, 1)) (k : Nat) (hk : lo[k]? = some (kf.val, .int x)) (c : zq_W Y X (pc + 1) lo (.int x :: st) S kc ks) : zq_W Y X pc lo (st) S kc ks := zq_lift (fun _ _ ls _ _ hl => lv_iload_n Z.x Z.b d rfl (lv_at hl k hk)) c
theorem zq_iload (Z : zq_ok Y X cc nL own nm ret hh) {i : Nat} {x : Int32} (d : decode cc pc = .ok (.iload i, 2)) (k : Nat) (hk : lo[k]? = some (i, .int x)) (c : zq_W Y X (pc + 2) lo (.int x :: st) S kc ks) : zq_W Y X pc lo (st) S kc ks := zq_lift (fun _ _ ls _ _ hl => lv_iload Z.x Z.b d (lv_at hl k hk)) c
theorem zq_lload_n (Z : zq_ok Y X cc nL own nm ret hh) {kf : Fin 4} {x : Int64} (d : decode cc pc = .ok (.lload_n kf, 1)) (k : Nat) (hk : lo[k]? = some (kf.val, .long x)) (c : zq_W Y X (pc + 1) lo (.long x :: st) S kc ks) : zq_W Y X pc lo (st) S kc ks := zq_lift (fun _ _ ls _ _ hl => lv_lload_n Z.x Z.b d rfl (lv_at hl k hk)) c
theorem zq_lload (Z : zq_ok Y X cc nL own nm ret hh) {i : Nat} {x : Int64} (d : decode cc pc = .ok (.lload i, 2)) (k : Nat) (hk : lo[k]? = some (i, .long x)) (c : zq_W Y X (pc + 2) lo (.long x :: st) S kc ks) : zq_W Y X pc lo (st) S kc ks := zq_lift (fun _ _ ls _ _ hl => lv_lload Z.x Z.b d (lv_at hl k hk)) c
theorem zq_aload_n (Z : zq_ok Y X cc nL own nm ret hh) {kf : Fin 4} {x : Nat} (d : decode cc pc = .ok (.aload_n kf, 1)) (k : Nat) (hk : lo[k]? = some (kf.val, .ref x)) (c : zq_W Y X (pc + 1) lo (.ref x :: st) S kc ks) : zq_W Y X pc lo (st) S kc ks := zq_lift (fun _ _ ls _ _ hl => lv_aload_n Z.x Z.b d rfl (lv_at hl k hk)) c
theorem zq_aload (Z : zq_ok Y X cc nL own nm ret hh) {i : Nat} {x : Nat} (d : decode cc pc = .ok (.aload i, 2)) (k : Nat) (hk : lo[k]? = some (i, .ref x)) (c : zq_W Y X (pc + 2) lo (.ref x :: st) S kc ks) : zq_W Y X pc lo (st) S kc ks := zq_lift (fun _ _ ls _ _ hl => lv_aload Z.x Z.b d (lv_at hl k hk)) c
theorem zq_aload_nQ (Z : zq_ok Y X cc nL own nm ret hh) {kf : Fin 4} {x : Option Nat} (d : decode cc pc = .ok (.aload_n kf, 1)) (k : Nat) (hk : lo[k]? = some (kf.val, va_rf x)) (c : zq_W Y X (pc + 1) lo (va_rf x :: st) S kc ks) : zq_W Y X pc lo st S kc ks := by
  cases x with
  | none => exact zq_lift (fun _ _ ls _ _ hl => lv_aload_nN Z.x Z.b d rfl (lv_at hl k hk)) c
  | some x => exact zq_lift (fun _ _ ls _ _ hl => lv_aload_n Z.x Z.b d rfl (lv_at hl k hk)) c
theorem zq_aloadQ (Z : zq_ok Y X cc nL own nm ret hh) {i : Nat} {x : Option Nat} (d : decode cc pc = .ok (.aload i, 2)) (k : Nat) (hk : lo[k]? = some (i, va_rf x)) (c : zq_W Y X (pc + 2) lo (va_rf x :: st) S kc ks) : zq_W Y X pc lo st S kc ks := by
  cases x with
  | none => exact zq_lift (fun _ _ ls _ _ hl => lv_aloadN Z.x Z.b d (lv_at hl k hk)) c
  | some x => exact zq_lift (fun _ _ ls _ _ hl => lv_aload Z.x Z.b d (lv_at hl k hk)) c
theorem zq_iadd (Z : zq_ok Y X cc nL own nm ret hh) {x y : Int32} (d : decode cc pc = .ok (.iadd, 1))  (c : zq_W Y X (pc + 1) lo (.int (x + y) :: st) S kc ks) : zq_W Y X pc lo (.int y :: .int x :: st) S kc ks := zq_lift (fun _ _ ls _ _ hl => lv_iadd Z.x Z.b d) c
theorem zq_isub (Z : zq_ok Y X cc nL own nm ret hh) {x y : Int32} (d : decode cc pc = .ok (.isub, 1))  (c : zq_W Y X (pc + 1) lo (.int (x - y) :: st) S kc ks) : zq_W Y X pc lo (.int y :: .int x :: st) S kc ks := zq_lift (fun _ _ ls _ _ hl => lv_isub Z.x Z.b d) c
theorem zq_imul (Z : zq_ok Y X cc nL own nm ret hh) {x y : Int32} (d : decode cc pc = .ok (.imul, 1))  (c : zq_W Y X (pc + 1) lo (.int (x * y) :: st) S kc ks) : zq_W Y X pc lo (.int y :: .int x :: st) S kc ks := zq_lift (fun _ _ ls _ _ hl => lv_imul Z.x Z.b d) c
theorem zq_iand (Z : zq_ok Y X cc nL own nm ret hh) {x y : Int32} (d : decode cc pc = .ok (.iand, 1))  (c : zq_W Y X (pc + 1) lo (.int (x &&& y) :: st) S kc ks) : zq_W Y X pc lo (.int y :: .int x :: st) S kc ks := zq_lift (fun _ _ ls _ _ hl => lv_iand Z.x Z.b d) c
theorem zq_ior (Z : zq_ok Y X cc nL own nm ret hh) {x y : Int32} (d : decode cc pc = .ok (.ior, 1))  (c : zq_W Y X (pc + 1) lo (.int (x ||| y) :: st) S kc ks) : zq_W Y X pc lo (.int y :: .int x :: st) S kc ks := zq_lift (fun _ _ ls _ _ hl => lv_ior Z.x Z.b d) c
theorem zq_ixor (Z : zq_ok Y X cc nL own nm ret hh) {x y : Int32} (d : decode cc pc = .ok (.ixor, 1))  (c : zq_W Y X (pc + 1) lo (.int (x ^^^ y) :: st) S kc ks) : zq_W Y X pc lo (.int y :: .int x :: st) S kc ks := zq_lift (fun _ _ ls _ _ hl => lv_ixor Z.x Z.b d) c
theorem zq_ishl (Z : zq_ok Y X cc nL own nm ret hh) {x y : Int32} (d : decode cc pc = .ok (.ishl, 1))  (c : zq_W Y X (pc + 1) lo (.int (x <<< (y &&& 31)) :: st) S kc ks) : zq_W Y X pc lo (.int y :: .int x :: st) S kc ks := zq_lift (fun _ _ ls _ _ hl => lv_ishl Z.x Z.b d) c
theorem zq_ishr (Z : zq_ok Y X cc nL own nm ret hh) {x y : Int32} (d : decode cc pc = .ok (.ishr, 1))  (c : zq_W Y X (pc + 1) lo (.int (x >>> (y &&& 31)) :: st) S kc ks) : zq_W Y X pc lo (.int y :: .int x :: st) S kc ks := zq_lift (fun _ _ ls _ _ hl => lv_ishr Z.x Z.b d) c
theorem zq_ineg (Z : zq_ok Y X cc nL own nm ret hh) {x : Int32} (d : decode cc pc = .ok (.ineg, 1))  (c : zq_W Y X (pc + 1) lo (.int (-x) :: st) S kc ks) : zq_W Y X pc lo (.int x :: st) S kc ks := zq_lift (fun _ _ ls _ _ hl => lv_ineg Z.x Z.b d) c
theorem zq_idiv (Z : zq_ok Y X cc nL own nm ret hh) {x y : Int32} (d : decode cc pc = .ok (.idiv, 1)) (hne : ¬ y = 0) (c : zq_W Y X (pc + 1) lo (.int (x / y) :: st) S kc ks) : zq_W Y X pc lo (.int y :: .int x :: st) S kc ks := zq_lift (fun _ _ ls _ _ hl => lv_idiv Z.x Z.b d hne) c
theorem zq_irem (Z : zq_ok Y X cc nL own nm ret hh) {x y : Int32} (d : decode cc pc = .ok (.irem, 1)) (hne : ¬ y = 0) (c : zq_W Y X (pc + 1) lo (.int (x - x / y * y) :: st) S kc ks) : zq_W Y X pc lo (.int y :: .int x :: st) S kc ks := zq_lift (fun _ _ ls _ _ hl => lv_irem Z.x Z.b d hne) c
theorem zq_ladd (Z : zq_ok Y X cc nL own nm ret hh) {x y : Int64} (d : decode cc pc = .ok (.ladd, 1))  (c : zq_W Y X (pc + 1) lo (.long (x + y) :: st) S kc ks) : zq_W Y X pc lo (.long y :: .long x :: st) S kc ks := zq_lift (fun _ _ ls _ _ hl => lv_ladd Z.x Z.b d) c
theorem zq_lsub (Z : zq_ok Y X cc nL own nm ret hh) {x y : Int64} (d : decode cc pc = .ok (.lsub, 1))  (c : zq_W Y X (pc + 1) lo (.long (x - y) :: st) S kc ks) : zq_W Y X pc lo (.long y :: .long x :: st) S kc ks := zq_lift (fun _ _ ls _ _ hl => lv_lsub Z.x Z.b d) c
theorem zq_lmul (Z : zq_ok Y X cc nL own nm ret hh) {x y : Int64} (d : decode cc pc = .ok (.lmul, 1))  (c : zq_W Y X (pc + 1) lo (.long (x * y) :: st) S kc ks) : zq_W Y X pc lo (.long y :: .long x :: st) S kc ks := zq_lift (fun _ _ ls _ _ hl => lv_lmul Z.x Z.b d) c
theorem zq_land (Z : zq_ok Y X cc nL own nm ret hh) {x y : Int64} (d : decode cc pc = .ok (.land, 1))  (c : zq_W Y X (pc + 1) lo (.long (x &&& y) :: st) S kc ks) : zq_W Y X pc lo (.long y :: .long x :: st) S kc ks := zq_lift (fun _ _ ls _ _ hl => lv_land Z.x Z.b d) c
theorem zq_lor (Z : zq_ok Y X cc nL own nm ret hh) {x y : Int64} (d : decode cc pc = .ok (.lor, 1))  (c : zq_W Y X (pc + 1) lo (.long (x ||| y) :: st) S kc ks) : zq_W Y X pc lo (.long y :: .long x :: st) S kc ks := zq_lift (fun _ _ ls _ _ hl => lv_lor Z.x Z.b d) c
theorem zq_lxor (Z : zq_ok Y X cc nL own nm ret hh) {x y : Int64} (d : decode cc pc = .ok (.lxor, 1))  (c : zq_W Y X (pc + 1) lo (.long (x ^^^ y) :: st) S kc ks) : zq_W Y X pc lo (.long y :: .long x :: st) S kc ks := zq_lift (fun _ _ ls _ _ hl => lv_lxor Z.x Z.b d) c
theorem zq_iushr (Z : zq_ok Y X cc nL own nm ret hh) {x y : Int32} (d : decode cc pc = .ok (.iushr, 1))  (c : zq_W Y X (pc + 1) lo (.int (zf_iushr x y) :: st) S kc ks) : zq_W Y X pc lo (.int y :: .int x :: st) S kc ks := zq_lift (fun _ _ ls _ _ hl => lv_iushr Z.x Z.b d rfl) c
theorem zq_lushr (Z : zq_ok Y X cc nL own nm ret hh) {x : Int64} {y : Int32} (d : decode cc pc = .ok (.lushr, 1))  (c : zq_W Y X (pc + 1) lo (.long (zf_lushr x y) :: st) S kc ks) : zq_W Y X pc lo (.int y :: .long x :: st) S kc ks := zq_lift (fun _ _ ls _ _ hl => lv_lushr Z.x Z.b d rfl) c
theorem zq_lshl (Z : zq_ok Y X cc nL own nm ret hh) {x : Int64} {y : Int32} (d : decode cc pc = .ok (.lshl, 1))  (c : zq_W Y X (pc + 1) lo (.long (zf_lshl x y) :: st) S kc ks) : zq_W Y X pc lo (.int y :: .long x :: st) S kc ks := zq_lift (fun _ _ ls _ _ hl => lv_lshl Z.x Z.b d rfl) c
theorem zq_lshr (Z : zq_ok Y X cc nL own nm ret hh) {x : Int64} {y : Int32} (d : decode cc pc = .ok (.lshr, 1))  (c : zq_W Y X (pc + 1) lo (.long (zf_lshr x y) :: st) S kc ks) : zq_W Y X pc lo (.int y :: .long x :: st) S kc ks := zq_lift (fun _ _ ls _ _ hl => lv_lshr Z.x Z.b d rfl) c
theorem zq_i2l (Z : zq_ok Y X cc nL own nm ret hh) {x : Int32} (d : decode cc pc = .ok (.i2l, 1))  (c : zq_W Y X (pc + 1) lo (.long x.toInt64 :: st) S kc ks) : zq_W Y X pc lo (.int x :: st) S kc ks := zq_lift (fun _ _ ls _ _ hl => lv_i2l Z.x Z.b d rfl) c
theorem zq_l2i (Z : zq_ok Y X cc nL own nm ret hh) {x : Int64} (d : decode cc pc = .ok (.l2i, 1))  (c : zq_W Y X (pc + 1) lo (.int x.toInt32 :: st) S kc ks) : zq_W Y X pc lo (.long x :: st) S kc ks := zq_lift (fun _ _ ls _ _ hl => lv_l2i Z.x Z.b d rfl) c
theorem zq_i2b (Z : zq_ok Y X cc nL own nm ret hh) {x : Int32} (d : decode cc pc = .ok (.i2b, 1))  (c : zq_W Y X (pc + 1) lo (.int x.toInt8.toInt32 :: st) S kc ks) : zq_W Y X pc lo (.int x :: st) S kc ks := zq_lift (fun _ _ ls _ _ hl => lv_i2b Z.x Z.b d rfl) c
theorem zq_lcmp (Z : zq_ok Y X cc nL own nm ret hh) {x y : Int64} (d : decode cc pc = .ok (.lcmp, 1))  (c : zq_W Y X (pc + 1) lo (.int (lg_cmp x y) :: st) S kc ks) : zq_W Y X pc lo (.long y :: .long x :: st) S kc ks := zq_lift (fun _ _ ls _ _ hl => W.lcmp Z.x Z.b d) c
theorem zq_dup (Z : zq_ok Y X cc nL own nm ret hh) {v : Value} (d : decode cc pc = .ok (.dup, 1)) (h : v.category = 1) (c : zq_W Y X (pc + 1) lo (v :: v :: st) S kc ks) : zq_W Y X pc lo (v :: st) S kc ks := zq_lift (fun _ _ ls _ _ hl => lv_dup Z.x Z.b d h) c
theorem zq_pop (Z : zq_ok Y X cc nL own nm ret hh) {v : Value} (d : decode cc pc = .ok (.pop, 1)) (h : v.category = 1) (c : zq_W Y X (pc + 1) lo (st) S kc ks) : zq_W Y X pc lo (v :: st) S kc ks := zq_lift (fun _ _ ls _ _ hl => lv_pop Z.x Z.b d h) c
theorem zq_pop2L (Z : zq_ok Y X cc nL own nm ret hh) {v : Value} (d : decode cc pc = .ok (.pop2, 1)) (h : v.category = 2) (c : zq_W Y X (pc + 1) lo (st) S kc ks) : zq_W Y X pc lo (v :: st) S kc ks := zq_lift (fun _ _ ls _ _ hl => lv_pop2_2 Z.x Z.b d h) c
theorem zq_dup_x1 (Z : zq_ok Y X cc nL own nm ret hh) {v w : Value} (d : decode cc pc = .ok (.dup_x1, 1)) (h : v.category = 1) (h2 : w.category = 1) (c : zq_W Y X (pc + 1) lo (v :: w :: v :: st) S kc ks) : zq_W Y X pc lo (v :: w :: st) S kc ks := zq_lift (fun _ _ ls _ _ hl => lv_dup_x1 Z.x Z.b d h h2) c
theorem zq_dup_x2 (Z : zq_ok Y X cc nL own nm ret hh) {v w u : Value} (d : decode cc pc = .ok (.dup_x2, 1)) (h : v.category = 1) (h2 : w.category = 1) (h3 : u.category = 1) (c : zq_W Y X (pc + 1) lo (v :: w :: u :: v :: st) S kc ks) : zq_W Y X pc lo (v :: w :: u :: st) S kc ks := zq_lift (fun _ _ ls _ _ hl => lv_dup_x2 Z.x Z.b d h h2 h3) c
theorem zq_dup2 (Z : zq_ok Y X cc nL own nm ret hh) {v w : Value} (d : decode cc pc = .ok (.dup2, 1)) (h : v.category = 1) (h2 : w.category = 1) (c : zq_W Y X (pc + 1) lo (v :: w :: v :: w :: st) S kc ks) : zq_W Y X pc lo (v :: w :: st) S kc ks := zq_lift (fun _ _ ls _ _ hl => lv_dup2_11 Z.x Z.b d h h2) c
theorem zq_dup2L (Z : zq_ok Y X cc nL own nm ret hh) {v : Value} (d : decode cc pc = .ok (.dup2, 1)) (h : v.category = 2) (c : zq_W Y X (pc + 1) lo (v :: v :: st) S kc ks) : zq_W Y X pc lo (v :: st) S kc ks := zq_lift (fun _ _ ls _ _ hl => lv_dup2_2 Z.x Z.b d h) c
theorem zq_istore (Z : zq_ok Y X cc nL own nm ret hh) {i : Nat} {x : Int32} (lo' : List (Nat × Value)) (d : decode cc pc = .ok (.istore i, 2)) (hn : i < nL) (hl : (i, Value.int x) :: lo.filter (fun q => !(q.1 == i) && !(q.1 + 1 == i && q.2.category == 2)) = lo') (c : zq_W Y X (pc + 2) lo' st S kc ks) : zq_W Y X pc lo (Value.int x :: st) S kc ks :=
  fun H locs ls ce sl a1 a2 a3 a4 a5 a6 a7 a8 a9 => lv_istore Z.x Z.b d a9 (by rw [Z.l]; exact hn) hl (fun ls hl => c H locs ls ce sl a1 a2 a3 a4 a5 a6 a7 a8 hl)
theorem zq_lstore (Z : zq_ok Y X cc nL own nm ret hh) {i : Nat} {x : Int64} (lo' : List (Nat × Value)) (d : decode cc pc = .ok (.lstore i, 2)) (hn : i + 1 < nL) (hl : (i, Value.long x) :: lo.filter (fun q => !(q.1 == i) && (!(q.1 == i + 1) && !(q.1 + 1 == i && q.2.category == 2))) = lo') (c : zq_W Y X (pc + 2) lo' st S kc ks) : zq_W Y X pc lo (Value.long x :: st) S kc ks :=
  fun H locs ls ce sl a1 a2 a3 a4 a5 a6 a7 a8 a9 => lv_lstore Z.x Z.b d a9 (by rw [Z.l]; exact hn) hl (fun ls hl => c H locs ls ce sl a1 a2 a3 a4 a5 a6 a7 a8 hl)
theorem zq_astore (Z : zq_ok Y X cc nL own nm ret hh) {i : Nat} {x : Nat} (lo' : List (Nat × Value)) (d : decode cc pc = .ok (.astore i, 2)) (hn : i < nL) (hl : (i, Value.ref x) :: lo.filter (fun q => !(q.1 == i) && !(q.1 + 1 == i && q.2.category == 2)) = lo') (c : zq_W Y X (pc + 2) lo' st S kc ks) : zq_W Y X pc lo (Value.ref x :: st) S kc ks :=
  fun H locs ls ce sl a1 a2 a3 a4 a5 a6 a7 a8 a9 => lv_astore Z.x Z.b d a9 (by rw [Z.l]; exact hn) hl (fun ls hl => c H locs ls ce sl a1 a2 a3 a4 a5 a6 a7 a8 hl)
theorem zq_istore_n (Z : zq_ok Y X cc nL own nm ret hh) {kf : Fin 4} {i : Nat} {x : Int32} (hi : (kf : Nat) = i) (lo' : List (Nat × Value)) (d : decode cc pc = .ok (.istore_n kf, 1)) (hn : i < nL) (hl : (i, Value.int x) :: lo.filter (fun q => !(q.1 == i) && !(q.1 + 1 == i && q.2.category == 2)) = lo') (c : zq_W Y X (pc + 1) lo' st S kc ks) : zq_W Y X pc lo (Value.int x :: st) S kc ks :=
  fun H locs ls ce sl a1 a2 a3 a4 a5 a6 a7 a8 a9 => lv_istore_n Z.x Z.b d hi a9 (by rw [Z.l]; exact hn) hl (fun ls hl => c H locs ls ce sl a1 a2 a3 a4 a5 a6 a7 a8 hl)
theorem zq_lstore_n (Z : zq_ok Y X cc nL own nm ret hh) {kf : Fin 4} {i : Nat} {x : Int64} (hi : (kf : Nat) = i) (lo' : List (Nat × Value)) (d : decode cc pc = .ok (.lstore_n kf, 1)) (hn : i + 1 < nL) (hl : (i, Value.long x) :: lo.filter (fun q => !(q.1 == i) && (!(q.1 == i + 1) && !(q.1 + 1 == i && q.2.category == 2))) = lo') (c : zq_W Y X (pc + 1) lo' st S kc ks) : zq_W Y X pc lo (Value.long x :: st) S kc ks :=
  fun H locs ls ce sl a1 a2 a3 a4 a5 a6 a7 a8 a9 => lv_lstore_n Z.x Z.b d hi a9 (by rw [Z.l]; exact hn) hl (fun ls hl => c H locs ls ce sl a1 a2 a3 a4 a5 a6 a7 a8 hl)
theorem zq_astore_n (Z : zq_ok Y X cc nL own nm ret hh) {kf : Fin 4} {i : Nat} {x : Nat} (hi : (kf : Nat) = i) (lo' : List (Nat × Value)) (d : decode cc pc = .ok (.astore_n kf, 1)) (hn : i < nL) (hl : (i, Value.ref x) :: lo.filter (fun q => !(q.1 == i) && !(q.1 + 1 == i && q.2.category == 2)) = lo') (c : zq_W Y X (pc + 1) lo' st S kc ks) : zq_W Y X pc lo (Value.ref x :: st) S kc ks :=
  fun H locs ls ce sl a1 a2 a3 a4 a5 a6 a7 a8 a9 => lv_astore_n Z.x Z.b d hi a9 (by rw [Z.l]; exact hn) hl (fun ls hl => c H locs ls ce sl a1 a2 a3 a4 a5 a6 a7 a8 hl)
theorem zq_astoreQ (Z : zq_ok Y X cc nL own nm ret hh) {i : Nat} {x : Option Nat}  (lo' : List (Nat × Value)) (d : decode cc pc = .ok (.astore i, 2)) (hn : i < nL) (hl : (i, va_rf x) :: lo.filter (fun q => !(q.1 == i) && !(q.1 + 1 == i && q.2.category == 2)) = lo') (c : zq_W Y X (pc + 2) lo' st S kc ks) : zq_W Y X pc lo (va_rf x :: st) S kc ks := by
  cases x with
  | none => exact fun H locs ls ce sl a1 a2 a3 a4 a5 a6 a7 a8 a9 => lv_astoreN Z.x Z.b d a9 (by rw [Z.l]; exact hn) hl (fun ls hl => c H locs ls ce sl a1 a2 a3 a4 a5 a6 a7 a8 hl)
  | some x => exact fun H locs ls ce sl a1 a2 a3 a4 a5 a6 a7 a8 a9 => lv_astore Z.x Z.b d a9 (by rw [Z.l]; exact hn) hl (fun ls hl => c H locs ls ce sl a1 a2 a3 a4 a5 a6 a7 a8 hl)
theorem zq_astore_nQ (Z : zq_ok Y X cc nL own nm ret hh) {kf : Fin 4} {i : Nat} {x : Option Nat} (hi : (kf : Nat) = i) (lo' : List (Nat × Value)) (d : decode cc pc = .ok (.astore_n kf, 1)) (hn : i < nL) (hl : (i, va_rf x) :: lo.filter (fun q => !(q.1 == i) && !(q.1 + 1 == i && q.2.category == 2)) = lo') (c : zq_W Y X (pc + 1) lo' st S kc ks) : zq_W Y X pc lo (va_rf x :: st) S kc ks := by
  cases x with
  | none => exact fun H locs ls ce sl a1 a2 a3 a4 a5 a6 a7 a8 a9 => lv_astore_nN Z.x Z.b d hi a9 (by rw [Z.l]; exact hn) hl (fun ls hl => c H locs ls ce sl a1 a2 a3 a4 a5 a6 a7 a8 hl)
  | some x => exact fun H locs ls ce sl a1 a2 a3 a4 a5 a6 a7 a8 a9 => lv_astore_n Z.x Z.b d hi a9 (by rw [Z.l]; exact hn) hl (fun ls hl => c H locs ls ce sl a1 a2 a3 a4 a5 a6 a7 a8 hl)
theorem zq_iinc (Z : zq_ok Y X cc nL own nm ret hh) {i : Nat} {n : Int} {x : Int32} (v : Int32) (lo' : List (Nat × Value)) (d : decode cc pc = .ok (.iinc i n, 3)) (k : Nat) (hk : lo[k]? = some (i, .int x)) (hv : x + Int32.ofInt n = v) (hn : i < nL) (hl : (i, Value.int v) :: lo.filter (fun q => !(q.1 == i) && !(q.1 + 1 == i && q.2.category == 2)) = lo') (c : zq_W Y X (pc + 3) lo' st S kc ks) : zq_W Y X pc lo st S kc ks :=
  fun H locs ls ce sl a1 a2 a3 a4 a5 a6 a7 a8 a9 => lv_iinc Z.x Z.b d a9 hk hv (by rw [Z.l]; exact hn) hl (fun ls hl => c H locs ls ce sl a1 a2 a3 a4 a5 a6 a7 a8 hl)
theorem zq_if_eq (Z : zq_ok Y X cc nL own nm ret hh) {x : Int32} {off : Int} (tgt : Nat) (d : decode cc pc = .ok (.ifCond .eq off, 3)) (ht : (pc : Int) + off = (tgt : Int)) (kt : x = 0 → zq_W Y X tgt lo st S kc ks) (kf : ¬ x = 0 → zq_W Y X (pc + 3) lo st S kc ks) : zq_W Y X pc lo (.int x :: st) S kc ks :=
  fun H locs ls ce sl a1 a2 a3 a4 a5 a6 a7 a8 a9 => lv_if_eq Z.x Z.b d ht (fun q => kt q H locs ls ce sl a1 a2 a3 a4 a5 a6 a7 a8 a9) (fun q => kf q H locs ls ce sl a1 a2 a3 a4 a5 a6 a7 a8 a9)
theorem zq_if_ne (Z : zq_ok Y X cc nL own nm ret hh) {x : Int32} {off : Int} (tgt : Nat) (d : decode cc pc = .ok (.ifCond .ne off, 3)) (ht : (pc : Int) + off = (tgt : Int)) (kt : ¬ x = 0 → zq_W Y X tgt lo st S kc ks) (kf : x = 0 → zq_W Y X (pc + 3) lo st S kc ks) : zq_W Y X pc lo (.int x :: st) S kc ks :=
  fun H locs ls ce sl a1 a2 a3 a4 a5 a6 a7 a8 a9 => lv_if_ne Z.x Z.b d ht (fun q => kt q H locs ls ce sl a1 a2 a3 a4 a5 a6 a7 a8 a9) (fun q => kf q H locs ls ce sl a1 a2 a3 a4 a5 a6 a7 a8 a9)
theorem zq_if_lt (Z : zq_ok Y X cc nL own nm ret hh) {x : Int32} {off : Int} (tgt : Nat) (d : decode cc pc = .ok (.ifCond .lt off, 3)) (ht : (pc : Int) + off = (tgt : Int)) (kt : x < 0 → zq_W Y X tgt lo st S kc ks) (kf : ¬ x < 0 → zq_W Y X (pc + 3) lo st S kc ks) : zq_W Y X pc lo (.int x :: st) S kc ks :=
  fun H locs ls ce sl a1 a2 a3 a4 a5 a6 a7 a8 a9 => lv_if_lt Z.x Z.b d ht (fun q => kt q H locs ls ce sl a1 a2 a3 a4 a5 a6 a7 a8 a9) (fun q => kf q H locs ls ce sl a1 a2 a3 a4 a5 a6 a7 a8 a9)
theorem zq_if_ge (Z : zq_ok Y X cc nL own nm ret hh) {x : Int32} {off : Int} (tgt : Nat) (d : decode cc pc = .ok (.ifCond .ge off, 3)) (ht : (pc : Int) + off = (tgt : Int)) (kt : 0 ≤ x → zq_W Y X tgt lo st S kc ks) (kf : ¬ 0 ≤ x → zq_W Y X (pc + 3) lo st S kc ks) : zq_W Y X pc lo (.int x :: st) S kc ks :=
  fun H locs ls ce sl a1 a2 a3 a4 a5 a6 a7 a8 a9 => lv_if_ge Z.x Z.b d ht (fun q => kt q H locs ls ce sl a1 a2 a3 a4 a5 a6 a7 a8 a9) (fun q => kf q H locs ls ce sl a1 a2 a3 a4 a5 a6 a7 a8 a9)
theorem zq_if_gt (Z : zq_ok Y X cc nL own nm ret hh) {x : Int32} {off : Int} (tgt : Nat) (d : decode cc pc = .ok (.ifCond .gt off, 3)) (ht : (pc : Int) + off = (tgt : Int)) (kt : 0 < x → zq_W Y X tgt lo st S kc ks) (kf : ¬ 0 < x → zq_W Y X (pc + 3) lo st S kc ks) : zq_W Y X pc lo (.int x :: st) S kc ks :=
  fun H locs ls ce sl a1 a2 a3 a4 a5 a6 a7 a8 a9 => lv_if_gt Z.x Z.b d ht (fun q => kt q H locs ls ce sl a1 a2 a3 a4 a5 a6 a7 a8 a9) (fun q => kf q H locs ls ce sl a1 a2 a3 a4 a5 a6 a7 a8 a9)
theorem zq_if_le (Z : zq_ok Y X cc nL own nm ret hh) {x : Int32} {off : Int} (tgt : Nat) (d : decode cc pc = .ok (.ifCond .le off, 3)) (ht : (pc : Int) + off = (tgt : Int)) (kt : x ≤ 0 → zq_W Y X tgt lo st S kc ks) (kf : ¬ x ≤ 0 → zq_W Y X (pc + 3) lo st S kc ks) : zq_W Y X pc lo (.int x :: st) S kc ks :=
  fun H locs ls ce sl a1 a2 a3 a4 a5 a6 a7 a8 a9 => lv_if_le Z.x Z.b d ht (fun q => kt q H locs ls ce sl a1 a2 a3 a4 a5 a6 a7 a8 a9) (fun q => kf q H locs ls ce sl a1 a2 a3 a4 a5 a6 a7 a8 a9)
theorem zq_icmp_eq (Z : zq_ok Y X cc nL own nm ret hh) {x y : Int32} {off : Int} (tgt : Nat) (d : decode cc pc = .ok (.if_icmp .eq off, 3)) (ht : (pc : Int) + off = (tgt : Int)) (kt : x = y → zq_W Y X tgt lo st S kc ks) (kf : ¬ x = y → zq_W Y X (pc + 3) lo st S kc ks) : zq_W Y X pc lo (.int y :: .int x :: st) S kc ks :=
  fun H locs ls ce sl a1 a2 a3 a4 a5 a6 a7 a8 a9 => lv_icmp_eq Z.x Z.b d ht (fun q => kt q H locs ls ce sl a1 a2 a3 a4 a5 a6 a7 a8 a9) (fun q => kf q H locs ls ce sl a1 a2 a3 a4 a5 a6 a7 a8 a9)
theorem zq_icmp_ne (Z : zq_ok Y X cc nL own nm ret hh) {x y : Int32} {off : Int} (tgt : Nat) (d : decode cc pc = .ok (.if_icmp .ne off, 3)) (ht : (pc : Int) + off = (tgt : Int)) (kt : ¬ x = y → zq_W Y X tgt lo st S kc ks) (kf : x = y → zq_W Y X (pc + 3) lo st S kc ks) : zq_W Y X pc lo (.int y :: .int x :: st) S kc ks :=
  fun H locs ls ce sl a1 a2 a3 a4 a5 a6 a7 a8 a9 => lv_icmp_ne Z.x Z.b d ht (fun q => kt q H locs ls ce sl a1 a2 a3 a4 a5 a6 a7 a8 a9) (fun q => kf q H locs ls ce sl a1 a2 a3 a4 a5 a6 a7 a8 a9)
theorem zq_icmp_lt (Z : zq_ok Y X cc nL own nm ret hh) {x y : Int32} {off : Int} (tgt : Nat) (d : decode cc pc = .ok (.if_icmp .lt off, 3)) (ht : (pc : Int) + off = (tgt : Int)) (kt : x < y → zq_W Y X tgt lo st S kc ks) (kf : ¬ x < y → zq_W Y X (pc + 3) lo st S kc ks) : zq_W Y X pc lo (.int y :: .int x :: st) S kc ks :=
  fun H locs ls ce sl a1 a2 a3 a4 a5 a6 a7 a8 a9 => lv_icmp_lt Z.x Z.b d ht (fun q => kt q H locs ls ce sl a1 a2 a3 a4 a5 a6 a7 a8 a9) (fun q => kf q H locs ls ce sl a1 a2 a3 a4 a5 a6 a7 a8 a9)
theorem zq_icmp_ge (Z : zq_ok Y X cc nL own nm ret hh) {x y : Int32} {off : Int} (tgt : Nat) (d : decode cc pc = .ok (.if_icmp .ge off, 3)) (ht : (pc : Int) + off = (tgt : Int)) (kt : y ≤ x → zq_W Y X tgt lo st S kc ks) (kf : ¬ y ≤ x → zq_W Y X (pc + 3) lo st S kc ks) : zq_W Y X pc lo (.int y :: .int x :: st) S kc ks :=
  fun H locs ls ce sl a1 a2 a3 a4 a5 a6 a7 a8 a9 => lv_icmp_ge Z.x Z.b d ht (fun q => kt q H locs ls ce sl a1 a2 a3 a4 a5 a6 a7 a8 a9) (fun q => kf q H locs ls ce sl a1 a2 a3 a4 a5 a6 a7 a8 a9)
theorem zq_icmp_gt (Z : zq_ok Y X cc nL own nm ret hh) {x y : Int32} {off : Int} (tgt : Nat) (d : decode cc pc = .ok (.if_icmp .gt off, 3)) (ht : (pc : Int) + off = (tgt : Int)) (kt : y < x → zq_W Y X tgt lo st S kc ks) (kf : ¬ y < x → zq_W Y X (pc + 3) lo st S kc ks) : zq_W Y X pc lo (.int y :: .int x :: st) S kc ks :=
  fun H locs ls ce sl a1 a2 a3 a4 a5 a6 a7 a8 a9 => lv_icmp_gt Z.x Z.b d ht (fun q => kt q H locs ls ce sl a1 a2 a3 a4 a5 a6 a7 a8 a9) (fun q => kf q H locs ls ce sl a1 a2 a3 a4 a5 a6 a7 a8 a9)
theorem zq_icmp_le (Z : zq_ok Y X cc nL own nm ret hh) {x y : Int32} {off : Int} (tgt : Nat) (d : decode cc pc = .ok (.if_icmp .le off, 3)) (ht : (pc : Int) + off = (tgt : Int)) (kt : x ≤ y → zq_W Y X tgt lo st S kc ks) (kf : ¬ x ≤ y → zq_W Y X (pc + 3) lo st S kc ks) : zq_W Y X pc lo (.int y :: .int x :: st) S kc ks :=
  fun H locs ls ce sl a1 a2 a3 a4 a5 a6 a7 a8 a9 => lv_icmp_le Z.x Z.b d ht (fun q => kt q H locs ls ce sl a1 a2 a3 a4 a5 a6 a7 a8 a9) (fun q => kf q H locs ls ce sl a1 a2 a3 a4 a5 a6 a7 a8 a9)
theorem zq_goto (Z : zq_ok Y X cc nL own nm ret hh) {off : Int} (tgt : Nat) (d : decode cc pc = .ok (.goto off, 3)) (ht : (pc : Int) + off = (tgt : Int)) (c : zq_W Y X tgt lo st S kc ks) : zq_W Y X pc lo st S kc ks := zq_lift (fun _ _ _ _ _ _ => lv_goto Z.x Z.b d ht) c
theorem zq_ifnull (Z : zq_ok Y X cc nL own nm ret hh) {x : Option Nat} {off : Int} (tgt : Nat) (d : decode cc pc = .ok (.ifnull off, 3)) (ht : (pc : Int) + off = (tgt : Int)) (kt : x = none → zq_W Y X tgt lo st S kc ks) (kf : ¬ x = none → zq_W Y X (pc + 3) lo st S kc ks) : zq_W Y X pc lo (va_rf x :: st) S kc ks := by
  cases x with
  | none => exact zq_lift (fun _ _ _ _ _ _ => lv_ifnullN Z.x Z.b d ht) (kt rfl)
  | some x => exact zq_lift (fun _ _ _ _ _ _ => lv_ifnull Z.x Z.b d) (kf (by simp))
theorem zq_ifnonnull (Z : zq_ok Y X cc nL own nm ret hh) {x : Option Nat} {off : Int} (tgt : Nat) (d : decode cc pc = .ok (.ifnonnull off, 3)) (ht : (pc : Int) + off = (tgt : Int)) (kt : ¬ x = none → zq_W Y X tgt lo st S kc ks) (kf : x = none → zq_W Y X (pc + 3) lo st S kc ks) : zq_W Y X pc lo (va_rf x :: st) S kc ks := by
  cases x with
  | none => exact zq_lift (fun _ _ _ _ _ _ => lv_ifnonnullN Z.x Z.b d) (kf rfl)
  | some x => exact zq_lift (fun _ _ _ _ _ _ => lv_ifnonnull Z.x Z.b d ht) (kt (by simp))
theorem zq_tabOut (Z : zq_ok Y X cc nL own nm ret hh) {dflt lw hi : Int} {offs : Array Int} {len : Nat} {x : Int32} (tgt : Nat) (d : decode cc pc = .ok (.tableswitch dflt lw hi offs, len)) (h : x.toInt < lw ∨ hi < x.toInt) (ht : (pc : Int) + dflt = (tgt : Int)) (c : zq_W Y X tgt lo st S kc ks) : zq_W Y X pc lo (.int x :: st) S kc ks := zq_lift (fun _ _ _ _ _ _ => lv_tableOut Z.x Z.b d h ht) c
theorem zq_tabIn (Z : zq_ok Y X cc nL own nm ret hh) {dflt lw hi : Int} {offs : Array Int} {len : Nat} {x : Int32} {off : Int} (tgt : Nat) (d : decode cc pc = .ok (.tableswitch dflt lw hi offs, len)) (h1 : ¬ x.toInt < lw) (h2 : ¬ hi < x.toInt) (ho : offs[(x.toInt - lw).toNat]? = some off) (ht : (pc : Int) + off = (tgt : Int)) (c : zq_W Y X tgt lo st S kc ks) : zq_W Y X pc lo (.int x :: st) S kc ks := zq_lift (fun _ _ _ _ _ _ => lv_tableIn Z.x Z.b d h1 h2 ho ht) c
end ZQ2
end
section
/-! the rows that read and write the heap, over pictures -/
/-- what a class's words are good for -/
def zq_cd (ci : Nat) (C : String) (T : u_T) (N : Nat) (ty0 : Nat → FieldType) : Prop := zq_cl[ci]? = some (C, T, N) ∧ (∀ w ∈ u_ws C T N, w ∈ zq_T) ∧ (∀ k, k < N → parseFieldDescriptor (T k).2.2.1 = some (ty0 k)) ∧ (∀ a, a < N → ∀ b, b < N → a ≠ b → (T a).2.1 ≠ (T b).2.1)
theorem zq_one {G : zq_G} {S : zq_S} {H : Heap} {a : Nat} {e : zq_E} (h : zq_P G S H) (ha : S.1 a = some e) : va_P G.1 zq_cl [(a, zq_c G e)] H := by
  intro k q hq
  have hz : k < 1 := (List.getElem?_eq_some_iff.mp hq).1
  rw [show k = 0 by omega] at hq
  cases hq
  exact h.2 a e ha
theorem zq_uA {A : Nat → Prop} {S : zq_S} {a : Nat} {e : zq_E} (h : ∀ (q : Nat) (e : zq_E), S.1 q = some e → A q) (ha : A a) : ∀ (q : Nat) (e' : zq_E), (zq_u S a e).1 q = some e' → A q := by
  intro q e' hq
  have hq : (if q = a then some e else S.1 q) = some e' := hq
  by_cases hqa : q = a
  · rw [hqa]; exact ha
  · rw [if_neg hqa] at hq
    exact h q e' hq
theorem zq_nA {A : Nat → Prop} {S : zq_S} {e : zq_E} (h : ∀ (q : Nat) (e : zq_E), S.1 q = some e → A q) (ha : A S.2.1) : ∀ (q : Nat) (e' : zq_E), (zq_n S e).1 q = some e' → A q := by
  intro q e' hq
  have hq : (if q = S.2.1 then some e else S.1 q) = some e' := hq
  by_cases hqa : q = S.2.1
  · rw [hqa]; exact ha
  · rw [if_neg hqa] at hq
    exact h q e' hq
section ZQ3
variable {Y : zq_Y} {X : zq_X} {cc : ByteArray} {nL : Nat} {own nm : String} {ret : Option FieldType} {hh : List (Nat × Nat × Nat × Nat)} {pc : Nat} {lo : List (Nat × Value)} {st : List Value} {S : zq_S} {kc ks : Nat}
theorem zq_get (Z : zq_ok Y X cc nL own nm ret hh) {ix ci : Nat} {C : String} {T : u_T} {N : Nat} {ty0 : Nat → FieldType} (hcd : zq_cd ci C T N ty0) (k : Nat) (d : decode cc pc = .ok (.getfield ix, 3)) (hk : k < N) (hw : Cond.fieldLink own ix (T k).1 (T k).2.1 (T k).2.2.1 ∈ zq_T) {a : Nat} {fs : List Value} {v : Value} (he : S.1 a = some (.inr (ci, fs))) (hv : fs[k]? = some v)
    (c : zq_W Y X (pc + 3) lo (v :: st) S kc ks) : zq_W Y X pc lo (.ref a :: st) S kc ks :=
  fun H locs ls ce sl a1 a2 a3 a4 a5 a6 a7 a8 a9 => va_get (D := (yG Y).1) (cl := zq_cl) (tys := zq_ty (yG Y).2) Z.x Z.b Z.ws hcd.2.1 Z.o Z.i.2.1 (zq_one a1 he) 0 rfl hcd.1 k hk (Z.w hw) (fun _ h => h) hv d (c H locs ls ce sl a1 a2 a3 a4 a5 a6 a7 a8 a9)
theorem zq_put (Z : zq_ok Y X cc nL own nm ret hh) {ix ci : Nat} {C : String} {T : u_T} {N : Nat} {ty0 : Nat → FieldType} (hcd : zq_cd ci C T N ty0) (k : Nat) (d : decode cc pc = .ok (.putfield ix, 3)) (hk : k < N) (hw : Cond.fieldLink own ix (T k).1 (T k).2.1 (T k).2.2.1 ∈ zq_T) (hfin : (T k).2.2.2 = false) {ty : FieldType} {v : Value} (hd : parseFieldDescriptor (T k).2.2.1 = some ty) (hn : narrow ty v = v) (hfit : fits ty v = true) {a : Nat} {fs : List Value} (he : S.1 a = some (.inr (ci, fs))) (hl : k < fs.length)
    (c : zq_W Y X (pc + 3) lo st (zq_u S a (.inr (ci, fs.set k v))) kc ks) : zq_W Y X pc lo (v :: .ref a :: st) S kc ks := by
  intro H locs ls ce sl a1 a2 a3 a4 a5 a6 a7 a8 a9
  obtain ⟨hc, hin, hty, hnm⟩ := hcd
  have hap := va_apart (own := own) (D := (yG Y).1) Z.ws hin ty0 hty hnm Z.i.2.1 hc
  obtain ⟨r, h1, cell, q1, q2, q3, q4⟩ := a1.2 a _ he
  have hr : r = (C, T, N) := Option.some.inj (h1.symm.trans hc)
  subst hr
  obtain ⟨hS, hfc, kC, hkC, hkind⟩ := Z.i.2.1.1 ci _ hc
  obtain ⟨cf, kf, fi, f, hi, hsl⟩ := hS k hk
  have hlay := Z.ws _ (hin _ (u_in_lay hk))
  unfold u_lay at hlay
  rw [if_neg (by rw [hfin]; decide)] at hlay
  have hst := (u_facts hfc hkC (u_lays Z.ws hin hk) hi).1
  have h6 := u_store hfc hkC hkind hlay hi hd hn hfit
  refine W.putK Z.x Z.b (f := f) ⟨Z.o, Z.w hw, ⟨_, _, _, hi⟩, hst⟩ (by rw [q2]; exact h6) q1 q3 (by rw [hsl]; exact k2_hasslot (q4 k hk)) rfl rfl d fun H' e1 e2 e3 => ?_
  rw [hsl] at e1 ⊢
  exact c H' _ ls ce sl (a1.set (e := .inr (ci, fs.set k v)) ⟨_, hc, t_OB.to (V := updV (vp_V fs) k v) ⟨_, e1, q2, q3, t_set q4 hap hk v⟩ (fun j _ => vp_updV_set hl v j)⟩ e2 e3) (a2.put e2 e3 (a3 a _ he)) (zq_uA a3 (a3 a _ he)) a4 (Nat.le_succ_of_le a5) (fun h => absurd h (by show ¬ (S.2.2 + 1 = _); omega)) a7 a8 a9
theorem zq_putF (Z : zq_ok Y X cc nL own nm ret hh) {ix ci : Nat} {C : String} {T : u_T} {N : Nat} {ty0 : Nat → FieldType} (hcd : zq_cd ci C T N ty0) (k : Nat) (d : decode cc pc = .ok (.putfield ix, 3)) (hk : k < N) (hw : Cond.fieldLink own ix (T k).1 (T k).2.1 (T k).2.2.1 ∈ zq_T) (hfin : (T k).2.2.2 = true) (hdecl : (T k).1 = own) (hin2 : nm = "<init>") {ty : FieldType} {v : Value} (hd : parseFieldDescriptor (T k).2.2.1 = some ty) (hn : narrow ty v = v) (hfit : fits ty v = true) {a : Nat} {fs : List Value} (he : S.1 a = some (.inr (ci, fs))) (hl : k < fs.length)
    (c : zq_W Y X (pc + 3) lo st (zq_u S a (.inr (ci, fs.set k v))) kc ks) : zq_W Y X pc lo (v :: .ref a :: st) S kc ks := by
  intro H locs ls ce sl a1 a2 a3 a4 a5 a6 a7 a8 a9
  obtain ⟨hc, hin, hty, hnm⟩ := hcd
  have hap := va_apart (own := own) (D := (yG Y).1) Z.ws hin ty0 hty hnm Z.i.2.1 hc
  obtain ⟨r, h1, cell, q1, q2, q3, q4⟩ := a1.2 a _ he
  have hr : r = (C, T, N) := Option.some.inj (h1.symm.trans hc)
  subst hr
  obtain ⟨hS, hfc, kC, hkC, hkind⟩ := Z.i.2.1.1 ci _ hc
  obtain ⟨cf, kf, fi, f, hi, hsl⟩ := hS k hk
  have hlay := Z.ws _ (hin _ (u_in_lay hk))
  unfold u_lay at hlay
  rw [if_pos hfin] at hlay
  have hst := (u_facts hfc hkC (u_lays Z.ws hin hk) hi).1
  have hcf : (xm X).cls = cf := by
    obtain ⟨_, _, c', _, _, _, -, -, hf', -, -, -, hown2, -⟩ := Cond.laysFinal_spec hlay
    have e1 : c' = cf := by have := hi.symm.trans hf'; simp at this; exact this.1.symm
    rw [hdecl] at hown2
    rw [← e1]; exact Option.some.inj (Z.o.symm.trans hown2)
  have h6 := u_fits hfc hkC hkind (Or.inr hlay) hi hd hn hfit
  refine W.putFinK Z.x Z.b Z.o (Z.w hw) hi hst hcf (Z.n.trans hin2) (by rw [q2]; exact h6) q1 q3 (by rw [hsl]; exact k2_hasslot (q4 k hk)) rfl rfl d fun H' e1 e2 e3 => ?_
  rw [hsl] at e1 ⊢
  exact c H' _ ls ce sl (a1.set (e := .inr (ci, fs.set k v)) ⟨_, hc, t_OB.to (V := updV (vp_V fs) k v) ⟨_, e1, q2, q3, t_set q4 hap hk v⟩ (fun j _ => vp_updV_set hl v j)⟩ e2 e3) (a2.put e2 e3 (a3 a _ he)) (zq_uA a3 (a3 a _ he)) a4 (Nat.le_succ_of_le a5) (fun h => absurd h (by show ¬ (S.2.2 + 1 = _); omega)) a7 a8 a9
theorem zq_new (Z : zq_ok Y X cc nL own nm ret hh) {ix ci : Nat} {C : String} {T : u_T} {N : Nat} {ty0 : Nat → FieldType} (hcd : zq_cd ci C T N ty0) (d : decode cc pc = .ok (.new ix, 3)) (w1 : Cond.classLink own ix C ∈ zq_T) (w2 : Cond.instantiable C N ∈ zq_T) (w3 : Cond.initialized C ∈ zq_T) (fs : List Value) (hfs : ∀ j, j < N → defaultValue (ty0 j) = vp_V fs j) (hr : kc + 1 ≤ (yR Y).cells ∧ ks + N ≤ (yR Y).slots)
    (c : zq_W Y X (pc + 3) lo (.ref S.2.1 :: st) (zq_n S (.inr (ci, fs))) (kc + 1) (ks + N)) : zq_W Y X pc lo st S kc ks := by
  intro H locs ls ce sl a1 a2 a3 a4 a5 a6 a7 a8 a9
  obtain ⟨hc, hin, hty, hnm⟩ := hcd
  have hKn := Z.i.2.1.1 ci _ hc
  refine W.newcK Z.x Z.b Z.o (Z.w w1) (Z.w w2) (Z.w w3) rfl d (by omega) (by omega) hKn.2.1 a1.1 fun H1 kC hkC e1 z1 o1 => ?_
  rw [← a1.1] at z1 o1
  refine c H1 locs ls (ce + 1) (sl + N) (a1.push (e := .inr (ci, fs)) ⟨_, hc, (u_born ty0 Z.ws hin hKn hkC e1 hty).to hfs⟩ z1 o1) (zq_SP a2 z1 o1) (zq_nA a3 (Or.inr (by rw [a4]; exact Nat.le_add_right _ _))) ?_ a5 a6 (by omega) (by omega) a9
  show S.2.1 + 1 = _
  omega
theorem zq_newa (Z : zq_ok Y X cc nL own nm ret hh) {atype : ArrayType} {ty : FieldType} (hty : newarray.typeOf atype = ty) (t : Nat) (ht : ∀ f : Nat → ClassId, (zq_ty f)[t]? = some (f t, ty)) (hra : ∀ (U : State) (q : ClassId), va_RA U q ty → U.vm.findClass ("[" ++ ty.toString) = some q) (d : decode cc pc = .ok (.newarray atype, 2)) (w1 : Cond.arrayClass ty ∈ zq_T) {n : Int32} {N : Nat} (a0 : vp_A) (ha : ∀ cA : ClassId, vp_cell cA a0 = arrV cA N (fun _ => defaultValue ty)) (hn : ¬ n < 0) (hN : n.toNatClampNeg = N) (hb : N * componentBytes ty ≤ 536870912) (hr : kc + 1 ≤ (yR Y).cells ∧ ks + N ≤ (yR Y).slots)
    (c : zq_W Y X (pc + 2) lo (.ref S.2.1 :: st) (zq_n S (.inl (t, a0))) (kc + 1) (ks + N)) : zq_W Y X pc lo (.int n :: st) S kc ks := by
  intro H locs ls ce sl a1 a2 a3 a4 a5 a6 a7 a8 a9
  subst hty
  refine va_newaK Z.x Z.b (Z.w w1) rfl d rfl hn hN hb (by omega) (by omega) a1.1 fun H1 cA e1 z1 o1 hAr hNm => ?_
  rw [← a1.1] at z1 o1
  have hcA : cA = (yG Y).2 t := Option.some.inj (hNm.symm.trans (hra _ _ (Z.i.2.1.2 t _ (ht (yG Y).2)).2))
  subst hcA
  refine c H1 locs ls (ce + 1) (sl + N) (a1.push (e := .inl (t, a0)) ?_ z1 o1) (zq_SP a2 z1 o1) (zq_nA a3 (Or.inr (by rw [a4]; exact Nat.le_add_right _ _))) ?_ a5 a6 (by omega) (by omega) a9
  · show H1[S.2.1]? = some (vp_cell _ _)
    rw [ha]
    exact e1
  · show S.2.1 + 1 = _
    omega
theorem zq_anew (Z : zq_ok Y X cc nL own nm ret hh) {ix : Nat} {C : String} (t : Nat) (ht : ∀ f : Nat → ClassId, (zq_ty f)[t]? = some (f t, .object C)) (d : decode cc pc = .ok (.anewarray ix, 3)) (w1 : Cond.classLink own ix C ∈ zq_T) (w2 : Cond.arrayOver (.object C) ∈ zq_T) {n : Int32} {N : Nat} (hn : ¬ n < 0) (hN : n.toNatClampNeg = N) (hb : N * 4 ≤ 536870912) (hr : kc + 1 ≤ (yR Y).cells ∧ ks + N ≤ (yR Y).slots)
    (c : zq_W Y X (pc + 3) lo (.ref S.2.1 :: st) (zq_n S (.inl (t, N, .inr (.inr (.inr (.inr (fun _ => none))))))) (kc + 1) (ks + N)) : zq_W Y X pc lo (.int n :: st) S kc ks := by
  intro H locs ls ce sl a1 a2 a3 a4 a5 a6 a7 a8 a9
  subst hN
  refine W.anew Z.x Z.b Z.o (Z.w w1) (Z.w w2) rfl d rfl hn hb (by omega) (by omega) fun cA kA comp f1 f2 f3 f4 => ?_
  obtain ⟨-, kA', comp', g1, g2, g3, g4⟩ := Z.i.2.1.2 t _ (ht (yG Y).2)
  have hcA : cA = (yG Y).2 t := Option.some.inj (f1.symm.trans g4)
  subst hcA
  generalize hH1 : H.push ({ cls := (yG Y).2 t, slots := Array.replicate n.toNatClampNeg .null, vm := .none } : Cell) = H1
  have z1 : H1.size = H.size + 1 := by rw [← hH1, Array.size_push]
  have e1 : H1[H.size]? = some (arrV ((yG Y).2 t) n.toNatClampNeg (fun _ => .null)) := by rw [← hH1, Array.getElem?_push_size, ← arrV_new]
  have o1 : ∀ q : Nat, q < H.size → H1[q]? = H[q]? := fun q hq => by rw [← hH1, Array.getElem?_push, if_neg (Nat.ne_of_lt hq)]
  rw [a1.1]
  refine c H1 locs ls (ce + 1) (sl + n.toNatClampNeg) (a1.push (e := .inl (t, n.toNatClampNeg, .inr (.inr (.inr (.inr (fun _ => none)))))) ?_ z1 o1) (zq_SP a2 z1 o1) (zq_nA a3 (Or.inr (by rw [a4]; exact Nat.le_add_right _ _))) ?_ a5 a6 (by omega) (by omega) a9
  · show H1[S.2.1]? = some (vp_cell _ _)
    rw [vp_cell_q, ← a1.1]
    exact e1
  · show S.2.1 + 1 = _
    omega
theorem zq_alen (Z : zq_ok Y X cc nL own nm ret hh) (t : Nat) {ty : FieldType} (ht : ∀ f : Nat → ClassId, (zq_ty f)[t]? = some (f t, ty)) (d : decode cc pc = .ok (.arraylength, 1)) {a : Nat} {x : vp_A} (he : S.1 a = some (.inl (t, x)))
    (c : zq_W Y X (pc + 1) lo (.int (nI x.1) :: st) S kc ks) : zq_W Y X pc lo (.ref a :: st) S kc ks :=
  fun H locs ls ce sl a1 a2 a3 a4 a5 a6 a7 a8 a9 => va_alen (D := (yG Y).1) (cl := zq_cl) Z.x Z.b Z.i.2.1 (zq_one a1 he) 0 t rfl (ht _) rfl d (c H locs ls ce sl a1 a2 a3 a4 a5 a6 a7 a8 a9)
theorem zq_laload (Z : zq_ok Y X cc nL own nm ret hh) (t : Nat) (ht : ∀ f : Nat → ClassId, (zq_ty f)[t]? = some (f t, .long)) (d : decode cc pc = .ok (.laload, 1)) {a n : Nat} {f : Nat → Int64} (he : S.1 a = some (.inl (t, n, .inr (.inl f)))) {i : Int32} (hin : vp_in i n)
    (c : zq_W Y X (pc + 1) lo (.long (f i.toNatClampNeg) :: st) S kc ks) : zq_W Y X pc lo (.int i :: .ref a :: st) S kc ks :=
  fun H locs ls ce sl a1 a2 a3 a4 a5 a6 a7 a8 a9 => va_lald (D := (yG Y).1) (cl := zq_cl) Z.x Z.b Z.i.2.1 (zq_one a1 he) 0 t rfl (ht _) hin d (c H locs ls ce sl a1 a2 a3 a4 a5 a6 a7 a8 a9)
theorem zq_iaload (Z : zq_ok Y X cc nL own nm ret hh) (t : Nat) (ht : ∀ f : Nat → ClassId, (zq_ty f)[t]? = some (f t, .int)) (d : decode cc pc = .ok (.iaload, 1)) {a n : Nat} {f : Nat → Int32} (he : S.1 a = some (.inl (t, n, .inl f))) {i : Int32} (hin : vp_in i n)
    (c : zq_W Y X (pc + 1) lo (.int (f i.toNatClampNeg) :: st) S kc ks) : zq_W Y X pc lo (.int i :: .ref a :: st) S kc ks :=
  fun H locs ls ce sl a1 a2 a3 a4 a5 a6 a7 a8 a9 => va_iald (D := (yG Y).1) (cl := zq_cl) Z.x Z.b Z.i.2.1 (zq_one a1 he) 0 t rfl (ht _) hin d (c H locs ls ce sl a1 a2 a3 a4 a5 a6 a7 a8 a9)
theorem zq_aaload (Z : zq_ok Y X cc nL own nm ret hh) (t : Nat) {C : String} (ht : ∀ f : Nat → ClassId, (zq_ty f)[t]? = some (f t, .object C)) (d : decode cc pc = .ok (.aaload, 1)) {a n : Nat} {f : Nat → Option Nat} (he : S.1 a = some (.inl (t, n, .inr (.inr (.inr (.inr f)))))) {i : Int32} (hin : vp_in i n)
    (c : zq_W Y X (pc + 1) lo (va_rf (f i.toNatClampNeg) :: st) S kc ks) : zq_W Y X pc lo (.int i :: .ref a :: st) S kc ks :=
  fun H locs ls ce sl a1 a2 a3 a4 a5 a6 a7 a8 a9 => va_aldq (D := (yG Y).1) (cl := zq_cl) Z.x Z.b Z.i.2.1 (zq_one a1 he) 0 t rfl (ht _) hin d (c H locs ls ce sl a1 a2 a3 a4 a5 a6 a7 a8 a9)
theorem zq_lastore (Z : zq_ok Y X cc nL own nm ret hh) (t : Nat) (ht : ∀ f : Nat → ClassId, (zq_ty f)[t]? = some (f t, .long)) (d : decode cc pc = .ok (.lastore, 1)) {a n : Nat} {f : Nat → Int64} (he : S.1 a = some (.inl (t, n, .inr (.inl f)))) {i : Int32} {x : Int64} (hin : vp_in i n)
    (c : zq_W Y X (pc + 1) lo st (zq_u S a (.inl (t, n, .inr (.inl (vp_updL f i.toNatClampNeg x))))) kc ks) : zq_W Y X pc lo (.long x :: .int i :: .ref a :: st) S kc ks := by
  intro H locs ls ce sl a1 a2 a3 a4 a5 a6 a7 a8 a9
  refine W.last Z.x Z.b (a1.2 a _ he) ((Z.i.2.1.2 t _ (ht _)).1 n (fun j => .long (f j))) (fun q => by cases q) (by show ¬ (i < 0 ∨ (arrV _ _ _).slots.size ≤ _); rw [arrV_size]; exact hin) rfl rfl d fun H1 e z oq => ?_
  refine c H1 _ ls ce sl (a1.set (e := .inl (t, n, .inr (.inl (vp_updL f i.toNatClampNeg x)))) ?_ z oq) (a2.put z oq (a3 a _ he)) (zq_uA a3 (a3 a _ he)) a4 (Nat.le_succ_of_le a5) (fun h => absurd h (by show ¬ (S.2.2 + 1 = _); omega)) a7 a8 a9
  show H1[a]? = some (vp_cell _ _)
  rw [e]
  show some ((vp_cell ((yG Y).2 t) (n, .inr (.inl f))).setSlot _ _) = _
  rw [vp_cell_l, vp_cell_l, arrV_store]
  congr 2
  funext q
  by_cases hq : q = i.toNatClampNeg
  · subst hq
    simp [updV, vp_updL]
  · simp [updV, vp_updL, hq]
theorem zq_iastore (Z : zq_ok Y X cc nL own nm ret hh) (t : Nat) (ht : ∀ f : Nat → ClassId, (zq_ty f)[t]? = some (f t, .int)) (d : decode cc pc = .ok (.iastore, 1)) {a n : Nat} {f : Nat → Int32} (he : S.1 a = some (.inl (t, n, .inl f))) {i : Int32} {x : Int32} (hin : vp_in i n)
    (c : zq_W Y X (pc + 1) lo st (zq_u S a (.inl (t, n, .inl (upd f i.toNatClampNeg x)))) kc ks) : zq_W Y X pc lo (.int x :: .int i :: .ref a :: st) S kc ks := by
  intro H locs ls ce sl a1 a2 a3 a4 a5 a6 a7 a8 a9
  refine W.iast Z.x Z.b (a1.2 a _ he) ((Z.i.2.1.2 t _ (ht _)).1 n (fun j => .int (f j))) (fun q => by cases q) (by show ¬ (i < 0 ∨ (arrV _ _ _).slots.size ≤ _); rw [arrV_size]; exact hin) rfl rfl d fun H1 e z oq => ?_
  refine c H1 _ ls ce sl (a1.set (e := .inl (t, n, .inl (upd f i.toNatClampNeg x))) ?_ z oq) (a2.put z oq (a3 a _ he)) (zq_uA a3 (a3 a _ he)) a4 (Nat.le_succ_of_le a5) (fun h => absurd h (by show ¬ (S.2.2 + 1 = _); omega)) a7 a8 a9
  show H1[a]? = some (vp_cell _ _)
  rw [e]
  show some ((vp_cell ((yG Y).2 t) (n, .inl f)).setSlot _ _) = _
  rw [vp_cell_i, vp_cell_i, arrV_store]
  congr 2
  funext q
  by_cases hq : q = i.toNatClampNeg
  · subst hq
    simp [updV, upd]
  · simp [updV, upd, hq]
theorem zq_aastore (Z : zq_ok Y X cc nL own nm ret hh) (t ci : Nat) {r : vw_C} (hc : zq_cl[ci]? = some r) (ht : ∀ f : Nat → ClassId, (zq_ty f)[t]? = some (f t, .object r.1)) (d : decode cc pc = .ok (.aastore, 1)) {a n : Nat} {f : Nat → Option Nat} (he : S.1 a = some (.inl (t, n, .inr (.inr (.inr (.inr f)))))) {i : Int32} {x : Option Nat} (hx : ∀ v, x = some v → ∃ vs, S.1 v = some (.inr (ci, vs))) (hin : vp_in i n)
    (c : zq_W Y X (pc + 1) lo st (zq_u S a (.inl (t, n, .inr (.inr (.inr (.inr (va_up f i.toNatClampNeg x))))))) kc ks) : zq_W Y X pc lo (va_rf x :: .int i :: .ref a :: st) S kc ks := by
  intro H locs ls ce sl a1 a2 a3 a4 a5 a6 a7 a8 a9
  have hlt : i.toNatClampNeg < n := Nat.not_le.mp fun q => hin (Or.inr q)
  have h0 : ¬ i < 0 := fun q => hin (Or.inl q)
  cases x with
  | none =>
    refine va_WaastN (C := r.1) Z.x Z.b (a1.2 a _ he) ((Z.i.2.1.2 t _ (ht _)).1 n (fun j => va_rf (f j))) (fun h => by cases h) (by show ¬ (i < 0 ∨ (arrV _ _ _).slots.size ≤ _); rw [arrV_size]; exact hin) rfl rfl d fun H1 e z oq => ?_
    refine c H1 _ ls ce sl (a1.set (e := .inl (t, n, .inr (.inr (.inr (.inr (va_up f i.toNatClampNeg none)))))) ?_ z oq) (a2.put z oq (a3 a _ he)) (zq_uA a3 (a3 a _ he)) a4 (Nat.le_succ_of_le a5) (fun h => absurd h (by show ¬ (S.2.2 + 1 = _); omega)) a7 a8 a9
    show H1[a]? = some (vp_cell _ _)
    rw [e]
    show some ((vp_cell ((yG Y).2 t) (n, .inr (.inr (.inr (.inr f))))).setSlot _ _) = _
    rw [vp_cell_q, vp_cell_q, arrV_store]
    congr 2
    funext q
    by_cases hq : q = i.toNatClampNeg
    · subst hq
      simp [updV, va_up, va_rf]
    · simp [updV, va_up, hq]
  | some v =>
    obtain ⟨vs, hv⟩ := hx v rfl
    obtain ⟨r', hr', cellV, g1, g2, g3, -⟩ := a1.2 v _ hv
    have hcls := (Z.i.2.1.1 ci r hc).2
    obtain ⟨kA, comp, k1, k2, k3, -⟩ := (Z.i.2.1.2 t _ (ht _)).2
    have hcomp : comp = (yG Y).1.1 ci := Option.some.inj (k3.symm.trans hcls.1)
    subst hcomp
    have hcls2 := hcls
    obtain ⟨-, kC, hkC, -⟩ := hcls2
    refine W.aast Z.x Z.b (a1.2 a _ he) (fun q h => by cases h) (fun h => by cases h) k1 k2 rfl hkC ⟨h0, by show _ < (arrV _ _ _).slots.size; rw [arrV_size]; exact hlt⟩ g1 (fun q h => by rw [g3] at h; cases h) (by rw [g2]; exact hkC) (by rw [g2]; exact va_assign hcls) rfl rfl d fun H1 e z oq => ?_
    refine c H1 _ ls ce sl (a1.set (e := .inl (t, n, .inr (.inr (.inr (.inr (va_up f i.toNatClampNeg (some v))))))) ?_ z oq) (a2.put z oq (a3 a _ he)) (zq_uA a3 (a3 a _ he)) a4 (Nat.le_succ_of_le a5) (fun h => absurd h (by show ¬ (S.2.2 + 1 = _); omega)) a7 a8 a9
    show H1[a]? = some (vp_cell _ _)
    rw [e]
    show some ((vp_cell ((yG Y).2 t) (n, .inr (.inr (.inr (.inr f))))).setSlot _ _) = _
    rw [vp_cell_q, vp_cell_q, arrV_store]
    congr 2
    funext q
    by_cases hq : q = i.toNatClampNeg
    · subst hq
      simp [updV, va_up, va_rf]
    · simp [updV, va_up, hq]
theorem zq_copyl (Z : zq_ok Y X cc nL own nm ret hh) {ix : Nat} (t : Nat) (ht : ∀ f : Nat → ClassId, (zq_ty f)[t]? = some (f t, .long)) (d : decode cc pc = .ok (.invokestatic ix, 3)) (w1 : Cond.methodLink own ix arraycopyName ∈ zq_T) (w2 : Cond.native arraycopyName ∈ zq_T) (w3 : Cond.static arraycopyName ∈ zq_T) (w4 : Cond.initialized "java/lang/System" ∈ zq_T)
    {a0 a n0 n1 : Nat} {f g : Nat → Int64} (he0 : S.1 a0 = some (.inl (t, n0, .inr (.inl f)))) (he1 : S.1 a = some (.inl (t, n1, .inr (.inl g)))) {sp dp n : Int32} (h1 : ¬ sp < 0) (h2 : ¬ dp < 0) (h3 : ¬ n < 0) (h4 : sp.toNatClampNeg + n.toNatClampNeg ≤ n0) (h5 : dp.toNatClampNeg + n.toNatClampNeg ≤ n1)
    (hfr : 1 ≤ (yR Y).frames) (hlo : (st.map fun v => v.category).sum + (nativeFrameWords "java/lang/System" "arraycopy" 5 + 11) ≤ (yR Y).locals)
    (c : zq_W Y X (pc + 3) lo st (zq_u S a (.inl (t, n1, .inr (.inl (va_cpy f g sp.toNatClampNeg dp.toNatClampNeg n.toNatClampNeg))))) kc ks) : zq_W Y X pc lo (.int n :: .int dp :: .ref a :: .int sp :: .ref a0 :: st) S kc ks := by
  intro H locs ls ce sl a1 a2 a3 a4 a5 a6 a7 a8 a9
  have nn : ∀ z : Int32, ¬ z < 0 → z.toInt = (z.toNatClampNeg : Int) := by
    intro z hz
    have hz0 : (0 : Int) ≤ z.toInt := by
      have := Int32.not_lt.mp hz
      simpa using Int32.le_iff_toInt_le.mp this
    show z.toInt = ((z.toInt.toNat : Nat) : Int)
    omega
  intro T hT XX
  have hc0 : H[a0]? = some (vp_cell ((yG Y).2 t) (n0, .inr (.inl f))) := a1.2 a0 _ he0
  have hc1 : H[a]? = some (vp_cell ((yG Y).2 t) (n1, .inr (.inl g))) := a1.2 a _ he1
  obtain ⟨-, k0, hk0, cm0, hkk0⟩ := (Z.i.2.1.2 t _ (ht _)).1 n0 (fun j => .long (f j))
  obtain ⟨-, k1, hk1, cm1, hkk1⟩ := (Z.i.2.1.2 t _ (ht _)).1 n1 (fun j => .long (g j))
  obtain ⟨vm', X', step⟩ := XX.arraycopy Z.x Z.o (Z.w w1) (Z.w w2) (Z.w w3) (Z.w w4) (src := a0) (dst := a) (cs := vp_cell ((yG Y).2 t) (n0, .inr (.inl f))) (cd := vp_cell ((yG Y).2 t) (n1, .inr (.inl g))) (srcPos := sp) (destPos := dp) (n := n) (by rw [hT]; exact hc0) (by rw [hT]; exact hc1)
    (fun _ h => by cases h) (fun _ h => by cases h) (fun h => by cases h) (fun h => by cases h) hk0 hk1 hkk0 hkk1 (by simp [refKind]) h1 h2 h3
    (by rw [nn sp h1, nn n h3]; show ¬ _ > ((arrV _ n0 (fun j => .long (f j))).slots.size : Int); rw [arrV_size]; omega)
    (by rw [nn dp h2, nn n h3]; show ¬ _ > ((arrV _ n1 (fun j => .long (g j))).slots.size : Int); rw [arrV_size]; omega)
    (fun vm₁ _ i hi => by
      have e : (vp_cell ((yG Y).2 t) (n0, .inr (.inl f))).slots.getD (sp.toNatClampNeg + i) .null = .long (f (sp.toNatClampNeg + i)) := by
        show (arrV _ n0 (fun j => .long (f j))).slots.getD _ _ = _
        rw [Array.getD_eq_getD_getElem?, arrV_read _ _ (by omega)]
        rfl
      refine ⟨?_, ?_⟩
      · rw [e]
        rfl
      · rw [e]
        exact trivial)
    (g := F0 (xm X) pc ls (.int n :: .int dp :: .ref a :: .int sp :: .ref a0 :: st)) rfl (by rw [a9.1]) (rest := st) rfl (by rw [Z.b]; exact d) hfr (by show 2 * 0 + _ + _ ≤ _; omega)
  have e1 : copied (vp_cell ((yG Y).2 t) (n0, .inr (.inl f))) (vp_cell ((yG Y).2 t) (n1, .inr (.inl g))) sp dp n = vp_cell ((yG Y).2 t) (n1, .inr (.inl (va_cpy f g sp.toNatClampNeg dp.toNatClampNeg n.toNatClampNeg))) := va_copied (fun z => .long z) _ _ f g h4
  rw [e1] at X' step
  have hl : a < H.size := (Array.getElem?_eq_some_iff.mp hc1).1
  have oq : ∀ q : Nat, q ≠ a → (H.setIfInBounds a (vp_cell ((yG Y).2 t) (n1, .inr (.inl (va_cpy f g sp.toNatClampNeg dp.toNatClampNeg n.toNatClampNeg)))))[q]? = H[q]? := fun q hq => by simp [Array.getElem?_setIfInBounds, Ne.symm hq]
  have hheap : ((T.setVm vm').setCell a (vp_cell ((yG Y).2 t) (n1, .inr (.inl (va_cpy f g sp.toNatClampNeg dp.toNatClampNeg n.toNatClampNeg))))).heap = H.setIfInBounds a (vp_cell ((yG Y).2 t) (n1, .inr (.inl (va_cpy f g sp.toNatClampNeg dp.toNatClampNeg n.toNatClampNeg)))) := by rw [← hT]; rfl
  obtain ⟨t2, b1, b2⟩ := c _ _ ls ce sl (a1.set (e := .inl (t, n1, .inr (.inl (va_cpy f g sp.toNatClampNeg dp.toNatClampNeg n.toNatClampNeg)))) (show (H.setIfInBounds a _)[a]? = some _ by simp [Array.getElem?_setIfInBounds, hl]) (by simp) oq)
    ⟨by simp; exact a2.1, fun q g1 g2 => by
      rw [oq q (fun e => g2 (by rw [e]; exact a3 a _ he1))]
      exact a2.2.1 q g1 g2, fun q hq => by
      rcases List.mem_append.mp hq with h | h
      · exact a2.2.2 q h
      · obtain ⟨z, -, hz⟩ := List.mem_map.mp h
        rw [← hz]
        exact a3 a _ he1⟩ (zq_uA a3 (a3 a _ he1)) a4 (Nat.le_succ_of_le a5) (fun h => absurd h (by show ¬ (S.2.2 + 1 = _); omega)) a7 a8 a9 _ hheap X'
  exact ⟨t2, step t2 b1, b2⟩
theorem zq_mmin (Z : zq_ok Y X cc nL own nm ret hh) {ix : Nat} (d : decode cc pc = .ok (.invokestatic ix, 3)) (w1 : Cond.methodLink own ix Lib.Math.min.name ∈ zq_T) (w2 : Cond.static Lib.Math.min.name ∈ zq_T) (w3 : Cond.initialized "java/lang/Math" ∈ zq_T) (w4 : Cond.code Lib.Math.min.name Lib.Math.min.code 2 (some .int) ∈ zq_T) (hfr : 1 ≤ (yR Y).frames) (hlo : (st.map fun v => v.category).sum + 13 ≤ (yR Y).locals) (hr : kc ≤ (yR Y).cells ∧ ks ≤ (yR Y).slots) {x y : Int32}
    (c : zq_W Y X (pc + 3) lo (.int (if y < x then y else x) :: st) S kc ks) : zq_W Y X pc lo (.int y :: .int x :: st) S kc ks :=
  fun H locs ls ce sl a1 a2 a3 a4 a5 a6 a7 a8 a9 => va_mmin Z.x Z.b a9.1.symm Z.o (Z.w w1) (Z.w w2) (Z.w w3) (Z.w w4) hfr hlo (by omega) (by omega) d (c H locs ls ce sl a1 a2 a3 a4 a5 a6 a7 a8 a9)
theorem zq_mmax (Z : zq_ok Y X cc nL own nm ret hh) {ix : Nat} (d : decode cc pc = .ok (.invokestatic ix, 3)) (w1 : Cond.methodLink own ix Lib.Math.max.name ∈ zq_T) (w2 : Cond.static Lib.Math.max.name ∈ zq_T) (w3 : Cond.initialized "java/lang/Math" ∈ zq_T) (w4 : Cond.code Lib.Math.max.name Lib.Math.max.code 2 (some .int) ∈ zq_T) (hfr : 1 ≤ (yR Y).frames) (hlo : (st.map fun v => v.category).sum + 13 ≤ (yR Y).locals) (hr : kc ≤ (yR Y).cells ∧ ks ≤ (yR Y).slots) {x y : Int32}
    (c : zq_W Y X (pc + 3) lo (.int (if x < y then y else x) :: st) S kc ks) : zq_W Y X pc lo (.int y :: .int x :: st) S kc ks :=
  fun H locs ls ce sl a1 a2 a3 a4 a5 a6 a7 a8 a9 => va_mmax Z.x Z.b a9.1.symm Z.o (Z.w w1) (Z.w w2) (Z.w w3) (Z.w w4) hfr hlo (by omega) (by omega) d (c H locs ls ce sl a1 a2 a3 a4 a5 a6 a7 a8 a9)
theorem zq_objInit (Z : zq_ok Y X cc nL own nm ret hh) {ix : Nat} (d : decode cc pc = .ok (.invokespecial ix, 3)) (w1 : Cond.methodLink own ix Lib.objectInit ∈ zq_T) (w2 : Cond.instanceMethod Lib.objectInit ∈ zq_T) (w3 : Cond.code Lib.objectInit ⟨#[0xb1]⟩ 1 none ∈ zq_T) {a : Nat} (hfr : 1 ≤ (yR Y).frames) (hlo : (st.map fun v => v.category).sum + 12 ≤ (yR Y).locals)
    (c : zq_W Y X (pc + 3) lo st S kc ks) : zq_W Y X pc lo (.ref a :: st) S kc ks :=
  fun H locs ls ce sl a1 a2 a3 a4 a5 a6 a7 a8 a9 => W.objInit Z.x Z.b Z.o (Z.w w1) (Z.w w2) (Z.w w3) rfl a9.1 rfl d hfr (by show 2 * 0 + _ + 12 ≤ _; omega) (c H locs ls ce sl a1 a2 a3 a4 a5 a6 a7 a8 a9)
end ZQ3
end
section
/-! ends of methods, and calls, over pictures -/
theorem zq_frl {A : Nat → Prop} {H0 H : Heap} {locs : List Loc} {n n0 : Nat} (hS : va_S A H0 H locs) (h : n = n0 → locs = []) : ∀ q ∈ locs, A q.base ∧ ¬ n = n0 :=
  fun q hq => ⟨hS.2.2 q hq, fun e => by rw [h e] at hq; cases hq⟩
section ZQ4
variable {Y : zq_Y} {X : zq_X} {cc : ByteArray} {nL : Nat} {own nm : String} {ret : Option FieldType} {hh : List (Nat × Nat × Nat × Nat)} {pc : Nat} {lo : List (Nat × Value)} {st : List Value} {S : zq_S} {kc ks : Nat}
theorem zq_fin (Z : zq_ok Y X cc nL own nm ret hh) {H : Heap} {locs : List Loc} {ce sl : Nat} {t : State} (a1 : zq_P (yG Y) S H) (a2 : va_S (zq_A (yS Y)) (xs X).heap H locs) (a3 : ∀ (q : Nat) (e : zq_E), S.1 q = some e → zq_A (yS Y) q) (a4 : S.2.1 = (yS Y).2.1 + ce) (a5 : (yS Y).2.2 ≤ S.2.2) (e1 : S = yT Y) (hce : ce ≤ (yR Y).cells) (hsl : sl ≤ (yR Y).slots)
    (h : MQ (xb X) (fun _ st o t => zq_out (yr Y) st o t ∧ t.heap = H) (xa X) (xs X) ce sl (fun q => zq_A (yS Y) q ∧ ¬ S.2.2 = (yS Y).2.2) t) : zq_Q Y X t := by
  obtain ⟨o, h1, h2, ⟨h3, h4⟩, L, ⟨-, hW, hsame⟩, hL⟩ := h
  refine ⟨o, h1, h2, h3, by rw [← e1, h4]; exact a1, fun q hq hnA => by rw [h4]; exact a2.2.1 q (by rw [Z.p.1]; exact hq) hnA, by rw [← e1]; exact a3, by rw [← e1]; exact a5, hW, L, ce, sl, hce, hsl, by rw [← e1]; exact a4, fun h => ?_, hsame, fun q hq => (hL q hq).1⟩
  rw [← e1] at h
  cases L with
  | nil => rfl
  | cons q l => exact absurd h (hL q List.mem_cons_self).2
theorem zq_iret (Z : zq_ok Y X cc nL own nm (some .int) hh) {x : Int32} (d : decode cc pc = .ok (.ireturn, 1)) (e1 : S = yT Y) (e2 : (.inl (some (.int x)) : zq_R) = yr Y) (hr : kc ≤ (yR Y).cells ∧ ks ≤ (yR Y).slots) : zq_W Y X pc lo [.int x] S kc ks :=
  fun H locs ls ce sl a1 a2 a3 a4 a5 a6 a7 a8 a9 => zq_Wmono (W.iret (Qc := fun _ st o t => zq_out (yr Y) st o t ∧ t.heap = H) (free := fun q => zq_A (yS Y) q ∧ ¬ S.2.2 = (yS Y).2.2) Z.x Z.b Z.r (fun t ht _ => ⟨by rw [← e2]; rfl, ht⟩) (zq_frl a2 a6) d Z.k) (fun t ht => zq_fin Z a1 a2 a3 a4 a5 e1 (by omega) (by omega) ht)
theorem zq_zret (Z : zq_ok Y X cc nL own nm (some .boolean) hh) {x : Int32} (d : decode cc pc = .ok (.ireturn, 1)) (hx : x = 0 ∨ x = 1) (e1 : S = yT Y) (e2 : (.inl (some (.int x)) : zq_R) = yr Y) (hr : kc ≤ (yR Y).cells ∧ ks ≤ (yR Y).slots) : zq_W Y X pc lo [.int x] S kc ks :=
  fun H locs ls ce sl a1 a2 a3 a4 a5 a6 a7 a8 a9 => zq_Wmono (W.zret (ty := .boolean) (Qc := fun _ st o t => zq_out (yr Y) st o t ∧ t.heap = H) (free := fun q => zq_A (yS Y) q ∧ ¬ S.2.2 = (yS Y).2.2) Z.x Z.b Z.r (by rcases hx with rfl | rfl <;> rfl) (fun t ht _ => ⟨by rw [← e2]; rfl, ht⟩) (zq_frl a2 a6) d Z.k) (fun t ht => zq_fin Z a1 a2 a3 a4 a5 e1 (by omega) (by omega) ht)
theorem zq_lret (Z : zq_ok Y X cc nL own nm (some .long) hh) {x : Int64} (d : decode cc pc = .ok (.lreturn, 1)) (e1 : S = yT Y) (e2 : (.inl (some (.long x)) : zq_R) = yr Y) (hr : kc ≤ (yR Y).cells ∧ ks ≤ (yR Y).slots) : zq_W Y X pc lo [.long x] S kc ks :=
  fun H locs ls ce sl a1 a2 a3 a4 a5 a6 a7 a8 a9 => zq_Wmono (W.lret (Qc := fun _ st o t => zq_out (yr Y) st o t ∧ t.heap = H) (free := fun q => zq_A (yS Y) q ∧ ¬ S.2.2 = (yS Y).2.2) Z.x Z.b Z.r (fun t ht _ => ⟨by rw [← e2]; rfl, ht⟩) (zq_frl a2 a6) d Z.k) (fun t ht => zq_fin Z a1 a2 a3 a4 a5 e1 (by omega) (by omega) ht)
theorem zq_vret (Z : zq_ok Y X cc nL own nm none hh) (d : decode cc pc = .ok (.return_, 1)) (e1 : S = yT Y) (e2 : (.inl none : zq_R) = yr Y) (hr : kc ≤ (yR Y).cells ∧ ks ≤ (yR Y).slots) : zq_W Y X pc lo [] S kc ks :=
  fun H locs ls ce sl a1 a2 a3 a4 a5 a6 a7 a8 a9 => zq_Wmono (W.vret (Qc := fun _ st o t => zq_out (yr Y) st o t ∧ t.heap = H) (free := fun q => zq_A (yS Y) q ∧ ¬ S.2.2 = (yS Y).2.2) Z.x Z.b Z.r (fun t ht _ => ⟨by rw [← e2]; rfl, ht⟩) (zq_frl a2 a6) d Z.k) (fun t ht => zq_fin Z a1 a2 a3 a4 a5 e1 (by omega) (by omega) ht)
theorem zq_aret {C : String} (Z : zq_ok Y X cc nL own nm (some (.object C)) hh) {x : Option Nat} (d : decode cc pc = .ok (.areturn, 1)) (e1 : S = yT Y) (e2 : (.inl (some (va_rf x)) : zq_R) = yr Y) (hr : kc ≤ (yR Y).cells ∧ ks ≤ (yR Y).slots) : zq_W Y X pc lo [va_rf x] S kc ks :=
  fun H locs ls ce sl a1 a2 a3 a4 a5 a6 a7 a8 a9 => zq_Wmono (W.aret (Qc := fun _ st o t => zq_out (yr Y) st o t ∧ t.heap = H) (free := fun q => zq_A (yS Y) q ∧ ¬ S.2.2 = (yS Y).2.2) Z.x Z.b Z.r (Or.inl ⟨C, rfl⟩) (by cases x with | none => exact Or.inl rfl | some a => exact Or.inr ⟨a, rfl⟩) (fun t ht _ => ⟨by rw [← e2]; rfl, ht⟩) (zq_frl a2 a6) d Z.k) (fun t ht => zq_fin Z a1 a2 a3 a4 a5 e1 (by omega) (by omega) ht)
end ZQ4
/-- what the code word w of the method y says in a state -/
def zq_cf (y : MethodName) (w : Cond) (maxL : Nat) : Prop := ∀ U : State, (∀ a : Array Value, w.before a U = true) → ∃ (mk : MethodId) (methY : Method) (cY : Code), U.methodNamed? y = some mk ∧ U.vm.method? mk = some methY ∧ methY.code = some cY ∧ cY.maxLocals = maxL ∧ parseMethodDescriptor y.desc = some methY.sig
theorem zq_cf1 {y : MethodName} {bytes : ByteArray} {maxL : Nat} {ret : Option FieldType} : zq_cf y (.code y bytes maxL ret) maxL := by
  intro U h
  obtain ⟨mk, hn⟩ := Cond.code_named (h #[])
  obtain ⟨meth, c, h1, h2, -, h4, -, -, -, h8⟩ := Cond.code_spec hn (h #[])
  exact ⟨mk, meth, c, hn, h1, h2, h4, h8⟩
theorem zq_cf2 {y : MethodName} {bytes : ByteArray} {maxL : Nat} {ret : Option FieldType} {hh : List (Nat × Nat × Nat × Nat)} : zq_cf y (.codeWith y bytes maxL ret hh) maxL := by
  intro U h
  obtain ⟨mk, meth, c, hn, h1, h2, -, h4, -, -, -, h8⟩ := Cond.codeWith_spec (h #[])
  exact ⟨mk, meth, c, hn, h1, h2, h4, h8⟩
theorem zq_I.warm {G : zq_G} {s U : State} (h : zq_I G s) (hW : s.WarmedH U.vm) : zq_I G U :=
  ⟨fun w hw => zq_warm w hw hW (h.1 w hw), va_K.moved hW.alike h.2.1, fun q hq => (h.2.2 q hq).moved hW.alike⟩
theorem zq_J.at {S0 S : zq_S} {s T : State} {locs : List Loc} (h : zq_J S0 s) (hal : s.vm.Alike T.vm) (hS : va_S (zq_A S0) s.heap T.heap locs) (hA : ∀ q, zq_A S q → zq_A S0 q) : zq_J S T :=
  ⟨h.1.to hal hS.2.1 hA, h.2.to hal hS.2.1 hA⟩
/-- the machine under a call by contract -/
theorem zq_go {p : Program} {l : Launch} {e : Env} {R : Room} {s : State} {m : MethodId} {sargs : Array Value} {below : List Frame} {meth : Method} {c : Code} {U : State} {Ls : List Loc} {c0 s0 : Nat} (XX : Stand p l e R s m sargs below meth c U Ls c0 s0)
    {y : MethodName} {w : Cond} {rm' : Room} {G : zq_G} {av : List Value} {S : zq_S} {r' : zq_R} {S' : zq_S} (hM : zq_M l y w rm' G av S r' S') {mk : MethodId} {methY : Method} {cY : Code} (hn : U.methodNamed? y = some mk) (hmY : U.vm.method? mk = some methY) (hcY : methY.code = some cY) {kY : Class} (hkY : U.vm.classes[mk.cls]? = some kY) (hiY : kY.init = .initialized)
    (hw : ∀ a : Array Value, w.before a U = true) (hI : zq_I G U) (hJ : zq_J S U) (hP : zq_P G S U.heap) (hfr : rm'.frames + 1 ≤ R.frames) {g : JFrame} (hlo : 2 * g.monitorRoom + (g.stack.map fun v => v.category).sum + (cY.maxLocals + 11) + rm'.locals ≤ R.locals) (hc : c0 + rm'.cells ≤ R.cells) (hs : s0 + rm'.slots ≤ R.slots) (hg : g.method = m) (hsize : g.locals.size = c.maxLocals) {ig : Instr} {len : Nat} (hdg : decode c.code g.pc = .ok (ig, len)) :
    ∃ (U' : State) (L : List Loc) (k n : Nat), Stand p l e R s m sargs below meth c U' (Ls ++ L) (c0 + k) (s0 + n) ∧ k ≤ rm'.cells ∧ n ≤ rm'.slots ∧ S'.2.1 = S.2.1 + k ∧ S.2.2 ≤ S'.2.2 ∧ (S'.2.2 = S.2.2 → L = []) ∧ (∀ q ∈ L, zq_A S q.base) ∧ zq_P G S' U'.heap ∧ (∀ q : Nat, q < S.2.1 → ¬ zq_A S q → U'.heap[q]? = U.heap[q]?) ∧ (∀ (q : Nat) (e : zq_E), S'.1 q = some e → zq_A S q) ∧
      match r' with
      | .inl v => Steps p.tables e below (doInvoke e (U.setTop g) [] mk av.toArray).1 (U'.setTop { g with pc := g.pc + len, stack := v.toList ++ g.stack })
      | .inr kx => ∃ (x : Addr) (ce : Cell), U'.heap[x]? = some ce ∧ ce.vm = .none ∧ U.vm.findClass (zq_xn kx) = some ce.cls ∧ Steps p.tables e below (doInvoke e (U.setTop g) [] mk av.toArray).1 ((U'.setTop g).pushFrame (.throwing x)) := by
  have h : At U g.method c below := by rw [hg]; exact XX.here
  have happ : (headSpec [w] rm').appliesLoose y e.platform (U.calling g mk av.toArray) = true :=
    Spec.appliesLoose_calling (g := g) h hdg hn hkY hiY (XX.room_calling (g := g) (R' := rm') hsize hmY hcY hfr hlo hc hs)
      (atoms_intro (ws := [w]) fun q hq => by rw [List.mem_singleton] at hq; rw [hq]; exact hw _)
  obtain ⟨mid, hmid⟩ := h.above
  have hfr' : (U.setTop g).frames = (.java g :: mid) ++ below := by rw [State.frames_setTop' g h.top, hmid]; rfl
  have hcal : U.calling g mk av.toArray = U.setFrames (.invoking mk av.toArray :: .java g :: U.frames.tail) := State.calling_eq h.top g mk av.toArray
  have hI' : zq_I G (U.calling g mk av.toArray) := ⟨fun q hq a => by rw [hcal, Cond.before_setFrames]; exact hI.1 q hq a, va_K.moved (u := U) (U := U.calling g mk av.toArray) (Vm.Alike.refl U.vm) hI.2.1, fun q hq => (hI.2.2 q hq).moved (U := U.calling g mk av.toArray) (Vm.Alike.refl U.vm)⟩
  have hJ' : zq_J S (U.calling g mk av.toArray) := ⟨hJ.1.to (U := U.calling g mk av.toArray) (Vm.Alike.refl U.vm) (fun _ _ _ => rfl) (fun _ h => h), hJ.2.to (U := U.calling g mk av.toArray) (Vm.Alike.refl U.vm) (fun _ _ _ => rfl) (fun _ h => h)⟩
  obtain ⟨o, s₂, hsteps, -, hend, hq⟩ := Steps.callFree hM p XX.admits XX.cas XX.clock (acts := []) hfr' happ ⟨rfl, hI', hJ', hP⟩ trivial
  have hq' : zq_end G S r' S' rm' (U.calling g mk av.toArray) o s₂ := hq
  obtain ⟨hout, hP', hkeep, hA', hwr, hW₂, L, k, n, hk, hn', hsz, hL0, hsm, hLA⟩ := hq'
  obtain ⟨e2, q2, q3, q4, q5, q6⟩ := hsm
  rw [State.frames_setTop' g h.top] at hend
  have e3 : s₂ = ({ (U.calling g mk av.toArray).setFrames s₂.frames with heap := s₂.heap, slotsUsed := s₂.slotsUsed } : State).setVm s₂.vm := by
    have : s₂ = ({ s₂ with vm := (U.calling g mk av.toArray).vm } : State).setVm s₂.vm := rfl
    rw [e2] at this
    exact this
  have hW' : U.WarmedH s₂.vm := hW₂
  obtain ⟨g₀, hg0⟩ := Option.isSome_iff_exists.mp h.top
  obtain ⟨r, hr⟩ := State.topJava?_eq_some.mp hg0
  have hsame : U.sameButNew ({ U with heap := s₂.heap, slotsUsed := s₂.slotsUsed } : State) L k n := by
    refine ⟨?_, q2, q3, q4, q5, q6⟩
    obtain ⟨t, ht, -⟩ := State.frames_cons hr
    show ({ U with heap := s₂.heap, slotsUsed := s₂.slotsUsed } : State) = { U.setFrames U.frames with heap := s₂.heap, slotsUsed := s₂.slotsUsed }
    rw [State.setFrames_self ht]
  refine ⟨({ U with heap := s₂.heap, slotsUsed := s₂.slotsUsed } : State).setVm s₂.vm, L, k, n,
    ⟨XX.admits, XX.cas, XX.clock, XX.frames, XX.room, XX.hears, XX.method, XX.code, (XX.here.setHeapUsed s₂.heap s₂.slotsUsed).setVm hW'.alike, XX.tail, State.WarmedH.trans XX.warmed hW', XX.limits, XX.bytes, XX.same.trans (hsame.setVm s.vm)⟩,
    hk, hn', hsz, hwr, hL0, hLA, hP', hkeep, hA', ?_⟩
  have hr' : (({ U with heap := s₂.heap, slotsUsed := s₂.slotsUsed } : State).setVm s₂.vm).frames = .java g₀ :: r := hr
  cases r' with
  | inl v =>
    have ho : o = .returned v := hout
    subst ho
    obtain ⟨c₂, i₂, len₂, hc₂, hd₂, hf₂⟩ := hend
    have hcc : c₂ = c := by
      have h1 : s₂.code? g.method = U.code? g.method := by
        rw [State.code?_eq, State.code?_eq, hW'.alike.method?]
      exact Option.some.inj (hc₂.symm.trans (h1.trans h.code))
    subst hcc
    have hlen : len₂ = len := by rw [hdg] at hd₂; cases hd₂; rfl
    subst hlen
    have hs₂ : s₂ = (({ U with heap := s₂.heap, slotsUsed := s₂.slotsUsed } : State).setVm s₂.vm).setTop { g with pc := g.pc + len₂, stack := v.toList ++ g.stack } := by
      refine e3.trans ?_
      rw [hf₂, State.calling_eq h.top, State.setFrames_setFrames, State.setTop_of_frames _ hr', hr]
      rfl
    show Steps p.tables e below _ ((({ U with heap := s₂.heap, slotsUsed := s₂.slotsUsed } : State).setVm s₂.vm).setTop { g with pc := g.pc + len₂, stack := v.toList ++ g.stack })
    rw [← hs₂]
    exact hsteps
  | inr kx =>
    obtain ⟨x, ce, ho, hx1, hx2, hx3⟩ := hout
    subst ho
    have hf₂ : s₂.frames = .throwing x :: .java g :: U.frames.tail := hend
    have hs₂ : s₂ = ((({ U with heap := s₂.heap, slotsUsed := s₂.slotsUsed } : State).setVm s₂.vm).setTop g).pushFrame (.throwing x) := by
      refine e3.trans ?_
      rw [hf₂, State.calling_eq h.top, State.setFrames_setFrames, State.pushFrame, State.frames_setTop _ hr', State.setTop_of_frames _ hr', State.setFrames_setFrames, hr]
      rfl
    refine ⟨x, ce, hx1, hx2, hx3, ?_⟩
    show Steps p.tables e below _ (((({ U with heap := s₂.heap, slotsUsed := s₂.slotsUsed } : State).setVm s₂.vm).setTop g).pushFrame (.throwing x))
    rw [← hs₂]
    exact hsteps
/-- what a call by contract gives at a state T of the caller -/
def zq_step (Y : zq_Y) (X : zq_X) (S S' : zq_S) (r' : zq_R) (rm' : Room) (T : State) (locs : List Loc) (ce sl : Nat) (g : JFrame) (rest : List Value) : Prop :=
  ∃ (U' : State) (L : List Loc) (k n : Nat), Stand (xp X) (yl Y) (xe X) (yR Y) (xs X) (xm X) (xa X) (xb X) (xt X) (xc X) U' (locs ++ L) (ce + k) (sl + n) ∧ k ≤ rm'.cells ∧ n ≤ rm'.slots ∧ S'.2.1 = S.2.1 + k ∧ S.2.2 ≤ S'.2.2 ∧ (S'.2.2 = S.2.2 → L = []) ∧ (∀ q ∈ L, zq_A S q.base) ∧ zq_P (yG Y) S' U'.heap ∧ (∀ q : Nat, q < S.2.1 → ¬ zq_A S q → U'.heap[q]? = T.heap[q]?) ∧ (∀ (q : Nat) (e : zq_E), S'.1 q = some e → zq_A S q) ∧
    match r' with
    | .inl v => ∀ target, Steps (xp X).tables (xe X) (xb X) (U'.setTop { g with pc := g.pc + 3, stack := v.toList ++ rest }) target → Steps (xp X).tables (xe X) (xb X) (T.setTop g) target
    | .inr kx => ∃ (x : Addr) (ce : Cell), U'.heap[x]? = some ce ∧ ce.vm = .none ∧ (xs X).vm.findClass (zq_xn kx) = some ce.cls ∧ Steps (xp X).tables (xe X) (xb X) (T.setTop g) ((U'.setTop { g with stack := rest }).pushFrame (.throwing x))
section ZQ5
variable {Y : zq_Y} {X : zq_X} {cc : ByteArray} {nL : Nat} {own nm : String} {ret : Option FieldType} {hh : List (Nat × Nat × Nat × Nat)} {pc : Nat} {lo : List (Nat × Value)} {st : List Value} {S : zq_S} {kc ks : Nat}
/-- a call's step from every state of the caller at this point -/
def zq_call (Y : zq_Y) (X : zq_X) (pc : Nat) (lo : List (Nat × Value)) (st : List Value) (S : zq_S) (kc ks : Nat) (S' : zq_S) (r' : zq_R) (rm' : Room) (rest : List Value) : Prop :=
  ∀ (T : State) (locs : List Loc) (ls : Array Slot) (ce sl : Nat), zq_P (yG Y) S T.heap → va_S (zq_A (yS Y)) (xs X).heap T.heap locs → (∀ (q : Nat) (e : zq_E), S.1 q = some e → zq_A (yS Y) q) → S.2.1 = (yS Y).2.1 + ce → ce ≤ kc → sl ≤ ks → lv_has ls (xc X).maxLocals lo →
    Stand (xp X) (yl Y) (xe X) (yR Y) (xs X) (xm X) (xa X) (xb X) (xt X) (xc X) T locs ce sl → zq_step Y X S S' r' rm' T locs ce sl (F0 (xm X) pc ls st) rest
theorem zq_sub_A {S S0 : zq_S} {ce : Nat} (a3 : ∀ (q : Nat) (e : zq_E), S.1 q = some e → zq_A S0 q) (a4 : S.2.1 = S0.2.1 + ce) : ∀ q, zq_A S q → zq_A S0 q := by
  intro q h
  rcases h with h | h
  · cases hq : S.1 q with
    | none => exact absurd hq h
    | some e => exact a3 q e hq
  · exact Or.inr (by omega)
theorem zq_contR {S' : zq_S} {v : Option Value} {rm' : Room} {rest : List Value} (h : zq_call Y X pc lo st S kc ks S' (.inl v) rm' rest) (hs0 : zq_P (yG Y) (yS Y) (xs X).heap) (c : zq_W Y X (pc + 3) lo (v.toList ++ rest) S' (kc + rm'.cells) (ks + rm'.slots)) : zq_W Y X pc lo st S kc ks := by
  intro H locs ls ce sl a1 a2 a3 a4 a5 a6 a7 a8 a9 T hT XX
  subst hT
  obtain ⟨U', L, k, n, XU, hk, hn, hsz, hwr, hL0, hLA, hP', hkeep, hA', hst⟩ := h T locs ls ce sl a1 a2 a3 a4 a7 a8 a9 XX
  have hsubA := zq_sub_A a3 a4
  have z1 : T.heap.size ≤ U'.heap.size := by rw [a1.1, hP'.1]; omega
  obtain ⟨t, b1, b2⟩ := c U'.heap (locs ++ L) ls (ce + k) (sl + n) hP' ⟨Nat.le_trans a2.1 z1, fun q g1 g2 => by
      rw [hkeep q (by rw [hs0.1] at g1; omega) (fun z => g2 (hsubA q z))]
      exact a2.2.1 q g1 g2, fun q hq => by
      rcases List.mem_append.mp hq with h | h
      · exact a2.2.2 q h
      · exact hsubA _ (hLA q h)⟩ (fun q e hq => hsubA q (hA' q e hq)) (by omega) (by omega) (fun hw => by
      rw [hL0 (by omega), a6 (by omega)]; rfl) (by omega) (by omega) a9 U' rfl XU
  exact ⟨t, hst t b1, b2⟩
/-- the callee throws, and nobody here catches it: so throws this method -/
theorem zq_contT (Z : zq_ok Y X cc nL own nm ret []) {S' : zq_S} {kx : Nat} {rm' : Room} {rest : List Value} (h : zq_call Y X pc lo st S kc ks S' (.inr kx) rm' rest) (e1 : S' = yT Y) (e2 : (.inr kx : zq_R) = yr Y) (hr : kc + rm'.cells ≤ (yR Y).cells ∧ ks + rm'.slots ≤ (yR Y).slots) : zq_W Y X pc lo st S kc ks := by
  intro H locs ls ce sl a1 a2 a3 a4 a5 a6 a7 a8 a9 T hT XX
  subst hT
  obtain ⟨U', L, k, n, XU, hk, hn, hsz, hwr, hL0, hLA, hP', hkeep, hA', x, cx, hx1, hx2, hx3, hst⟩ := h T locs ls ce sl a1 a2 a3 a4 a7 a8 a9 XX
  have hsubA := zq_sub_A a3 a4
  obtain ⟨g1, g2, g3, g4, g5⟩ := XU.leaveThrown x (g := { F0 (xm X) pc ls st with stack := rest }) rfl rfl rfl (by rw [Z.h]; intro y hy; cases hy) Z.k
  refine ⟨U'.setFrames (.throwing x :: xb X), hst.trans g1, .threw x, g2, g3, ?_⟩
  refine ⟨by rw [← e2]; exact ⟨x, cx, rfl, hx1, hx2, hx3⟩, by rw [← e1]; exact hP', fun q hq hnA => ?_, by rw [← e1]; exact fun q e hq => hsubA q (hA' q e hq), by rw [← e1]; omega, g4, locs ++ L, ce + k, sl + n, by omega, by omega, by rw [← e1]; omega, fun hw => ?_, g5, fun q hq => ?_⟩
  · show U'.heap[q]? = _
    rw [hkeep q (by omega) (fun z => hnA (hsubA q z))]
    exact a2.2.1 q (by rw [Z.p.1]; exact hq) hnA
  · rw [← e1] at hw
    rw [hL0 (by omega), a6 (by omega)]
    rfl
  · rcases List.mem_append.mp hq with h | h
    · exact a2.2.2 q h
    · exact hsubA _ (hLA q h)
theorem zq_atT (Z : zq_ok Y X cc nL own nm ret hh) {T : State} {locs : List Loc} {ce : Nat} (a2 : va_S (zq_A (yS Y)) (xs X).heap T.heap locs) (a3 : ∀ (q : Nat) (e : zq_E), S.1 q = some e → zq_A (yS Y) q) (a4 : S.2.1 = (yS Y).2.1 + ce) {vm1 : Vm} (hW : (xs X).WarmedH vm1) : zq_I (yG Y) (T.setVm vm1) ∧ zq_J S (T.setVm vm1) :=
  ⟨Z.i.warm hW, Z.j.at (T := T.setVm vm1) hW.alike a2 (zq_sub_A a3 a4)⟩
theorem zq_stepV (Z : zq_ok Y X cc nL own nm ret hh) {ix : Nat} {y : MethodName} {w : Cond} {maxL : Nat} (hcf : zq_cf y w maxL) {rm' : Room} {av : List Value} {b : Nat} {r' : zq_R} {S' : zq_S} (hM : zq_M (yl Y) y w rm' (yG Y) (.ref b :: av) S r' S') (ci : Nat) {r : vw_C} (hc : zq_cl[ci]? = some r) {fs : List Value} (hb : S.1 b = some (.inr (ci, fs))) (d : decode cc pc = .ok (.invokevirtual ix, 3))
    (w0 : w ∈ zq_T) (w1 : Cond.methodLink own ix y ∈ zq_T) (w2 : Cond.instanceMethod y ∈ zq_T) (w3 : Cond.selects r.1 y y ∈ zq_T) (w4 : Cond.initialized y.cls ∈ zq_T) (hy : y.cls ≠ "java/lang/invoke/MethodHandle" ∧ y.cls ≠ "java/lang/invoke/VarHandle" ∧ (parseMethodDescriptor y.desc).map (fun d => d.parameters.length) = some av.length)
    (hroom : rm'.frames + 1 ≤ (yR Y).frames ∧ 8 + (maxL + 11) + rm'.locals ≤ (yR Y).locals ∧ kc + rm'.cells ≤ (yR Y).cells ∧ ks + rm'.slots ≤ (yR Y).slots) {rest : List Value} (hst : st = av.reverse ++ .ref b :: rest) (hrest : (rest.map fun v => v.category).sum ≤ 8) : zq_call Y X pc lo st S kc ks S' r' rm' rest := by
  intro T locs ls ce sl a1 a2 a3 a4 a7 a8 a9 XX
  obtain ⟨mk, methM, hnamed, hmethM, hstM, habM⟩ := Cond.instanceMethod_spec (Z.w w2)
  obtain ⟨mk', methM', cM, hnamed', hmethM', hcM, hlM, hsigM⟩ := hcf (xs X) (Z.i.1 w w0)
  cases hnamed.symm.trans hnamed'
  cases hmethM.symm.trans hmethM'
  obtain ⟨c2, r2, m2, q1, q2, q3, q4, kP, hkP, hkPi⟩ := Cond.selects_spec (Z.w w3)
  obtain ⟨r0, hr0, cellB, hcB, hclB, hvmB, -⟩ := a1.2 b _ hb
  cases hr0.symm.trans hc
  have hcls := (Z.i.2.1.1 ci r hc).2.1
  have hcls' : (xs X).vm.findClass r.1 = some cellB.cls := by rw [hclB]; exact hcls
  cases hcls'.symm.trans q1
  cases (State.methodFound?_of_named hnamed ⟨hy.1, hy.2.1⟩).symm.trans q2
  cases hnamed.symm.trans q3
  have hselP : selectMethod (xe X).platform (xs X).vm cellB.cls mk = .method mk := by rw [Launch.admits_selectMethod XX.admits]; exact q4
  have hlen : av.length = methM.sig.parameters.length := by
    have h2 := hy.2.2
    rw [hsigM] at h2
    exact (Option.some.inj h2).symm
  obtain ⟨vm₁, X₁, hstep₁⟩ := XX.invokevirtual Z.x Z.o (Z.w w1) hnamed hmethM hstM hkP hkPi ⟨hy.1, hy.2.1⟩ (a := b) (cell := cellB) hcB
    (fun z h => by rw [h] at hvmB; cases hvmB) hselP hmethM habM hkP hkPi (g := F0 (xm X) pc ls st) rfl (argsL := av) (rest := rest) hlen hst (by rw [Z.b]; exact d)
  obtain ⟨hI, hJ⟩ := zq_atT Z a2 a3 a4 X₁.warmed
  obtain ⟨mk2, methY, cY, hn2, hmY, hcY, hlY, -⟩ := hcf (T.setVm vm₁) (hI.1 w w0)
  cases (X₁.named hnamed).symm.trans hn2
  obtain ⟨kY, hkY, -⟩ := className_of_methodNamed hn2
  have hiY : kY.init = .initialized := Cond.initialized_spec (findClass_of_methodNamed hn2) hkY (hI.1 _ w4 #[])
  obtain ⟨U', L, k, n, XU, f1, f2, f3, f4, f5, f6, f7, f8, f9, f10⟩ := zq_go X₁ hM hn2 hmY hcY hkY hiY (hI.1 w w0) hI hJ a1 hroom.1 (g := { F0 (xm X) pc ls st with stack := rest }) (by rw [hlY]; show 2 * 0 + (rest.map fun v => v.category).sum + _ + _ ≤ _; omega) (by omega) (by omega) rfl a9.1 (by rw [Z.b]; exact d)
  refine ⟨U', L, k, n, XU, f1, f2, f3, f4, f5, f6, f7, f8, f9, ?_⟩
  cases r' with
  | inl v => exact fun target h => hstep₁ _ fun acts => by rw [doInvoke_state]; exact f10.trans h
  | inr kx =>
    obtain ⟨x, cx, g1, g2, g3, g4⟩ := f10
    refine ⟨x, cx, g1, g2, ?_, hstep₁ _ fun acts => by rw [doInvoke_state]; exact g4⟩
    rw [X₁.warmed.alike.findClass] at g3
    exact g3
theorem zq_stepS (Z : zq_ok Y X cc nL own nm ret hh) {ix : Nat} {y : MethodName} {w : Cond} {maxL : Nat} (hcf : zq_cf y w maxL) {rm' : Room} {av : List Value} {r' : zq_R} {S' : zq_S} (hM : zq_M (yl Y) y w rm' (yG Y) av S r' S') (d : decode cc pc = .ok (.invokestatic ix, 3))
    (w0 : w ∈ zq_T) (w1 : Cond.methodLink own ix y ∈ zq_T) (w2 : Cond.static y ∈ zq_T) (w4 : Cond.initialized y.cls ∈ zq_T) (hy : y.cls ≠ "java/lang/invoke/MethodHandle" ∧ y.cls ≠ "java/lang/invoke/VarHandle" ∧ (parseMethodDescriptor y.desc).map (fun d => d.parameters.length) = some av.length)
    (hroom : rm'.frames + 1 ≤ (yR Y).frames ∧ 8 + (maxL + 11) + rm'.locals ≤ (yR Y).locals ∧ kc + rm'.cells ≤ (yR Y).cells ∧ ks + rm'.slots ≤ (yR Y).slots) {rest : List Value} (hst : st = av.reverse ++ rest) (hrest : (rest.map fun v => v.category).sum ≤ 8) : zq_call Y X pc lo st S kc ks S' r' rm' rest := by
  intro T locs ls ce sl a1 a2 a3 a4 a7 a8 a9 XX
  obtain ⟨mk, methM, cM, hnamed, hmethM, hcM, hlM, hsigM⟩ := hcf (xs X) (Z.i.1 w w0)
  have hstatic : methM.isStatic = true := Cond.static_spec hnamed hmethM (Z.w w2)
  obtain ⟨kP, hkP, -⟩ := className_of_methodNamed hnamed
  have hinitP : kP.init = .initialized := Cond.initialized_spec (findClass_of_methodNamed hnamed) hkP (Z.w w4)
  have hlen : av.length = methM.sig.parameters.length := by
    have h2 := hy.2.2
    rw [hsigM] at h2
    exact (Option.some.inj h2).symm
  obtain ⟨vm₁, X₁, hstep₁⟩ := XX.invokestatic Z.x Z.o (Z.w w1) hnamed hmethM hstatic hkP hinitP ⟨hy.1, hy.2.1⟩ (g := F0 (xm X) pc ls st) rfl (argsL := av) (rest := rest) hlen hst (by rw [Z.b]; exact d)
  obtain ⟨hI, hJ⟩ := zq_atT Z a2 a3 a4 X₁.warmed
  obtain ⟨mk2, methY, cY, hn2, hmY, hcY, hlY, -⟩ := hcf (T.setVm vm₁) (hI.1 w w0)
  cases (X₁.named hnamed).symm.trans hn2
  obtain ⟨kY, hkY, -⟩ := className_of_methodNamed hn2
  have hiY : kY.init = .initialized := Cond.initialized_spec (findClass_of_methodNamed hn2) hkY (hI.1 _ w4 #[])
  obtain ⟨U', L, k, n, XU, f1, f2, f3, f4, f5, f6, f7, f8, f9, f10⟩ := zq_go X₁ hM hn2 hmY hcY hkY hiY (hI.1 w w0) hI hJ a1 hroom.1 (g := { F0 (xm X) pc ls st with stack := rest }) (by rw [hlY]; show 2 * 0 + (rest.map fun v => v.category).sum + _ + _ ≤ _; omega) (by omega) (by omega) rfl a9.1 (by rw [Z.b]; exact d)
  refine ⟨U', L, k, n, XU, f1, f2, f3, f4, f5, f6, f7, f8, f9, ?_⟩
  cases r' with
  | inl v => exact fun target h => hstep₁ _ fun acts => by rw [doInvoke_state]; exact f10.trans h
  | inr kx =>
    obtain ⟨x, cx, g1, g2, g3, g4⟩ := f10
    refine ⟨x, cx, g1, g2, ?_, hstep₁ _ fun acts => by rw [doInvoke_state]; exact g4⟩
    rw [X₁.warmed.alike.findClass] at g3
    exact g3
theorem zq_stepIN (Z : zq_ok Y X cc nL own nm ret hh) {ix : Nat} {y : MethodName} {host : String} {bytes : ByteArray} {maxL : Nat} {rm' : Room} {av : List Value} {b : Nat} {r' : zq_R} {S' : zq_S} (hM : zq_M (yl Y) y (.code y bytes maxL none) rm' (yG Y) (.ref b :: av) S r' S') (d : decode cc pc = .ok (.invokespecial ix, 3)) (hy1 : y.name = "<init>")
    (w0 : Cond.code y bytes maxL none ∈ zq_T) (w1 : Cond.methodLinkNest own ix y host ∈ zq_T) (w2 : Cond.instanceMethod y ∈ zq_T) (w4 : Cond.initialized y.cls ∈ zq_T) (hy : y.cls ≠ "java/lang/invoke/MethodHandle" ∧ y.cls ≠ "java/lang/invoke/VarHandle" ∧ (parseMethodDescriptor y.desc).map (fun d => d.parameters.length) = some av.length)
    (hroom : rm'.frames + 1 ≤ (yR Y).frames ∧ 8 + (maxL + 11) + rm'.locals ≤ (yR Y).locals ∧ kc + rm'.cells ≤ (yR Y).cells ∧ ks + rm'.slots ≤ (yR Y).slots) {rest : List Value} (hst : st = av.reverse ++ .ref b :: rest) (hrest : (rest.map fun v => v.category).sum ≤ 8) : zq_call Y X pc lo st S kc ks S' r' rm' rest := by
  intro T locs ls ce sl a1 a2 a3 a4 a7 a8 a9 XX
  have hpl : (xe X).platform.magicAccessors = ({} : Platform).magicAccessors := by rw [XX.admits.platform]
  obtain ⟨mk, methM, cM, kP, vm₁, hnamed, hmethM, hcodeM, -, hlocalsM, -, hkP, -, hW₁, hstep₁⟩ := Steps.initColdArgsNest (e := xe X) XX.here Z.x XX.warmed hpl Z.o hy1 ⟨hy.1, hy.2.1⟩ (Z.w w1) (Z.w w2) (Z.w w0) (f := F0 (xm X) pc ls st) rfl (fun sig h => by
    have h2 := hy.2.2
    rw [h] at h2
    exact (Option.some.inj h2).symm) hst (by rw [Z.b]; exact d)
  have X₁ := XX.noted hW₁
  obtain ⟨hI, hJ⟩ := zq_atT Z a2 a3 a4 X₁.warmed
  obtain ⟨mk2, methY, cY, hn2, hmY, hcY, hlY, -⟩ := zq_cf1 (T.setVm vm₁) (hI.1 _ w0)
  cases (X₁.named hnamed).symm.trans hn2
  obtain ⟨kY, hkY, -⟩ := className_of_methodNamed hn2
  have hiY : kY.init = .initialized := Cond.initialized_spec (findClass_of_methodNamed hn2) hkY (hI.1 _ w4 #[])
  obtain ⟨U', L, k, n, XU, f1, f2, f3, f4, f5, f6, f7, f8, f9, f10⟩ := zq_go X₁ hM hn2 hmY hcY hkY hiY (hI.1 _ w0) hI hJ a1 hroom.1 (g := { F0 (xm X) pc ls st with stack := rest }) (by rw [hlY]; show 2 * 0 + (rest.map fun v => v.category).sum + _ + _ ≤ _; omega) (by omega) (by omega) rfl a9.1 (by rw [Z.b]; exact d)
  refine ⟨U', L, k, n, XU, f1, f2, f3, f4, f5, f6, f7, f8, f9, ?_⟩
  cases r' with
  | inl v => exact fun target h => hstep₁ _ fun acts => by rw [doInvoke_state]; exact f10.trans h
  | inr kx =>
    obtain ⟨x, cx, g1, g2, g3, g4⟩ := f10
    refine ⟨x, cx, g1, g2, ?_, hstep₁ _ fun acts => by rw [doInvoke_state]; exact g4⟩
    rw [X₁.warmed.alike.findClass] at g3
    exact g3
theorem zq_stepI (Z : zq_ok Y X cc nL own nm ret hh) {ix : Nat} {y : MethodName} {bytes : ByteArray} {maxL : Nat} {rm' : Room} {av : List Value} {b : Nat} {r' : zq_R} {S' : zq_S} (hM : zq_M (yl Y) y (.code y bytes maxL none) rm' (yG Y) (.ref b :: av) S r' S') (d : decode cc pc = .ok (.invokespecial ix, 3)) (hy1 : y.name = "<init>")
    (w0 : Cond.code y bytes maxL none ∈ zq_T) (w1 : Cond.methodLink own ix y ∈ zq_T) (w2 : Cond.instanceMethod y ∈ zq_T) (w4 : Cond.initialized y.cls ∈ zq_T) (hy : y.cls ≠ "java/lang/invoke/MethodHandle" ∧ y.cls ≠ "java/lang/invoke/VarHandle" ∧ (parseMethodDescriptor y.desc).map (fun d => d.parameters.length) = some av.length)
    (hroom : rm'.frames + 1 ≤ (yR Y).frames ∧ 8 + (maxL + 11) + rm'.locals ≤ (yR Y).locals ∧ kc + rm'.cells ≤ (yR Y).cells ∧ ks + rm'.slots ≤ (yR Y).slots) {rest : List Value} (hst : st = av.reverse ++ .ref b :: rest) (hrest : (rest.map fun v => v.category).sum ≤ 8) : zq_call Y X pc lo st S kc ks S' r' rm' rest := by
  intro T locs ls ce sl a1 a2 a3 a4 a7 a8 a9 XX
  have hpl : (xe X).platform.magicAccessors = ({} : Platform).magicAccessors := by rw [XX.admits.platform]
  obtain ⟨mk, methM, cM, kP, vm₁, hnamed, hmethM, hcodeM, -, hlocalsM, -, hkP, -, hW₁, hstep₁⟩ := Steps.initColdArgs (e := xe X) XX.here Z.x XX.warmed hpl Z.o hy1 ⟨hy.1, hy.2.1⟩ (Z.w w1) (Z.w w2) (Z.w w0) (f := F0 (xm X) pc ls st) rfl (fun sig h => by
    have h2 := hy.2.2
    rw [h] at h2
    exact (Option.some.inj h2).symm) hst (by rw [Z.b]; exact d)
  have X₁ := XX.noted hW₁
  obtain ⟨hI, hJ⟩ := zq_atT Z a2 a3 a4 X₁.warmed
  obtain ⟨mk2, methY, cY, hn2, hmY, hcY, hlY, -⟩ := zq_cf1 (T.setVm vm₁) (hI.1 _ w0)
  cases (X₁.named hnamed).symm.trans hn2
  obtain ⟨kY, hkY, -⟩ := className_of_methodNamed hn2
  have hiY : kY.init = .initialized := Cond.initialized_spec (findClass_of_methodNamed hn2) hkY (hI.1 _ w4 #[])
  obtain ⟨U', L, k, n, XU, f1, f2, f3, f4, f5, f6, f7, f8, f9, f10⟩ := zq_go X₁ hM hn2 hmY hcY hkY hiY (hI.1 _ w0) hI hJ a1 hroom.1 (g := { F0 (xm X) pc ls st with stack := rest }) (by rw [hlY]; show 2 * 0 + (rest.map fun v => v.category).sum + _ + _ ≤ _; omega) (by omega) (by omega) rfl a9.1 (by rw [Z.b]; exact d)
  refine ⟨U', L, k, n, XU, f1, f2, f3, f4, f5, f6, f7, f8, f9, ?_⟩
  cases r' with
  | inl v => exact fun target h => hstep₁ _ fun acts => by rw [doInvoke_state]; exact f10.trans h
  | inr kx =>
    obtain ⟨x, cx, g1, g2, g3, g4⟩ := f10
    refine ⟨x, cx, g1, g2, ?_, hstep₁ _ fun acts => by rw [doInvoke_state]; exact g4⟩
    rw [X₁.warmed.alike.findClass] at g3
    exact g3
/-- which row of the table catches the exception kx thrown at pc: it goes on at hpc -/
def zq_ct (own : String) (pc kx hpc : Nat) (hh : List (Nat × Nat × Nat × Nat)) : Prop := ∃ (pre : List (Nat × Nat × Nat × Nat)) (x : Nat × Nat × Nat × Nat) (suf : List (Nat × Nat × Nat × Nat)) (nm : String), hh = pre ++ x :: suf ∧ (∀ z ∈ pre, z.2.2.2 ≠ 0 ∧ ∃ n : String, Cond.classLink own z.2.2.2 n ∈ zq_T ∧ (zq_xn kx, n) ∈ zq_nc) ∧ x.1 ≤ pc ∧ pc < x.2.1 ∧ x.2.2.2 ≠ 0 ∧ x.2.2.1 = hpc ∧ Cond.classLink own x.2.2.2 nm ∈ zq_T ∧ Cond.castable (zq_xn kx) nm ∈ zq_T
theorem zq_contC (Z : zq_ok Y X cc nL own nm ret hh) {S' : zq_S} {kx : Nat} {rm' : Room} {rest : List Value} (h : zq_call Y X pc lo st S kc ks S' (.inr kx) rm' rest) (hpc : Nat) (hct : zq_ct own pc kx hpc hh) (c : ∀ x : Nat, zq_W Y X hpc lo [.ref x] S' (kc + rm'.cells) (ks + rm'.slots)) : zq_W Y X pc lo st S kc ks := by
  intro H locs ls ce sl a1 a2 a3 a4 a5 a6 a7 a8 a9 T hT XX
  subst hT
  obtain ⟨U', L, k, n, XU, hk, hn, hsz, hwr, hL0, hLA, hP', hkeep, hA', x, cx, hx1, hx2, hx3, hst⟩ := h T locs ls ce sl a1 a2 a3 a4 a7 a8 a9 XX
  obtain ⟨pre, row, suf, nmc, hsp, hpass, g1, g2, g3, g4, g5, g6⟩ := hct
  have hsubA := zq_sub_A a3 a4
  have hpl : (xe X).platform.magicAccessors = ({} : Platform).magicAccessors := by rw [XU.admits.platform]
  obtain ⟨c3, c4, hc3, hc4, hasg⟩ := Cond.castable_spec (Z.w g6)
  cases Option.some.inj (hc3.symm.trans hx3)
  obtain ⟨c5, hc5, hcl5⟩ := Cond.classLink_spec Z.o (Z.w g5) (xe X).platform hpl
  cases Option.some.inj (hc4.symm.trans hc5)
  obtain ⟨vm', X', st'⟩ := XU.thenCaughtThrough x (g := { F0 (xm X) pc ls st with stack := rest }) rfl hst hx1 (by rw [hx2]; rfl) (by obtain ⟨k9, h9, -⟩ := Vm.findClass_spec hx3; exact ⟨k9, h9⟩) (tableOf pre) ⟨row.1, row.2.1, row.2.2.1, row.2.2.2⟩ (tableOf suf) (by rw [Z.h, hsp]; simp [tableOf])
    (fun z hz => by
      obtain ⟨q, hq, rfl⟩ := List.mem_map.mp hz
      obtain ⟨hz0, nm2, hl1, hn1⟩ := hpass q hq
      obtain ⟨c6, hc6, hcl6⟩ := Cond.classLink_spec Z.o (Z.w hl1) (xe X).platform hpl
      obtain ⟨a8', b8, h1, h2, h3⟩ := Z.i.2.2 _ hn1
      cases Option.some.inj (h1.symm.trans hx3)
      cases Option.some.inj (h2.symm.trans hc6)
      exact Or.inr ⟨hz0, _, hcl6, h3⟩) (by simp [covers, g1, g2]) (Or.inr ⟨g3, _, hcl5, hasg⟩)
  have z1 : T.heap.size ≤ U'.heap.size := by rw [a1.1, hP'.1]; omega
  have hs0 := Z.p
  obtain ⟨t, b1, b2⟩ := c x U'.heap (locs ++ L) ls (ce + k) (sl + n) hP' ⟨Nat.le_trans a2.1 z1, fun q g1 g2 => by
      rw [hkeep q (by rw [hs0.1] at g1; omega) (fun z => g2 (hsubA q z))]
      exact a2.2.1 q g1 g2, fun q hq => by
      rcases List.mem_append.mp hq with h | h
      · exact a2.2.2 q h
      · exact hsubA _ (hLA q h)⟩ (fun q e hq => hsubA q (hA' q e hq)) (by omega) (by omega) (fun hw => by
      rw [hL0 (by omega), a6 (by omega)]; rfl) (by omega) (by omega) a9 (U'.setVm vm') rfl X'
  subst g4
  exact ⟨t, st'.trans b1, b2⟩
end ZQ5
/-- a contract out of the walk of the body -/
theorem zq_Mof {l : Launch} (hl : l.stackTraces = false) {y : MethodName} {cc : ByteArray} {nL : Nat} {ret : Option FieldType} {rm : Room} {G : zq_G} {av : List Value} {S0 : zq_S} {r : zq_R} {S1 : zq_S} (hy : plainName y.cls = true) (hlen : (lg_sl av).length ≤ nL)
    (body : ∀ X : zq_X, zq_ok (l, rm, G, S0, r, S1) X cc nL y.cls y.name ret [] → zq_W (l, rm, G, S0, r, S1) X 0 (lv_args 0 av) [] S0 0 0) : zq_M l y (.code y cc nL ret) rm G av S0 r S1 := by
  refine MetFree.of_bodyS (code := cc) (maxLocals := nL) (ret := ret) hy ?_ ?_
  · intro args s m h hn
    obtain ⟨meth, c, h1, h2, h3, h4, h5, h6, -, -⟩ := Cond.code_spec hn (atoms_spec (ws := [Cond.code y cc nL ret]) h _ List.mem_cons_self)
    exact ⟨meth, c, h1, h2, h3, h4, h5, h6⟩
  · intro p e s m args below meth c s₁ B hml hP _
    obtain ⟨rfl, hI, hJ, hS⟩ := hP
    have hh0 : s₁.heap = s.heap := by rw [B.state]; rfl
    obtain ⟨meth', c', h1, h2, h3, h4, h5, h6, h7, -⟩ := Cond.code_spec B.named (atoms_spec (ws := [Cond.code y cc nL ret]) B.pre _ List.mem_cons_self)
    cases B.method.symm.trans h1
    have hcc : c' = c := by
      have h := B.here.code
      rw [State.code?_eq, B.method₁] at h
      exact Option.some.inj (h2.symm.trans h)
    subst hcc
    have hemp : c'.exceptionTable.toList = tableOf [] := by
      have h0 : c'.exceptionTable.size = 0 := by simpa [Array.isEmpty] using h7
      exact List.eq_nil_of_length_eq_zero (by simpa using h0)
    have Z : zq_ok (l, rm, G, S0, r, S1) (p, e, s, m, av.toArray, below, meth, c') cc nL y.cls y.name ret [] :=
      ⟨B.exec, B.bytes, hml, findClass_of_methodNamed B.named, B.returns, B.notSynchronized, (name_of_methodNamed B.named B.method).1, hI, hJ, hS, hl, hemp⟩
    have hent := lv_entry av (n := nL) hlen
    have K := body _ Z s.heap [] ((lg_sl av ++ List.replicate (nL - (lg_sl av).length) Slot.unset).toArray) 0 0 hS va_S.rf (fun q e hq => Or.inl (by rw [hq]; simp)) rfl (Nat.le_refl _) (fun _ => rfl) (Nat.le_refl _) (Nat.le_refl _) (by show lv_has _ c'.maxLocals _; rw [hml]; exact hent)
    obtain ⟨t, a1, o, b1, b2, b3⟩ := K s₁ hh0 (Stand.of_body B)
    refine ⟨t, o, ?_, b1, b2, b3⟩
    rw [lg_entry_eq]
    exact a1
/-- .. of a method with a table -/
theorem zq_MofW {hh : List (Nat × Nat × Nat × Nat)} {l : Launch} (hl : l.stackTraces = false) {y : MethodName} {cc : ByteArray} {nL : Nat} {ret : Option FieldType} {rm : Room} {G : zq_G} {av : List Value} {S0 : zq_S} {r : zq_R} {S1 : zq_S} (hy : plainName y.cls = true) (hlen : (lg_sl av).length ≤ nL)
    (body : ∀ X : zq_X, zq_ok (l, rm, G, S0, r, S1) X cc nL y.cls y.name ret hh → zq_W (l, rm, G, S0, r, S1) X 0 (lv_args 0 av) [] S0 0 0) : zq_M l y (.codeWith y cc nL ret hh) rm G av S0 r S1 := by
  refine MetFree.of_bodyS (code := cc) (maxLocals := nL) (ret := ret) hy ?_ ?_
  · intro args s m h hn
    obtain ⟨m9, meth, c, hn9, h1, h2, h3, h4, -, h5, h6, -⟩ := Cond.codeWith_spec (atoms_spec (ws := [Cond.codeWith y cc nL ret hh]) h _ List.mem_cons_self)
    cases hn.symm.trans hn9
    exact ⟨meth, c, h1, h2, h3, h4, h5, h6⟩
  · intro p e s m args below meth c s₁ B hml hP _
    obtain ⟨rfl, hI, hJ, hS⟩ := hP
    have hh0 : s₁.heap = s.heap := by rw [B.state]; rfl
    obtain ⟨m9, meth', c', hn9, h1, h2, h3, h4, h7, h5, h6, -⟩ := Cond.codeWith_spec (atoms_spec (ws := [Cond.codeWith y cc nL ret hh]) B.pre _ List.mem_cons_self)
    cases B.named.symm.trans hn9
    cases B.method.symm.trans h1
    have hcc : c' = c := by
      have h := B.here.code
      rw [State.code?_eq, B.method₁] at h
      exact Option.some.inj (h2.symm.trans h)
    subst hcc
    have hemp : c'.exceptionTable.toList = tableOf hh := by
      rw [← h7]
      unfold tableOf
      rw [List.map_map]
      exact (List.map_id _).symm
    have Z : zq_ok (l, rm, G, S0, r, S1) (p, e, s, m, av.toArray, below, meth, c') cc nL y.cls y.name ret hh :=
      ⟨B.exec, B.bytes, hml, findClass_of_methodNamed B.named, B.returns, B.notSynchronized, (name_of_methodNamed B.named B.method).1, hI, hJ, hS, hl, hemp⟩
    have hent := lv_entry av (n := nL) hlen
    have K := body _ Z s.heap [] ((lg_sl av ++ List.replicate (nL - (lg_sl av).length) Slot.unset).toArray) 0 0 hS va_S.rf (fun q e hq => Or.inl (by rw [hq]; simp)) rfl (Nat.le_refl _) (fun _ => rfl) (Nat.le_refl _) (Nat.le_refl _) (by show lv_has _ c'.maxLocals _; rw [hml]; exact hent)
    obtain ⟨t, a1, o, b1, b2, b3⟩ := K s₁ hh0 (Stand.of_body B)
    refine ⟨t, o, ?_, b1, b2, b3⟩
    rw [lg_entry_eq]
    exact a1
end
section
/-! pure operations on pictures: what an instruction does where it goes well; none: it doesn't -/
/-- fuel of the loops that no count bounds from outside -/
def zq_F : Nat := 1000000
def zs_b {τ β : Type} (o : Option (zq_S × τ)) (k : zq_S → τ → Option β) : Option β := match o with
  | some q => k q.1 q.2
  | none => none
theorem zs_bS {τ β : Type} {o : Option (zq_S × τ)} {k : zq_S → τ → Option β} {r : β} (h : zs_b o k = some r) : ∃ S x, o = some (S, x) ∧ k S x = some r := by
  cases o with
  | none => cases h
  | some q => exact ⟨q.1, q.2, rfl, h⟩
def zs_t {τ β : Type} (o : Option (zq_S × (τ ⊕ Nat))) (k : zq_S → τ → Option β) (e : zq_S → Nat → Option β) : Option β := match o with
  | some (S, .inl x) => k S x
  | some (S, .inr j) => e S j
  | none => none
theorem zs_tS {τ β : Type} {o : Option (zq_S × (τ ⊕ Nat))} {k : zq_S → τ → Option β} {e : zq_S → Nat → Option β} {r : β} (h : zs_t o k e = some r) : (∃ S x, o = some (S, .inl x) ∧ k S x = some r) ∨ ∃ S j, o = some (S, .inr j) ∧ e S j = some r := by
  cases o with
  | none => cases h
  | some q =>
    obtain ⟨S, x | j⟩ := q
    · exact Or.inl ⟨S, x, rfl, h⟩
    · exact Or.inr ⟨S, j, rfl, h⟩
theorem zs_if {α : Type} {p : Prop} [Decidable p] {a : α} {o r : Option α} (c : p) (h : (if p then some a else o) = r) : some a = r := by rw [if_pos c] at h; exact h
theorem zs_T {α : Type} {p : Prop} [Decidable p] {a b c : α} (h : p) (e : (if p then a else b) = c) : a = c := (if_pos h).symm.trans e
theorem zs_N {α : Type} {p : Prop} [Decidable p] {a b c : α} (h : ¬ p) (e : (if p then a else b) = c) : b = c := (if_neg h).symm.trans e
/-- a check that must go well -/
theorem zs_C {α : Type} {p : Prop} [Decidable p] {a : Option α} {c : α} (e : (if p then a else none) = some c) : p ∧ a = some c := by
  by_cases h : p
  · exact ⟨h, (if_pos h).symm.trans e⟩
  · rw [if_neg h] at e; cases e
def zs_is (S : zq_S) (b ci : Nat) : Bool := match S.1 b with
  | some (.inr (c, _)) => c == ci
  | _ => false
theorem zs_isS {S : zq_S} {b ci : Nat} (h : zs_is S b ci = true) : ∃ fs, S.1 b = some (.inr (ci, fs)) := by
  unfold zs_is at h
  split at h
  · rename_i c fs e
    have : c = ci := by simpa using h
    exact ⟨fs, by rw [e, this]⟩
  · cases h
theorem zs_1 {α : Type} {S T : zq_S} {x v : α} (h : some (S, x) = some (T, v)) : S = T := by cases h; rfl
theorem zs_2 {α β : Type} (f : α → β) {S T : zq_S} {x v : α} (h : some (S, x) = some (T, v)) : f x = f v := by cases h; rfl
def zq_ei (x : Int32 ⊕ Nat) : zq_R := match x with
  | .inl v => .inl (some (.int v))
  | .inr k => .inr k
def zq_ev (x : Unit ⊕ Nat) : zq_R := match x with
  | .inl _ => .inl none
  | .inr k => .inr k
def zq_el (x : Int64 ⊕ Nat) : zq_R := match x with
  | .inl v => .inl (some (.long v))
  | .inr k => .inr k
def zq_er (x : Option Nat ⊕ Nat) : zq_R := match x with
  | .inl v => .inl (some (va_rf v))
  | .inr k => .inr k
theorem zq_crf (x : Option Nat) : (va_rf x).category = 1 := by cases x <;> rfl
theorem zq_swOut {x : Int32} (n : Nat) (hn : n < 2 ^ 31) (h : ∀ k, k < n → ¬ x = nI k) : x.toInt < 0 ∨ (n : Int) - 1 < x.toInt := by
  by_cases h0 : x < 0
  · exact Or.inl (by simpa using Int32.lt_iff_toInt_lt.mp h0)
  · obtain ⟨j, hj, rfl⟩ := nI_of h0
    rw [nI_toInt hj]
    by_cases hjn : j < n
    · exact absurd rfl (h j hjn)
    · exact Or.inr (by omega)
def zs_gi (S : zq_S) (a ci k : Nat) : Option Int32 := match S.1 a with
  | some (.inr (c, fs)) => if c = ci then (match fs[k]? with
    | some (.int x) => some x
    | _ => none) else none
  | _ => none
theorem zs_giS {S : zq_S} {a ci k : Nat} {x : Int32} (h : zs_gi S a ci k = some x) : ∃ fs, S.1 a = some (.inr (ci, fs)) ∧ fs[k]? = some (.int x) := by
  unfold zs_gi at h
  split at h
  · rename_i c fs e
    have hq := zs_C h
    clear h
    obtain ⟨hc, h⟩ := hq
    subst hc
    cases hv : fs[k]? with
    | none => rw [hv] at h; cases h
    | some v => rw [hv] at h; cases v <;> first | (cases h; exact ⟨fs, e, hv⟩) | cases h
  · cases h
def zs_gl (S : zq_S) (a ci k : Nat) : Option Int64 := match S.1 a with
  | some (.inr (c, fs)) => if c = ci then (match fs[k]? with
    | some (.long x) => some x
    | _ => none) else none
  | _ => none
theorem zs_glS {S : zq_S} {a ci k : Nat} {x : Int64} (h : zs_gl S a ci k = some x) : ∃ fs, S.1 a = some (.inr (ci, fs)) ∧ fs[k]? = some (.long x) := by
  unfold zs_gl at h
  split at h
  · rename_i c fs e
    have hq := zs_C h
    clear h
    obtain ⟨hc, h⟩ := hq
    subst hc
    cases hv : fs[k]? with
    | none => rw [hv] at h; cases h
    | some v => rw [hv] at h; cases v <;> first | (cases h; exact ⟨fs, e, hv⟩) | cases h
  · cases h
def zs_gr (S : zq_S) (a ci k : Nat) : Option (Option Nat) := match S.1 a with
  | some (.inr (c, fs)) => if c = ci then (match fs[k]? with
    | some (.ref x) => some (some x)
    | some .null => some none
    | _ => none) else none
  | _ => none
theorem zs_grS {S : zq_S} {a ci k : Nat} {x : Option Nat} (h : zs_gr S a ci k = some x) : ∃ fs, S.1 a = some (.inr (ci, fs)) ∧ fs[k]? = some (va_rf x) := by
  unfold zs_gr at h
  split at h
  · rename_i c fs e
    have hq := zs_C h
    clear h
    obtain ⟨hc, h⟩ := hq
    subst hc
    cases hv : fs[k]? with
    | none => rw [hv] at h; cases h
    | some v => rw [hv] at h; cases v <;> first | (cases h; exact ⟨fs, e, hv⟩) | cases h
  · cases h
def zs_p (S : zq_S) (a ci k : Nat) (v : Value) : Option zq_S := match S.1 a with
  | some (.inr (c, fs)) => if c = ci ∧ k < fs.length then some (zq_u S a (.inr (ci, fs.set k v))) else none
  | _ => none
theorem zs_pS {S S' : zq_S} {a ci k : Nat} {v : Value} (h : zs_p S a ci k v = some S') : ∃ fs, S.1 a = some (.inr (ci, fs)) ∧ k < fs.length ∧ S' = zq_u S a (.inr (ci, fs.set k v)) := by
  unfold zs_p at h
  split at h
  · rename_i c fs e
    split at h
    · rename_i hc
      obtain ⟨rfl, hk⟩ := hc
      cases h
      exact ⟨fs, e, hk, rfl⟩
    · cases h
  · cases h
/-- a boolean is stored as 0 or 1 -/
def zs_pz (S : zq_S) (a ci k : Nat) (x : Int32) : Option zq_S := if x = 0 ∨ x = 1 then zs_p S a ci k (.int x) else none
def zs_len (S : zq_S) (a t : Nat) : Option Int32 := match S.1 a with
  | some (.inl (t', x)) => if t' = t then some (nI x.1) else none
  | _ => none
theorem zs_lenS {S : zq_S} {a t : Nat} {v : Int32} (h : zs_len S a t = some v) : ∃ x, S.1 a = some (.inl (t, x)) ∧ v = nI x.1 := by
  unfold zs_len at h
  split at h
  · rename_i t' x e
    split at h
    · rename_i ht
      subst ht
      cases h
      exact ⟨x, e, rfl⟩
    · cases h
  · cases h
def zs_lal (S : zq_S) (a t : Nat) (i : Int32) : Option (Int64) := match S.1 a with
  | some (.inl (t', n, .inr (.inl f))) => if t' = t then (if i < 0 ∨ n ≤ i.toNatClampNeg then none else some (f i.toNatClampNeg)) else none
  | _ => none
theorem zs_lalS {S : zq_S} {a t : Nat} {i : Int32} {v : Int64} (h : zs_lal S a t i = some v) : ∃ n f, S.1 a = some (.inl (t, n, .inr (.inl f))) ∧ vp_in i n ∧ f i.toNatClampNeg = v := by
  unfold zs_lal at h
  split at h
  · rename_i t' n f e
    have hq := zs_C h
    clear h
    obtain ⟨hc, h⟩ := hq
    subst hc
    by_cases hi : i < 0 ∨ n ≤ i.toNatClampNeg
    · rw [if_pos hi] at h; cases h
    · rw [if_neg hi] at h
      cases h
      exact ⟨n, f, e, hi, rfl⟩
  · cases h
def zs_las (S : zq_S) (a t : Nat) (i : Int32) (v : Int64) : Option zq_S := match S.1 a with
  | some (.inl (t', n, .inr (.inl f))) => if t' = t then (if i < 0 ∨ n ≤ i.toNatClampNeg then none else some (zq_u S a (.inl (t, n, .inr (.inl (vp_updL f i.toNatClampNeg v)))))) else none
  | _ => none
theorem zs_lasS {S S' : zq_S} {a t : Nat} {i : Int32} {v : Int64} (h : zs_las S a t i v = some S') : ∃ n f, S.1 a = some (.inl (t, n, .inr (.inl f))) ∧ vp_in i n ∧ S' = zq_u S a (.inl (t, n, .inr (.inl (vp_updL f i.toNatClampNeg v)))) := by
  unfold zs_las at h
  split at h
  · rename_i t' n f e
    have hq := zs_C h
    clear h
    obtain ⟨hc, h⟩ := hq
    subst hc
    by_cases hi : i < 0 ∨ n ≤ i.toNatClampNeg
    · rw [if_pos hi] at h; cases h
    · rw [if_neg hi] at h
      cases h
      exact ⟨n, f, e, hi, rfl⟩
  · cases h
def zs_ial (S : zq_S) (a t : Nat) (i : Int32) : Option (Int32) := match S.1 a with
  | some (.inl (t', n, .inl f)) => if t' = t then (if i < 0 ∨ n ≤ i.toNatClampNeg then none else some (f i.toNatClampNeg)) else none
  | _ => none
theorem zs_ialS {S : zq_S} {a t : Nat} {i : Int32} {v : Int32} (h : zs_ial S a t i = some v) : ∃ n f, S.1 a = some (.inl (t, n, .inl f)) ∧ vp_in i n ∧ f i.toNatClampNeg = v := by
  unfold zs_ial at h
  split at h
  · rename_i t' n f e
    have hq := zs_C h
    clear h
    obtain ⟨hc, h⟩ := hq
    subst hc
    by_cases hi : i < 0 ∨ n ≤ i.toNatClampNeg
    · rw [if_pos hi] at h; cases h
    · rw [if_neg hi] at h
      cases h
      exact ⟨n, f, e, hi, rfl⟩
  · cases h
def zs_ias (S : zq_S) (a t : Nat) (i : Int32) (v : Int32) : Option zq_S := match S.1 a with
  | some (.inl (t', n, .inl f)) => if t' = t then (if i < 0 ∨ n ≤ i.toNatClampNeg then none else some (zq_u S a (.inl (t, n, .inl (upd f i.toNatClampNeg v))))) else none
  | _ => none
theorem zs_iasS {S S' : zq_S} {a t : Nat} {i : Int32} {v : Int32} (h : zs_ias S a t i v = some S') : ∃ n f, S.1 a = some (.inl (t, n, .inl f)) ∧ vp_in i n ∧ S' = zq_u S a (.inl (t, n, .inl (upd f i.toNatClampNeg v))) := by
  unfold zs_ias at h
  split at h
  · rename_i t' n f e
    have hq := zs_C h
    clear h
    obtain ⟨hc, h⟩ := hq
    subst hc
    by_cases hi : i < 0 ∨ n ≤ i.toNatClampNeg
    · rw [if_pos hi] at h; cases h
    · rw [if_neg hi] at h
      cases h
      exact ⟨n, f, e, hi, rfl⟩
  · cases h
def zs_aal (S : zq_S) (a t : Nat) (i : Int32) : Option (Option Nat) := match S.1 a with
  | some (.inl (t', n, .inr (.inr (.inr (.inr f))))) => if t' = t then (if i < 0 ∨ n ≤ i.toNatClampNeg then none else some (f i.toNatClampNeg)) else none
  | _ => none
theorem zs_aalS {S : zq_S} {a t : Nat} {i : Int32} {v : Option Nat} (h : zs_aal S a t i = some v) : ∃ n f, S.1 a = some (.inl (t, n, .inr (.inr (.inr (.inr f))))) ∧ vp_in i n ∧ f i.toNatClampNeg = v := by
  unfold zs_aal at h
  split at h
  · rename_i t' n f e
    have hq := zs_C h
    clear h
    obtain ⟨hc, h⟩ := hq
    subst hc
    by_cases hi : i < 0 ∨ n ≤ i.toNatClampNeg
    · rw [if_pos hi] at h; cases h
    · rw [if_neg hi] at h
      cases h
      exact ⟨n, f, e, hi, rfl⟩
  · cases h
def zs_ok (S : zq_S) (ci : Nat) (v : Option Nat) : Bool := match v with
  | none => true
  | some x => zs_is S x ci
def zs_aas (S : zq_S) (a t : Nat) (ci : Nat) (i : Int32) (v : Option Nat) : Option zq_S := match S.1 a with
  | some (.inl (t', n, .inr (.inr (.inr (.inr f))))) => if t' = t then (if i < 0 ∨ n ≤ i.toNatClampNeg ∨ zs_ok S ci v = false then none else some (zq_u S a (.inl (t, n, .inr (.inr (.inr (.inr (va_up f i.toNatClampNeg v)))))))) else none
  | _ => none
theorem zs_aasS {S S' : zq_S} {a t ci : Nat} {i : Int32} {v : Option Nat} (h : zs_aas S a t ci i v = some S') : ∃ n f, S.1 a = some (.inl (t, n, .inr (.inr (.inr (.inr f))))) ∧ vp_in i n ∧ (∀ w, v = some w → ∃ vs, S.1 w = some (.inr (ci, vs))) ∧ S' = zq_u S a (.inl (t, n, .inr (.inr (.inr (.inr (va_up f i.toNatClampNeg v)))))) := by
  unfold zs_aas at h
  split at h
  · rename_i t' n f e
    have hq := zs_C h
    clear h
    obtain ⟨hc, h⟩ := hq
    subst hc
    by_cases hi : i < 0 ∨ n ≤ i.toNatClampNeg ∨ zs_ok S ci v = false
    · rw [if_pos hi] at h; cases h
    · rw [if_neg hi] at h
      cases h
      refine ⟨n, f, e, fun z => hi (by rcases z with z | z; exact Or.inl z; exact Or.inr (Or.inl z)), fun w hw => ?_, rfl⟩
      subst hw
      cases hx : zs_is S w ci with
      | true => exact zs_isS hx
      | false => exact absurd (Or.inr (Or.inr hx)) hi
  · cases h
def zs_cpl (S : zq_S) (t a0 : Nat) (sp : Int32) (a : Nat) (dp n : Int32) : Option zq_S := match S.1 a0, S.1 a with
  | some (.inl (t0, n0, .inr (.inl f))), some (.inl (t1, n1, .inr (.inl g))) => if t0 = t ∧ t1 = t ∧ ¬ sp < 0 ∧ ¬ dp < 0 ∧ ¬ n < 0 ∧ sp.toNatClampNeg + n.toNatClampNeg ≤ n0 ∧ dp.toNatClampNeg + n.toNatClampNeg ≤ n1 then some (zq_u S a (.inl (t, n1, .inr (.inl (va_cpy f g sp.toNatClampNeg dp.toNatClampNeg n.toNatClampNeg))))) else none
  | _, _ => none
theorem zs_cplS {S S' : zq_S} {t a0 a : Nat} {sp dp n : Int32} (h : zs_cpl S t a0 sp a dp n = some S') : ∃ n0 n1 f g, S.1 a0 = some (.inl (t, n0, .inr (.inl f))) ∧ S.1 a = some (.inl (t, n1, .inr (.inl g))) ∧ (¬ sp < 0 ∧ ¬ dp < 0 ∧ ¬ n < 0 ∧ sp.toNatClampNeg + n.toNatClampNeg ≤ n0 ∧ dp.toNatClampNeg + n.toNatClampNeg ≤ n1) ∧ S' = zq_u S a (.inl (t, n1, .inr (.inl (va_cpy f g sp.toNatClampNeg dp.toNatClampNeg n.toNatClampNeg)))) := by
  unfold zs_cpl at h
  split at h
  · rename_i t0 n0 f t1 n1 g e0 e1
    split at h
    · rename_i hc
      obtain ⟨rfl, rfl, hc⟩ := hc
      cases h
      exact ⟨n0, n1, f, g, e0, e1, hc, rfl⟩
    · cases h
  · cases h
section ZQ6
variable {Y : zq_Y} {X : zq_X} {cc : ByteArray} {nL : Nat} {own nm : String} {ret : Option FieldType} {hh : List (Nat × Nat × Nat × Nat)} {pc : Nat} {lo : List (Nat × Value)} {st : List Value} {S : zq_S} {kc ks : Nat}
theorem zr_geti (Z : zq_ok Y X cc nL own nm ret hh) {ix ci : Nat} {C : String} {T : u_T} {N : Nat} {ty0 : Nat → FieldType} (hcd : zq_cd ci C T N ty0) (k : Nat) (d : decode cc pc = .ok (.getfield ix, 3)) (hk : k < N) (hw : Cond.fieldLink own ix (T k).1 (T k).2.1 (T k).2.2.1 ∈ zq_T) {a : Nat} {x : Int32} (h : zs_gi S a ci k = some x) (c : zq_W Y X (pc + 3) lo (.int x :: st) S kc ks) : zq_W Y X pc lo (.ref a :: st) S kc ks := by
  obtain ⟨fs, e1, e2⟩ := zs_giS h
  exact zq_get Z hcd k d hk hw e1 e2 c
theorem zr_getl (Z : zq_ok Y X cc nL own nm ret hh) {ix ci : Nat} {C : String} {T : u_T} {N : Nat} {ty0 : Nat → FieldType} (hcd : zq_cd ci C T N ty0) (k : Nat) (d : decode cc pc = .ok (.getfield ix, 3)) (hk : k < N) (hw : Cond.fieldLink own ix (T k).1 (T k).2.1 (T k).2.2.1 ∈ zq_T) {a : Nat} {x : Int64} (h : zs_gl S a ci k = some x) (c : zq_W Y X (pc + 3) lo (.long x :: st) S kc ks) : zq_W Y X pc lo (.ref a :: st) S kc ks := by
  obtain ⟨fs, e1, e2⟩ := zs_glS h
  exact zq_get Z hcd k d hk hw e1 e2 c
theorem zr_getr (Z : zq_ok Y X cc nL own nm ret hh) {ix ci : Nat} {C : String} {T : u_T} {N : Nat} {ty0 : Nat → FieldType} (hcd : zq_cd ci C T N ty0) (k : Nat) (d : decode cc pc = .ok (.getfield ix, 3)) (hk : k < N) (hw : Cond.fieldLink own ix (T k).1 (T k).2.1 (T k).2.2.1 ∈ zq_T) {a : Nat} {x : Option Nat} (h : zs_gr S a ci k = some x) (c : zq_W Y X (pc + 3) lo (va_rf x :: st) S kc ks) : zq_W Y X pc lo (.ref a :: st) S kc ks := by
  obtain ⟨fs, e1, e2⟩ := zs_grS h
  exact zq_get Z hcd k d hk hw e1 e2 c
theorem zr_puti (Z : zq_ok Y X cc nL own nm ret hh) {ix ci : Nat} {C : String} {T : u_T} {N : Nat} {ty0 : Nat → FieldType} (hcd : zq_cd ci C T N ty0) (k : Nat) (d : decode cc pc = .ok (.putfield ix, 3)) (hk : k < N) (hw : Cond.fieldLink own ix (T k).1 (T k).2.1 (T k).2.2.1 ∈ zq_T) (hfin : (T k).2.2.2 = false) (hd : parseFieldDescriptor (T k).2.2.1 = some .int) {a : Nat} {x : Int32} {S' : zq_S} (h : zs_p S a ci k (.int x) = some S') (c : zq_W Y X (pc + 3) lo st S' kc ks) : zq_W Y X pc lo (.int x :: .ref a :: st) S kc ks := by
  obtain ⟨fs, e1, e2, rfl⟩ := zs_pS h
  exact zq_put Z hcd k d hk hw hfin hd rfl rfl e1 e2 c
theorem zr_putiF (Z : zq_ok Y X cc nL own nm ret hh) {ix ci : Nat} {C : String} {T : u_T} {N : Nat} {ty0 : Nat → FieldType} (hcd : zq_cd ci C T N ty0) (k : Nat) (d : decode cc pc = .ok (.putfield ix, 3)) (hk : k < N) (hw : Cond.fieldLink own ix (T k).1 (T k).2.1 (T k).2.2.1 ∈ zq_T) (hfin : (T k).2.2.2 = true) (hdecl : (T k).1 = own) (hin2 : nm = "<init>") (hd : parseFieldDescriptor (T k).2.2.1 = some .int) {a : Nat} {x : Int32} {S' : zq_S} (h : zs_p S a ci k (.int x) = some S') (c : zq_W Y X (pc + 3) lo st S' kc ks) : zq_W Y X pc lo (.int x :: .ref a :: st) S kc ks := by
  obtain ⟨fs, e1, e2, rfl⟩ := zs_pS h
  exact zq_putF Z hcd k d hk hw hfin hdecl hin2 hd rfl rfl e1 e2 c
theorem zr_putl (Z : zq_ok Y X cc nL own nm ret hh) {ix ci : Nat} {C : String} {T : u_T} {N : Nat} {ty0 : Nat → FieldType} (hcd : zq_cd ci C T N ty0) (k : Nat) (d : decode cc pc = .ok (.putfield ix, 3)) (hk : k < N) (hw : Cond.fieldLink own ix (T k).1 (T k).2.1 (T k).2.2.1 ∈ zq_T) (hfin : (T k).2.2.2 = false) (hd : parseFieldDescriptor (T k).2.2.1 = some .long) {a : Nat} {x : Int64} {S' : zq_S} (h : zs_p S a ci k (.long x) = some S') (c : zq_W Y X (pc + 3) lo st S' kc ks) : zq_W Y X pc lo (.long x :: .ref a :: st) S kc ks := by
  obtain ⟨fs, e1, e2, rfl⟩ := zs_pS h
  exact zq_put Z hcd k d hk hw hfin hd rfl rfl e1 e2 c
theorem zr_putlF (Z : zq_ok Y X cc nL own nm ret hh) {ix ci : Nat} {C : String} {T : u_T} {N : Nat} {ty0 : Nat → FieldType} (hcd : zq_cd ci C T N ty0) (k : Nat) (d : decode cc pc = .ok (.putfield ix, 3)) (hk : k < N) (hw : Cond.fieldLink own ix (T k).1 (T k).2.1 (T k).2.2.1 ∈ zq_T) (hfin : (T k).2.2.2 = true) (hdecl : (T k).1 = own) (hin2 : nm = "<init>") (hd : parseFieldDescriptor (T k).2.2.1 = some .long) {a : Nat} {x : Int64} {S' : zq_S} (h : zs_p S a ci k (.long x) = some S') (c : zq_W Y X (pc + 3) lo st S' kc ks) : zq_W Y X pc lo (.long x :: .ref a :: st) S kc ks := by
  obtain ⟨fs, e1, e2, rfl⟩ := zs_pS h
  exact zq_putF Z hcd k d hk hw hfin hdecl hin2 hd rfl rfl e1 e2 c
theorem zr_putr (Z : zq_ok Y X cc nL own nm ret hh) {ix ci : Nat} {C : String} {T : u_T} {N : Nat} {ty0 : Nat → FieldType} (hcd : zq_cd ci C T N ty0) (k : Nat) (d : decode cc pc = .ok (.putfield ix, 3)) (hk : k < N) (hw : Cond.fieldLink own ix (T k).1 (T k).2.1 (T k).2.2.1 ∈ zq_T) (hfin : (T k).2.2.2 = false) {ty : FieldType} (hr : (∃ n, ty = .object n) ∨ ∃ t, ty = .array t) (hd : parseFieldDescriptor (T k).2.2.1 = some ty) {a : Nat} {x : Option Nat} {S' : zq_S} (h : zs_p S a ci k (va_rf x) = some S') (c : zq_W Y X (pc + 3) lo st S' kc ks) : zq_W Y X pc lo (va_rf x :: .ref a :: st) S kc ks := by
  obtain ⟨fs, e1, e2, rfl⟩ := zs_pS h
  exact zq_put Z hcd k d hk hw hfin hd (by rcases hr with ⟨n, rfl⟩ | ⟨t, rfl⟩ <;> cases x <;> rfl) (by rcases hr with ⟨n, rfl⟩ | ⟨t, rfl⟩ <;> cases x <;> rfl) e1 e2 c
theorem zr_putrF (Z : zq_ok Y X cc nL own nm ret hh) {ix ci : Nat} {C : String} {T : u_T} {N : Nat} {ty0 : Nat → FieldType} (hcd : zq_cd ci C T N ty0) (k : Nat) (d : decode cc pc = .ok (.putfield ix, 3)) (hk : k < N) (hw : Cond.fieldLink own ix (T k).1 (T k).2.1 (T k).2.2.1 ∈ zq_T) (hfin : (T k).2.2.2 = true) (hdecl : (T k).1 = own) (hin2 : nm = "<init>") {ty : FieldType} (hr : (∃ n, ty = .object n) ∨ ∃ t, ty = .array t) (hd : parseFieldDescriptor (T k).2.2.1 = some ty) {a : Nat} {x : Option Nat} {S' : zq_S} (h : zs_p S a ci k (va_rf x) = some S') (c : zq_W Y X (pc + 3) lo st S' kc ks) : zq_W Y X pc lo (va_rf x :: .ref a :: st) S kc ks := by
  obtain ⟨fs, e1, e2, rfl⟩ := zs_pS h
  exact zq_putF Z hcd k d hk hw hfin hdecl hin2 hd (by rcases hr with ⟨n, rfl⟩ | ⟨t, rfl⟩ <;> cases x <;> rfl) (by rcases hr with ⟨n, rfl⟩ | ⟨t, rfl⟩ <;> cases x <;> rfl) e1 e2 c
theorem zr_putz (Z : zq_ok Y X cc nL own nm ret hh) {ix ci : Nat} {C : String} {T : u_T} {N : Nat} {ty0 : Nat → FieldType} (hcd : zq_cd ci C T N ty0) (k : Nat) (d : decode cc pc = .ok (.putfield ix, 3)) (hk : k < N) (hw : Cond.fieldLink own ix (T k).1 (T k).2.1 (T k).2.2.1 ∈ zq_T) (hfin : (T k).2.2.2 = false) (hd : parseFieldDescriptor (T k).2.2.1 = some .boolean) {a : Nat} {x : Int32} {S' : zq_S} (h : zs_pz S a ci k x = some S') (c : zq_W Y X (pc + 3) lo st S' kc ks) : zq_W Y X pc lo (.int x :: .ref a :: st) S kc ks := by
  obtain ⟨hx, h⟩ := zs_C h
  obtain ⟨fs, e1, e2, rfl⟩ := zs_pS h
  exact zq_put Z hcd k d hk hw hfin hd (by rcases hx with rfl | rfl <;> rfl) (by rcases hx with rfl | rfl <;> rfl) e1 e2 c
theorem zr_putzF (Z : zq_ok Y X cc nL own nm ret hh) {ix ci : Nat} {C : String} {T : u_T} {N : Nat} {ty0 : Nat → FieldType} (hcd : zq_cd ci C T N ty0) (k : Nat) (d : decode cc pc = .ok (.putfield ix, 3)) (hk : k < N) (hw : Cond.fieldLink own ix (T k).1 (T k).2.1 (T k).2.2.1 ∈ zq_T) (hfin : (T k).2.2.2 = true) (hdecl : (T k).1 = own) (hin2 : nm = "<init>") (hd : parseFieldDescriptor (T k).2.2.1 = some .boolean) {a : Nat} {x : Int32} {S' : zq_S} (h : zs_pz S a ci k x = some S') (c : zq_W Y X (pc + 3) lo st S' kc ks) : zq_W Y X pc lo (.int x :: .ref a :: st) S kc ks := by
  obtain ⟨hx, h⟩ := zs_C h
  obtain ⟨fs, e1, e2, rfl⟩ := zs_pS h
  exact zq_putF Z hcd k d hk hw hfin hdecl hin2 hd (by rcases hx with rfl | rfl <;> rfl) (by rcases hx with rfl | rfl <;> rfl) e1 e2 c
theorem zr_len (Z : zq_ok Y X cc nL own nm ret hh) (t : Nat) {ty : FieldType} (ht : ∀ f : Nat → ClassId, (zq_ty f)[t]? = some (f t, ty)) (d : decode cc pc = .ok (.arraylength, 1)) {a : Nat} {v : Int32} (h : zs_len S a t = some v) (c : zq_W Y X (pc + 1) lo (.int v :: st) S kc ks) : zq_W Y X pc lo (.ref a :: st) S kc ks := by
  obtain ⟨x, e1, rfl⟩ := zs_lenS h
  exact zq_alen Z t ht d e1 c
theorem zr_laload (Z : zq_ok Y X cc nL own nm ret hh) (t : Nat) (ht : ∀ f : Nat → ClassId, (zq_ty f)[t]? = some (f t, .long)) (d : decode cc pc = .ok (.laload, 1)) {a : Nat} {i : Int32} {v : Int64} (h : zs_lal S a t i = some v) (c : zq_W Y X (pc + 1) lo (.long v :: st) S kc ks) : zq_W Y X pc lo (.int i :: .ref a :: st) S kc ks := by
  obtain ⟨n, f, e1, hin, rfl⟩ := zs_lalS h
  exact zq_laload Z t ht d e1 hin c
theorem zr_lastore (Z : zq_ok Y X cc nL own nm ret hh) (t : Nat) (ht : ∀ f : Nat → ClassId, (zq_ty f)[t]? = some (f t, .long)) (d : decode cc pc = .ok (.lastore, 1)) {a : Nat} {i : Int32} {v : Int64} {S' : zq_S} (h : zs_las S a t i v = some S') (c : zq_W Y X (pc + 1) lo st S' kc ks) : zq_W Y X pc lo (.long v :: .int i :: .ref a :: st) S kc ks := by
  obtain ⟨n, f, e1, hin, rfl⟩ := zs_lasS h
  exact zq_lastore Z t ht d e1 hin c
theorem zr_iaload (Z : zq_ok Y X cc nL own nm ret hh) (t : Nat) (ht : ∀ f : Nat → ClassId, (zq_ty f)[t]? = some (f t, .int)) (d : decode cc pc = .ok (.iaload, 1)) {a : Nat} {i : Int32} {v : Int32} (h : zs_ial S a t i = some v) (c : zq_W Y X (pc + 1) lo (.int v :: st) S kc ks) : zq_W Y X pc lo (.int i :: .ref a :: st) S kc ks := by
  obtain ⟨n, f, e1, hin, rfl⟩ := zs_ialS h
  exact zq_iaload Z t ht d e1 hin c
theorem zr_iastore (Z : zq_ok Y X cc nL own nm ret hh) (t : Nat) (ht : ∀ f : Nat → ClassId, (zq_ty f)[t]? = some (f t, .int)) (d : decode cc pc = .ok (.iastore, 1)) {a : Nat} {i : Int32} {v : Int32} {S' : zq_S} (h : zs_ias S a t i v = some S') (c : zq_W Y X (pc + 1) lo st S' kc ks) : zq_W Y X pc lo (.int v :: .int i :: .ref a :: st) S kc ks := by
  obtain ⟨n, f, e1, hin, rfl⟩ := zs_iasS h
  exact zq_iastore Z t ht d e1 hin c
theorem zr_aaload (Z : zq_ok Y X cc nL own nm ret hh) (t : Nat) {C : String} (ht : ∀ f : Nat → ClassId, (zq_ty f)[t]? = some (f t, (.object C))) (d : decode cc pc = .ok (.aaload, 1)) {a : Nat} {i : Int32} {v : Option Nat} (h : zs_aal S a t i = some v) (c : zq_W Y X (pc + 1) lo (va_rf v :: st) S kc ks) : zq_W Y X pc lo (.int i :: .ref a :: st) S kc ks := by
  obtain ⟨n, f, e1, hin, rfl⟩ := zs_aalS h
  exact zq_aaload Z t ht d e1 hin c
theorem zr_aastore (Z : zq_ok Y X cc nL own nm ret hh) (t ci : Nat) {r : vw_C} (hc : zq_cl[ci]? = some r) (ht : ∀ f : Nat → ClassId, (zq_ty f)[t]? = some (f t, .object r.1)) (d : decode cc pc = .ok (.aastore, 1)) {a : Nat} {i : Int32} {v : Option Nat} {S' : zq_S} (h : zs_aas S a t ci i v = some S') (c : zq_W Y X (pc + 1) lo st S' kc ks) : zq_W Y X pc lo (va_rf v :: .int i :: .ref a :: st) S kc ks := by
  obtain ⟨n, f, e1, hin, hv, rfl⟩ := zs_aasS h
  exact zq_aastore Z t ci hc ht d e1 hv hin c
theorem zr_copyl (Z : zq_ok Y X cc nL own nm ret hh) {ix : Nat} (t : Nat) (ht : ∀ f : Nat → ClassId, (zq_ty f)[t]? = some (f t, .long)) (d : decode cc pc = .ok (.invokestatic ix, 3)) (w1 : Cond.methodLink own ix arraycopyName ∈ zq_T) (w2 : Cond.native arraycopyName ∈ zq_T) (w3 : Cond.static arraycopyName ∈ zq_T) (w4 : Cond.initialized "java/lang/System" ∈ zq_T)
    {a0 a : Nat} {sp dp n : Int32} {S' : zq_S} (h : zs_cpl S t a0 sp a dp n = some S') (hfr : 1 ≤ (yR Y).frames) (hlo : (st.map fun v => v.category).sum + (nativeFrameWords "java/lang/System" "arraycopy" 5 + 11) ≤ (yR Y).locals)
    (c : zq_W Y X (pc + 3) lo st S' kc ks) : zq_W Y X pc lo (.int n :: .int dp :: .ref a :: .int sp :: .ref a0 :: st) S kc ks := by
  obtain ⟨n0, n1, f, g, e0, e1, ⟨h1, h2, h3, h4, h5⟩, rfl⟩ := zs_cplS h
  exact zq_copyl Z t ht d w1 w2 w3 w4 e0 e1 h1 h2 h3 h4 h5 hfr hlo c
end ZQ6
end
section
/-! a new exception is thrown; a callee's exception is caught -/
theorem zq_isR {C n d : String} {A : Nat → Prop} {s : State} {args : Array Value} (h : va_Zq C n d A s s.heap) : (Cond.isRef (.static C n d)).before args s = true := by
  rcases h with ⟨cf, kf, fi, f, a, cell, h1, h2, h3, h4, h5, h6, h7, -⟩ | ⟨t, cf, kf, fi, f, a, cell, h1, h2, h3, h4, h5, h6, h7, -⟩
  · have ev : (Term.static C n d).eval args s none [] s = some .null := by simp [Term.eval, State.fieldNamed?, h1, h2, h4, h5, h6, h7]
    simp [Cond.before, Cond.holds, Cond.value, ev]
  · have ev : (Term.static C n d).eval args s none [] s = some (.ref t) := by simp [Term.eval, State.fieldNamed?, h1, h2, h4, h5, h6, h7]
    simp [Cond.before, Cond.holds, Cond.value, ev]
theorem zq_lay {C n d : String} {A : Nat → Prop} {s : State} {args : Array Value} (h : zq_L C n d A s s.heap) : (Cond.laysStatic C n d).before args s = true := by
  obtain ⟨c, k, i, f, a, cell, h1, h2, h3, h4, h5, h6, h7, h8, h9, -⟩ := h
  show (Cond.laysStatic C n d).holds args s none s [] = true
  exact Cond.laysStatic_of h1 h2 h3 h4 h5 h6 h7 h8 h9
theorem zq_same {s u : State} {k n : Nat} (h : s.sameButNew u [] k n) {b : Nat} (hb : b < s.heap.size) : u.heap[b]? = s.heap[b]? := by
  have hc : s.heap[b]? = some s.heap[b] := Array.getElem?_eq_getElem hb
  obtain ⟨c', h1, h2, h3, h4⟩ := h.2.2.2.2.2 b _ hc
  rw [hc, h1]
  have hs : c'.slots = s.heap[b].slots := Array.ext_getElem? (fun i => h4 i (by simp))
  rw [h2, hs]
def zq_up : List String := ["java/lang/RuntimeException", "java/lang/Exception"]
def zq_ow (own : String) (ic k : Nat) : Prop := Bundle.fit (zq_xn k) = true ∧ ∀ w ∈ Bundle.ownAtoms own ic (zq_xn k) zq_up, w ∈ zq_T ∨ (w = .isRef (.static Bundle.tN "UNASSIGNED_STACK" Bundle.steD) ∨ w = .isRef (.static Bundle.tN "SUPPRESSED_SENTINEL" Bundle.listD)) ∨ w = .laysStatic Bundle.tN "UNASSIGNED_STACK" Bundle.steD ∨ w = .laysStatic Bundle.tN "SUPPRESSED_SENTINEL" Bundle.listD
section ZQ7
variable {Y : zq_Y} {X : zq_X} {cc : ByteArray} {nL : Nat} {own nm : String} {ret : Option FieldType} {hh : List (Nat × Nat × Nat × Nat)} {pc : Nat} {lo : List (Nat × Value)} {st : List Value} {S : zq_S} {kc ks : Nat}
set_option maxHeartbeats 1000000 in
theorem zq_throw (Z : zq_ok Y X cc nL own nm ret []) {ia ib ic : Nat} {tx : String} (k : Nat) (d0 : decode cc pc = .ok (.new ia, 3)) (d3 : decode cc (pc + 3) = .ok (.dup, 1)) (d4 : decode cc (pc + 3 + 1) = .ok (.ldc ib, 2)) (d6 : decode cc (pc + 3 + 1 + 2) = .ok (.invokespecial ic, 3)) (d9 : decode cc (pc + 3 + 1 + 2 + 3) = .ok (.athrow, 1))
    (w1 : Cond.classLink own ia (zq_xn k) ∈ zq_T) (w2 : Cond.instantiable (zq_xn k) 6 ∈ zq_T) (w3 : Cond.initialized (zq_xn k) ∈ zq_T) (w4 : Cond.stringRef own ib tx ∈ zq_T) (wx : zq_ow own ic k) (e1 : ((S.1, S.2.1 + 1, S.2.2) : zq_S) = yT Y) (e2 : (.inr k : zq_R) = yr Y) (h0 : S.2.1 = (yS Y).2.1 ∧ S.2.2 = (yS Y).2.2)
    (hr : (1 ≤ (yR Y).cells ∧ ks + 6 ≤ (yR Y).slots) ∧ 6 ≤ (yR Y).frames ∧ 100 ≤ (yR Y).locals) : zq_W Y X pc lo [] S kc ks := by
  intro H locs ls ce sl a1 a2 a3 a4 a5 a6 a7 a8 a9
  have hl0 : locs = [] := a6 h0.2
  have hce0 : ce = 0 := by omega
  subst hl0
  subst hce0
  obtain ⟨cX, kX, hfX, hkX, -⟩ := Cond.instantiable_spec (Z.w w2)
  refine W.newcK Z.x Z.b Z.o (Z.w w1) (Z.w w2) (Z.w w3) rfl d0 (by omega) (by omega) hfX a1.1 fun H1 kC hkC f1 z1 o1 => ?_
  refine lv_dup Z.x Z.b d3 rfl ?_
  obtain ⟨-, -, -, str, -, -, -, -, -, hev⟩ := Cond.stringRef_spec (args := #[]) Z.o (Z.i.1 _ w4 #[])
  refine va_ldcS Z.x Z.b Z.o (vk_R.of (Z.i.1 _ w4 #[]) hev) d4 ?_
  intro T1 hT1 X1
  have htr : (xe X).platform.stackTraces = false := by rw [X1.admits.platform]; exact Z.t
  have hat : ∀ w ∈ Bundle.ownAtoms own ic (zq_xn k) zq_up, w.before (xa X) (xs X) = true := by
    intro w hw
    rcases wx.2 w hw with h | (rfl | rfl) | rfl | rfl
    · exact Z.w h
    · exact zq_isR Z.j.1.1
    · exact zq_isR Z.j.2.1
    · exact zq_lay Z.j.1.2
    · exact zq_lay Z.j.2.2
  have hsS : (xs X).heap.size = S.2.1 := by rw [Z.p.1]; exact h0.1.symm
  obtain ⟨U, hsteps, hrun, hend, hW, hsame, ce, hce, K⟩ := X1.ctorThrowS Z.x htr (own := own) (cls := zq_xn k) (names := zq_up) (ic := ic) Z.o wx.1 (by decide +kernel) hat (fun y hy => by cases hy) hfX hkC (a := S.2.1) (by rw [hT1]; exact f1) (by omega) (msg := .ref str) rfl
    (g := F0 (xm X) (pc + 3 + 1 + 2) ls [.ref str, .ref S.2.1, .ref S.2.1]) rfl a9.1 rfl rfl (rest := []) rfl (by rw [Z.b]; exact d6) (by rw [Z.b]; exact d9) (by rw [Z.h]; intro y hy; cases hy) (by show 2 + 3 < _; omega) (by show 2 * 0 + (1 + 0) + (13 * (2 + 1) + 42) ≤ _; omega) Z.k
  refine ⟨U, hsteps, .threw S.2.1, hrun, hend, ?_⟩
  have hlt : S.2.1 < U.heap.size := (Array.getElem?_eq_some_iff.mp hce).1
  have hub : U.heap.size ≤ (xs X).heap.size + (0 + 1) := hsame.2.2.1
  have hU : ∀ b : Nat, b < (xs X).heap.size → U.heap[b]? = (xs X).heap[b]? := fun b hb => zq_same hsame hb
  have hH : ∀ b : Nat, b < (xs X).heap.size → H[b]? = (xs X).heap[b]? := fun b hb => by
    rw [← o1 b (by omega), ← hT1]
    exact zq_same (u := T1.setVm (xs X).vm) X1.same hb
  refine ⟨by rw [← e2]; exact ⟨S.2.1, ce, rfl, hce, K.vm, K.cls⟩, by rw [← e1]; exact ⟨by show U.heap.size = S.2.1 + 1; omega, fun b e' hb => (a1.2 b e' hb).kept (by
    have := a1.lt hb
    have hHs := a1.1
    rw [hU b (by omega), hH b (by omega)])⟩, fun q hq _ => hU q (by omega), by rw [← e1]; exact a3, by rw [← e1]; exact a5, hW, [], 0 + 1, sl + 6, by omega, by omega, by rw [← e1]; show S.2.1 + 1 = _; omega, fun _ => rfl, hsame, fun q hq => by cases hq⟩
end ZQ7
end
