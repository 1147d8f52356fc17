abbrev b_Text_init : ByteArray := prog_5_method_1_code
def y_Text_init : MethodName := ⟨"ChangeTracker$Text", "<init>", "()V"⟩
def rm_Text_init : Room := { frames := 1, cells := 1, slots := 600, locals := 38 }
abbrev Y_Text_init (l : Launch) (G : zq_G) (S0 T : zq_S) (v : Unit) : zq_Y := (l, rm_Text_init, G, S0, (.inl none : zq_R), T)
abbrev Z_Text_init (l : Launch) (G : zq_G) (S0 T : zq_S) (v : Unit) (X : zq_X) : Prop := zq_ok (Y_Text_init l G S0 T v) X b_Text_init 1 "ChangeTracker$Text" "<init>" none []
abbrev b_Text_at : ByteArray := prog_5_method_2_code
def y_Text_at : MethodName := ⟨"ChangeTracker$Text", "at", "(I)J"⟩
def rm_Text_at : Room := { frames := 0, cells := 0, slots := 0, locals := 0 }
abbrev Y_Text_at (l : Launch) (G : zq_G) (S0 T : zq_S) (v : Int64) : zq_Y := (l, rm_Text_at, G, S0, (.inl (some (.long v)) : zq_R), T)
abbrev Z_Text_at (l : Launch) (G : zq_G) (S0 T : zq_S) (v : Int64) (X : zq_X) : Prop := zq_ok (Y_Text_at l G S0 T v) X b_Text_at 2 "ChangeTracker$Text" "at" (some (.long)) []
abbrev b_Text_clear : ByteArray := prog_5_method_3_code
def y_Text_clear : MethodName := ⟨"ChangeTracker$Text", "clear", "()V"⟩
def rm_Text_clear : Room := { frames := 0, cells := 0, slots := 0, locals := 0 }
abbrev Y_Text_clear (l : Launch) (G : zq_G) (S0 T : zq_S) (v : Unit) : zq_Y := (l, rm_Text_clear, G, S0, (.inl none : zq_R), T)
abbrev Z_Text_clear (l : Launch) (G : zq_G) (S0 T : zq_S) (v : Unit) (X : zq_X) : Prop := zq_ok (Y_Text_clear l G S0 T v) X b_Text_clear 1 "ChangeTracker$Text" "clear" none []
abbrev b_Text_add : ByteArray := prog_5_method_4_code
def y_Text_add : MethodName := ⟨"ChangeTracker$Text", "add", "(J)V"⟩
def rm_Text_add : Room := { frames := 0, cells := 0, slots := 0, locals := 0 }
abbrev Y_Text_add (l : Launch) (G : zq_G) (S0 T : zq_S) (v : Unit) : zq_Y := (l, rm_Text_add, G, S0, (.inl none : zq_R), T)
abbrev Z_Text_add (l : Launch) (G : zq_G) (S0 T : zq_S) (v : Unit) (X : zq_X) : Prop := zq_ok (Y_Text_add l G S0 T v) X b_Text_add 3 "ChangeTracker$Text" "add" none []
abbrev b_Text_addPart : ByteArray := prog_5_method_5_code
def y_Text_addPart : MethodName := ⟨"ChangeTracker$Text", "addPart", "(LChangeTracker$Text;II)V"⟩
def rm_Text_addPart : Room := { frames := 1, cells := 0, slots := 0, locals := 38 }
abbrev Y_Text_addPart (l : Launch) (G : zq_G) (S0 T : zq_S) (v : Unit) : zq_Y := (l, rm_Text_addPart, G, S0, (.inl none : zq_R), T)
abbrev Z_Text_addPart (l : Launch) (G : zq_G) (S0 T : zq_S) (v : Unit) (X : zq_X) : Prop := zq_ok (Y_Text_addPart l G S0 T v) X b_Text_addPart 5 "ChangeTracker$Text" "addPart" none []
abbrev b_Text_weightOfChangeTo : ByteArray := prog_5_method_6_code
def y_Text_weightOfChangeTo : MethodName := ⟨"ChangeTracker$Text", "weightOfChangeTo", "(LChangeTracker$Text;)I"⟩
def rm_Text_weightOfChangeTo : Room := { frames := 1, cells := 0, slots := 0, locals := 38 }
abbrev Y_Text_weightOfChangeTo (l : Launch) (G : zq_G) (S0 T : zq_S) (v : Int32) : zq_Y := (l, rm_Text_weightOfChangeTo, G, S0, (.inl (some (.int v)) : zq_R), T)
abbrev Z_Text_weightOfChangeTo (l : Launch) (G : zq_G) (S0 T : zq_S) (v : Int32) (X : zq_X) : Prop := zq_ok (Y_Text_weightOfChangeTo l G S0 T v) X b_Text_weightOfChangeTo 5 "ChangeTracker$Text" "weightOfChangeTo" (some (.int)) []
abbrev b_Group_init : ByteArray := prog_2_method_1_code
def y_Group_init : MethodName := ⟨"ChangeTracker$Group", "<init>", "()V"⟩
def rm_Group_init : Room := { frames := 2, cells := 2, slots := 602, locals := 58 }
abbrev Y_Group_init (l : Launch) (G : zq_G) (S0 T : zq_S) (v : Unit) : zq_Y := (l, rm_Group_init, G, S0, (.inl none : zq_R), T)
abbrev Z_Group_init (l : Launch) (G : zq_G) (S0 T : zq_S) (v : Unit) (X : zq_X) : Prop := zq_ok (Y_Group_init l G S0 T v) X b_Group_init 1 "ChangeTracker$Group" "<init>" none []
abbrev b_Group_restart : ByteArray := prog_2_method_2_code
def y_Group_restart : MethodName := ⟨"ChangeTracker$Group", "restart", "(LChangeTracker$Text;)V"⟩
def rm_Group_restart : Room := { frames := 2, cells := 0, slots := 0, locals := 62 }
abbrev Y_Group_restart (l : Launch) (G : zq_G) (S0 T : zq_S) (v : Unit) : zq_Y := (l, rm_Group_restart, G, S0, (.inl none : zq_R), T)
abbrev Z_Group_restart (l : Launch) (G : zq_G) (S0 T : zq_S) (v : Unit) (X : zq_X) : Prop := zq_ok (Y_Group_restart l G S0 T v) X b_Group_restart 2 "ChangeTracker$Group" "restart" none []
abbrev b_Hist_init : ByteArray := prog_3_method_1_code
def y_Hist_init : MethodName := ⟨"ChangeTracker$History", "<init>", "()V"⟩
def rm_Hist_init : Room := { frames := 1, cells := 1, slots := 41, locals := 38 }
abbrev Y_Hist_init (l : Launch) (G : zq_G) (S0 T : zq_S) (v : Unit) : zq_Y := (l, rm_Hist_init, G, S0, (.inl none : zq_R), T)
abbrev Z_Hist_init (l : Launch) (G : zq_G) (S0 T : zq_S) (v : Unit) (X : zq_X) : Prop := zq_ok (Y_Hist_init l G S0 T v) X b_Hist_init 1 "ChangeTracker$History" "<init>" none []
abbrev b_Hist_groupBeingMade : ByteArray := prog_3_method_10_code
def y_Hist_groupBeingMade : MethodName := ⟨"ChangeTracker$History", "groupBeingMade", "()LChangeTracker$Group;"⟩
def rm_Hist_groupBeingMade : Room := { frames := 3, cells := 3, slots := 605, locals := 78 }
abbrev Y_Hist_groupBeingMade (l : Launch) (G : zq_G) (S0 T : zq_S) (v : Option Nat) : zq_Y := (l, rm_Hist_groupBeingMade, G, S0, (.inl (some (va_rf v)) : zq_R), T)
abbrev Z_Hist_groupBeingMade (l : Launch) (G : zq_G) (S0 T : zq_S) (v : Option Nat) (X : zq_X) : Prop := zq_ok (Y_Hist_groupBeingMade l G S0 T v) X b_Hist_groupBeingMade 2 "ChangeTracker$History" "groupBeingMade" (some (.object "ChangeTracker$Group")) []
abbrev b_Hist_recordEdit : ByteArray := prog_3_method_2_code
def y_Hist_recordEdit : MethodName := ⟨"ChangeTracker$History", "recordEdit", "(LChangeTracker$Text;I)V"⟩
def rm_Hist_recordEdit : Room := { frames := 4, cells := 3, slots := 605, locals := 99 }
abbrev Y_Hist_recordEdit (l : Launch) (G : zq_G) (S0 T : zq_S) (v : Unit) : zq_Y := (l, rm_Hist_recordEdit, G, S0, (.inl none : zq_R), T)
abbrev Z_Hist_recordEdit (l : Launch) (G : zq_G) (S0 T : zq_S) (v : Unit) (X : zq_X) : Prop := zq_ok (Y_Hist_recordEdit l G S0 T v) X b_Hist_recordEdit 4 "ChangeTracker$History" "recordEdit" none []
abbrev b_Hist_weightBetween : ByteArray := prog_3_method_8_code
def y_Hist_weightBetween : MethodName := ⟨"ChangeTracker$History", "weightBetween", "(II)I"⟩
def rm_Hist_weightBetween : Room := { frames := 1, cells := 0, slots := 0, locals := 38 }
abbrev Y_Hist_weightBetween (l : Launch) (G : zq_G) (S0 T : zq_S) (v : Int32) : zq_Y := (l, rm_Hist_weightBetween, G, S0, (.inl (some (.int v)) : zq_R), T)
abbrev Z_Hist_weightBetween (l : Launch) (G : zq_G) (S0 T : zq_S) (v : Int32) (X : zq_X) : Prop := zq_ok (Y_Hist_weightBetween l G S0 T v) X b_Hist_weightBetween 5 "ChangeTracker$History" "weightBetween" (some (.int)) []
abbrev b_Hist_weightOfDone : ByteArray := prog_3_method_6_code
def y_Hist_weightOfDone : MethodName := ⟨"ChangeTracker$History", "weightOfDone", "()I"⟩
def rm_Hist_weightOfDone : Room := { frames := 2, cells := 0, slots := 0, locals := 62 }
abbrev Y_Hist_weightOfDone (l : Launch) (G : zq_G) (S0 T : zq_S) (v : Int32) : zq_Y := (l, rm_Hist_weightOfDone, G, S0, (.inl (some (.int v)) : zq_R), T)
abbrev Z_Hist_weightOfDone (l : Launch) (G : zq_G) (S0 T : zq_S) (v : Int32) (X : zq_X) : Prop := zq_ok (Y_Hist_weightOfDone l G S0 T v) X b_Hist_weightOfDone 1 "ChangeTracker$History" "weightOfDone" (some (.int)) []
abbrev b_Hist_isTooMuch : ByteArray := prog_3_method_9_code
def y_Hist_isTooMuch : MethodName := ⟨"ChangeTracker$History", "isTooMuch", "()Z"⟩
def rm_Hist_isTooMuch : Room := { frames := 3, cells := 0, slots := 0, locals := 82 }
abbrev Y_Hist_isTooMuch (l : Launch) (G : zq_G) (S0 T : zq_S) (v : Int32) : zq_Y := (l, rm_Hist_isTooMuch, G, S0, (.inl (some (.int v)) : zq_R), T)
abbrev Z_Hist_isTooMuch (l : Launch) (G : zq_G) (S0 T : zq_S) (v : Int32) (X : zq_X) : Prop := zq_ok (Y_Hist_isTooMuch l G S0 T v) X b_Hist_isTooMuch 1 "ChangeTracker$History" "isTooMuch" (some (.boolean)) []
abbrev b_Hist_forgetEarliest : ByteArray := prog_3_method_11_code
def y_Hist_forgetEarliest : MethodName := ⟨"ChangeTracker$History", "forgetEarliest", "()V"⟩
def rm_Hist_forgetEarliest : Room := { frames := 0, cells := 0, slots := 0, locals := 0 }
abbrev Y_Hist_forgetEarliest (l : Launch) (G : zq_G) (S0 T : zq_S) (v : Unit) : zq_Y := (l, rm_Hist_forgetEarliest, G, S0, (.inl none : zq_R), T)
abbrev Z_Hist_forgetEarliest (l : Launch) (G : zq_G) (S0 T : zq_S) (v : Unit) (X : zq_X) : Prop := zq_ok (Y_Hist_forgetEarliest l G S0 T v) X b_Hist_forgetEarliest 3 "ChangeTracker$History" "forgetEarliest" none []
abbrev b_Hist_endGroup : ByteArray := prog_3_method_3_code
def y_Hist_endGroup : MethodName := ⟨"ChangeTracker$History", "endGroup", "()I"⟩
def rm_Hist_endGroup : Room := { frames := 4, cells := 3, slots := 605, locals := 102 }
abbrev Y_Hist_endGroup (l : Launch) (G : zq_G) (S0 T : zq_S) (v : Int32) : zq_Y := (l, rm_Hist_endGroup, G, S0, (.inl (some (.int v)) : zq_R), T)
abbrev Z_Hist_endGroup (l : Launch) (G : zq_G) (S0 T : zq_S) (v : Int32) (X : zq_X) : Prop := zq_ok (Y_Hist_endGroup l G S0 T v) X b_Hist_endGroup 3 "ChangeTracker$History" "endGroup" (some (.int)) []
abbrev b_Hist_stepBack : ByteArray := prog_3_method_4_code
def y_Hist_stepBack : MethodName := ⟨"ChangeTracker$History", "stepBack", "()LChangeTracker$Group;"⟩
def rm_Hist_stepBack : Room := { frames := 0, cells := 0, slots := 0, locals := 0 }
abbrev Y_Hist_stepBack (l : Launch) (G : zq_G) (S0 T : zq_S) (v : Option Nat) : zq_Y := (l, rm_Hist_stepBack, G, S0, (.inl (some (va_rf v)) : zq_R), T)
abbrev Z_Hist_stepBack (l : Launch) (G : zq_G) (S0 T : zq_S) (v : Option Nat) (X : zq_X) : Prop := zq_ok (Y_Hist_stepBack l G S0 T v) X b_Hist_stepBack 1 "ChangeTracker$History" "stepBack" (some (.object "ChangeTracker$Group")) []
abbrev b_Hist_stepForward : ByteArray := prog_3_method_5_code
def y_Hist_stepForward : MethodName := ⟨"ChangeTracker$History", "stepForward", "()LChangeTracker$Group;"⟩
def rm_Hist_stepForward : Room := { frames := 0, cells := 0, slots := 0, locals := 0 }
abbrev Y_Hist_stepForward (l : Launch) (G : zq_G) (S0 T : zq_S) (v : Option Nat) : zq_Y := (l, rm_Hist_stepForward, G, S0, (.inl (some (va_rf v)) : zq_R), T)
abbrev Z_Hist_stepForward (l : Launch) (G : zq_G) (S0 T : zq_S) (v : Option Nat) (X : zq_X) : Prop := zq_ok (Y_Hist_stepForward l G S0 T v) X b_Hist_stepForward 1 "ChangeTracker$History" "stepForward" (some (.object "ChangeTracker$Group")) []
abbrev b_Hist_weightOfUndone : ByteArray := prog_3_method_7_code
def y_Hist_weightOfUndone : MethodName := ⟨"ChangeTracker$History", "weightOfUndone", "()I"⟩
def rm_Hist_weightOfUndone : Room := { frames := 2, cells := 0, slots := 0, locals := 62 }
abbrev Y_Hist_weightOfUndone (l : Launch) (G : zq_G) (S0 T : zq_S) (v : Int32) : zq_Y := (l, rm_Hist_weightOfUndone, G, S0, (.inl (some (.int v)) : zq_R), T)
abbrev Z_Hist_weightOfUndone (l : Launch) (G : zq_G) (S0 T : zq_S) (v : Int32) (X : zq_X) : Prop := zq_ok (Y_Hist_weightOfUndone l G S0 T v) X b_Hist_weightOfUndone 1 "ChangeTracker$History" "weightOfUndone" (some (.int)) []
abbrev b_CT_init : ByteArray := prog_1_method_1_code
def y_CT_init : MethodName := ⟨"ChangeTracker", "<init>", "()V"⟩
def rm_CT_init : Room := { frames := 2, cells := 7, slots := 1850, locals := 58 }
abbrev Y_CT_init (l : Launch) (G : zq_G) (S0 T : zq_S) (v : Unit) : zq_Y := (l, rm_CT_init, G, S0, (.inl none : zq_R), T)
abbrev Z_CT_init (l : Launch) (G : zq_G) (S0 T : zq_S) (v : Unit) (X : zq_X) : Prop := zq_ok (Y_CT_init l G S0 T v) X b_CT_init 1 "ChangeTracker" "<init>" none []
abbrev b_CT_author : ByteArray := prog_1_method_2_code
def y_CT_author : MethodName := ⟨"ChangeTracker", "author", "(I)I"⟩
def rm_CT_author : Room := { frames := 6, cells := 1, slots := 6, locals := 100 }
abbrev Y_CT_author (l : Launch) (G : zq_G) (S0 T : zq_S) (v : (Int32 ⊕ Nat)) : zq_Y := (l, rm_CT_author, G, S0, zq_ei v, T)
abbrev Z_CT_author (l : Launch) (G : zq_G) (S0 T : zq_S) (v : (Int32 ⊕ Nat)) (X : zq_X) : Prop := zq_ok (Y_CT_author l G S0 T v) X b_CT_author 3 "ChangeTracker" "author" (some (.int)) []
abbrev b_CT_track : ByteArray := prog_1_method_3_code
def y_CT_track : MethodName := ⟨"ChangeTracker", "track", "(Z)Z"⟩
def rm_CT_track : Room := { frames := 0, cells := 0, slots := 0, locals := 0 }
abbrev Y_CT_track (l : Launch) (G : zq_G) (S0 T : zq_S) (v : Int32) : zq_Y := (l, rm_CT_track, G, S0, (.inl (some (.int v)) : zq_R), T)
abbrev Z_CT_track (l : Launch) (G : zq_G) (S0 T : zq_S) (v : Int32) (X : zq_X) : Prop := zq_ok (Y_CT_track l G S0 T v) X b_CT_track 3 "ChangeTracker" "track" (some (.boolean)) []
abbrev b_CT_requireRange : ByteArray := prog_1_method_18_code
def y_CT_requireRange : MethodName := ⟨"ChangeTracker", "requireRange", "(II)V"⟩
def rm_CT_requireRange : Room := { frames := 6, cells := 1, slots := 6, locals := 100 }
abbrev Y_CT_requireRange (l : Launch) (G : zq_G) (S0 T : zq_S) (v : (Unit ⊕ Nat)) : zq_Y := (l, rm_CT_requireRange, G, S0, zq_ev v, T)
abbrev Z_CT_requireRange (l : Launch) (G : zq_G) (S0 T : zq_S) (v : (Unit ⊕ Nat)) (X : zq_X) : Prop := zq_ok (Y_CT_requireRange l G S0 T v) X b_CT_requireRange 3 "ChangeTracker" "requireRange" none []
abbrev b_CT_requireFormat : ByteArray := prog_1_method_19_code
def y_CT_requireFormat : MethodName := ⟨"ChangeTracker", "requireFormat", "(I)V"⟩
def rm_CT_requireFormat : Room := { frames := 6, cells := 1, slots := 6, locals := 100 }
abbrev Y_CT_requireFormat (l : Launch) (G : zq_G) (S0 T : zq_S) (v : (Unit ⊕ Nat)) : zq_Y := (l, rm_CT_requireFormat, G, S0, zq_ev v, T)
abbrev Z_CT_requireFormat (l : Launch) (G : zq_G) (S0 T : zq_S) (v : (Unit ⊕ Nat)) (X : zq_X) : Prop := zq_ok (Y_CT_requireFormat l G S0 T v) X b_CT_requireFormat 1 "ChangeTracker" "requireFormat" none []
abbrev b_CT_codeAt : ByteArray := prog_1_method_21_code
def y_CT_codeAt : MethodName := ⟨"ChangeTracker", "codeAt", "(JI)I"⟩
def rm_CT_codeAt : Room := { frames := 0, cells := 0, slots := 0, locals := 0 }
abbrev Y_CT_codeAt (l : Launch) (G : zq_G) (S0 T : zq_S) (v : Int32) : zq_Y := (l, rm_CT_codeAt, G, S0, (.inl (some (.int v)) : zq_R), T)
abbrev Z_CT_codeAt (l : Launch) (G : zq_G) (S0 T : zq_S) (v : Int32) (X : zq_X) : Prop := zq_ok (Y_CT_codeAt l G S0 T v) X b_CT_codeAt 3 "ChangeTracker" "codeAt" (some (.int)) []
abbrev b_CT_howManyCodes : ByteArray := prog_1_method_22_code
def y_CT_howManyCodes : MethodName := ⟨"ChangeTracker", "howManyCodes", "(J)I"⟩
def rm_CT_howManyCodes : Room := { frames := 1, cells := 0, slots := 0, locals := 22 }
abbrev Y_CT_howManyCodes (l : Launch) (G : zq_G) (S0 T : zq_S) (v : Int32) : zq_Y := (l, rm_CT_howManyCodes, G, S0, (.inl (some (.int v)) : zq_R), T)
abbrev Z_CT_howManyCodes (l : Launch) (G : zq_G) (S0 T : zq_S) (v : Int32) (X : zq_X) : Prop := zq_ok (Y_CT_howManyCodes l G S0 T v) X b_CT_howManyCodes 3 "ChangeTracker" "howManyCodes" (some (.int)) []
abbrev b_CT_workerBit : ByteArray := prog_1_method_23_code
def y_CT_workerBit : MethodName := ⟨"ChangeTracker", "workerBit", "()I"⟩
def rm_CT_workerBit : Room := { frames := 0, cells := 0, slots := 0, locals := 0 }
abbrev Y_CT_workerBit (l : Launch) (G : zq_G) (S0 T : zq_S) (v : Int32) : zq_Y := (l, rm_CT_workerBit, G, S0, (.inl (some (.int v)) : zq_R), T)
abbrev Z_CT_workerBit (l : Launch) (G : zq_G) (S0 T : zq_S) (v : Int32) (X : zq_X) : Prop := zq_ok (Y_CT_workerBit l G S0 T v) X b_CT_workerBit 1 "ChangeTracker" "workerBit" (some (.int)) []
abbrev b_CT_startDraft : ByteArray := prog_1_method_24_code
def y_CT_startDraft : MethodName := ⟨"ChangeTracker", "startDraft", "(I)V"⟩
def rm_CT_startDraft : Room := { frames := 2, cells := 0, slots := 0, locals := 62 }
abbrev Y_CT_startDraft (l : Launch) (G : zq_G) (S0 T : zq_S) (v : Unit) : zq_Y := (l, rm_CT_startDraft, G, S0, (.inl none : zq_R), T)
abbrev Z_CT_startDraft (l : Launch) (G : zq_G) (S0 T : zq_S) (v : Unit) (X : zq_X) : Prop := zq_ok (Y_CT_startDraft l G S0 T v) X b_CT_startDraft 2 "ChangeTracker" "startDraft" none []
abbrev b_Let_with : ByteArray := prog_4_method_4_code
def y_Let_with : MethodName := ⟨"ChangeTracker$Letter", "with", "(JII)J"⟩
def rm_Let_with : Room := { frames := 0, cells := 0, slots := 0, locals := 0 }
abbrev Y_Let_with (l : Launch) (G : zq_G) (S0 T : zq_S) (v : Int64) : zq_Y := (l, rm_Let_with, G, S0, (.inl (some (.long v)) : zq_R), T)
abbrev Z_Let_with (l : Launch) (G : zq_G) (S0 T : zq_S) (v : Int64) (X : zq_X) : Prop := zq_ok (Y_Let_with l G S0 T v) X b_Let_with 4 "ChangeTracker$Letter" "with" (some (.long)) []
abbrev b_Let_make : ByteArray := prog_4_method_2_code
def y_Let_make : MethodName := ⟨"ChangeTracker$Letter", "make", "(III)J"⟩
def rm_Let_make : Room := { frames := 1, cells := 0, slots := 0, locals := 23 }
abbrev Y_Let_make (l : Launch) (G : zq_G) (S0 T : zq_S) (v : Int64) : zq_Y := (l, rm_Let_make, G, S0, (.inl (some (.long v)) : zq_R), T)
abbrev Z_Let_make (l : Launch) (G : zq_G) (S0 T : zq_S) (v : Int64) (X : zq_X) : Prop := zq_ok (Y_Let_make l G S0 T v) X b_Let_make 3 "ChangeTracker$Letter" "make" (some (.long)) []
abbrev b_CT_finishDraft : ByteArray := prog_1_method_25_code
def y_CT_finishDraft : MethodName := ⟨"ChangeTracker", "finishDraft", "(I)V"⟩
def rm_CT_finishDraft : Room := { frames := 5, cells := 6, slots := 1210, locals := 124 }
abbrev Y_CT_finishDraft (l : Launch) (G : zq_G) (S0 T : zq_S) (v : Unit) : zq_Y := (l, rm_CT_finishDraft, G, S0, (.inl none : zq_R), T)
abbrev Z_CT_finishDraft (l : Launch) (G : zq_G) (S0 T : zq_S) (v : Unit) (X : zq_X) : Prop := zq_ok (Y_CT_finishDraft l G S0 T v) X b_CT_finishDraft 4 "ChangeTracker" "finishDraft" none []
abbrev b_CT_insert : ByteArray := prog_1_method_4_code
def y_CT_insert : MethodName := ⟨"ChangeTracker", "insert", "(IJI)I"⟩
def rm_CT_insert : Room := { frames := 7, cells := 8, slots := 1222, locals := 147 }
abbrev Y_CT_insert (l : Launch) (G : zq_G) (S0 T : zq_S) (v : (Int32 ⊕ Nat)) : zq_Y := (l, rm_CT_insert, G, S0, zq_ei v, T)
abbrev Z_CT_insert (l : Launch) (G : zq_G) (S0 T : zq_S) (v : (Int32 ⊕ Nat)) (X : zq_X) : Prop := zq_ok (Y_CT_insert l G S0 T v) X b_CT_insert 8 "ChangeTracker" "insert" (some (.int)) []
abbrev b_Let_get : ByteArray := prog_4_method_3_code
def y_Let_get : MethodName := ⟨"ChangeTracker$Letter", "get", "(JI)I"⟩
def rm_Let_get : Room := { frames := 0, cells := 0, slots := 0, locals := 0 }
abbrev Y_Let_get (l : Launch) (G : zq_G) (S0 T : zq_S) (v : Int32) : zq_Y := (l, rm_Let_get, G, S0, (.inl (some (.int v)) : zq_R), T)
abbrev Z_Let_get (l : Launch) (G : zq_G) (S0 T : zq_S) (v : Int32) (X : zq_X) : Prop := zq_ok (Y_Let_get l G S0 T v) X b_Let_get 3 "ChangeTracker$Letter" "get" (some (.int)) []
abbrev b_CT_isOwn : ByteArray := prog_1_method_26_code
def y_CT_isOwn : MethodName := ⟨"ChangeTracker", "isOwn", "(J)Z"⟩
def rm_CT_isOwn : Room := { frames := 1, cells := 0, slots := 0, locals := 22 }
abbrev Y_CT_isOwn (l : Launch) (G : zq_G) (S0 T : zq_S) (v : Int32) : zq_Y := (l, rm_CT_isOwn, G, S0, (.inl (some (.int v)) : zq_R), T)
abbrev Z_CT_isOwn (l : Launch) (G : zq_G) (S0 T : zq_S) (v : Int32) (X : zq_X) : Prop := zq_ok (Y_CT_isOwn l G S0 T v) X b_CT_isOwn 3 "ChangeTracker" "isOwn" (some (.boolean)) []
abbrev b_CT_afterErasing : ByteArray := prog_1_method_27_code
def y_CT_afterErasing : MethodName := ⟨"ChangeTracker", "afterErasing", "(J)J"⟩
def rm_CT_afterErasing : Room := { frames := 2, cells := 0, slots := 0, locals := 44 }
abbrev Y_CT_afterErasing (l : Launch) (G : zq_G) (S0 T : zq_S) (v : Int64) : zq_Y := (l, rm_CT_afterErasing, G, S0, (.inl (some (.long v)) : zq_R), T)
abbrev Z_CT_afterErasing (l : Launch) (G : zq_G) (S0 T : zq_S) (v : Int64) (X : zq_X) : Prop := zq_ok (Y_CT_afterErasing l G S0 T v) X b_CT_afterErasing 3 "ChangeTracker" "afterErasing" (some (.long)) []
abbrev b_CT_erase : ByteArray := prog_1_method_5_code
def y_CT_erase : MethodName := ⟨"ChangeTracker", "erase", "(II)I"⟩
def rm_CT_erase : Room := { frames := 7, cells := 7, slots := 1216, locals := 147 }
abbrev Y_CT_erase (l : Launch) (G : zq_G) (S0 T : zq_S) (v : (Int32 ⊕ Nat)) : zq_Y := (l, rm_CT_erase, G, S0, zq_ei v, T)
abbrev Z_CT_erase (l : Launch) (G : zq_G) (S0 T : zq_S) (v : (Int32 ⊕ Nat)) (X : zq_X) : Prop := zq_ok (Y_CT_erase l G S0 T v) X b_CT_erase 4 "ChangeTracker" "erase" (some (.int)) []
abbrev b_Let_withoutFormatters : ByteArray := prog_4_method_9_code
def y_Let_withoutFormatters : MethodName := ⟨"ChangeTracker$Letter", "withoutFormatters", "(J)J"⟩
def rm_Let_withoutFormatters : Room := { frames := 1, cells := 0, slots := 0, locals := 23 }
abbrev Y_Let_withoutFormatters (l : Launch) (G : zq_G) (S0 T : zq_S) (v : Int64) : zq_Y := (l, rm_Let_withoutFormatters, G, S0, (.inl (some (.long v)) : zq_R), T)
abbrev Z_Let_withoutFormatters (l : Launch) (G : zq_G) (S0 T : zq_S) (v : Int64) (X : zq_X) : Prop := zq_ok (Y_Let_withoutFormatters l G S0 T v) X b_Let_withoutFormatters 2 "ChangeTracker$Letter" "withoutFormatters" (some (.long)) []
abbrev b_Let_isFormatted : ByteArray := prog_4_method_7_code
def y_Let_isFormatted : MethodName := ⟨"ChangeTracker$Letter", "isFormatted", "(J)Z"⟩
def rm_Let_isFormatted : Room := { frames := 1, cells := 0, slots := 0, locals := 22 }
abbrev Y_Let_isFormatted (l : Launch) (G : zq_G) (S0 T : zq_S) (v : Int32) : zq_Y := (l, rm_Let_isFormatted, G, S0, (.inl (some (.int v)) : zq_R), T)
abbrev Z_Let_isFormatted (l : Launch) (G : zq_G) (S0 T : zq_S) (v : Int32) (X : zq_X) : Prop := zq_ok (Y_Let_isFormatted l G S0 T v) X b_Let_isFormatted 2 "ChangeTracker$Letter" "isFormatted" (some (.boolean)) []
abbrev b_Let_formatBefore : ByteArray := prog_4_method_8_code
def y_Let_formatBefore : MethodName := ⟨"ChangeTracker$Letter", "formatBefore", "(J)I"⟩
def rm_Let_formatBefore : Room := { frames := 2, cells := 0, slots := 0, locals := 43 }
abbrev Y_Let_formatBefore (l : Launch) (G : zq_G) (S0 T : zq_S) (v : Int32) : zq_Y := (l, rm_Let_formatBefore, G, S0, (.inl (some (.int v)) : zq_R), T)
abbrev Z_Let_formatBefore (l : Launch) (G : zq_G) (S0 T : zq_S) (v : Int32) (X : zq_X) : Prop := zq_ok (Y_Let_formatBefore l G S0 T v) X b_Let_formatBefore 2 "ChangeTracker$Letter" "formatBefore" (some (.int)) []
abbrev b_CT_afterFormatting : ByteArray := prog_1_method_28_code
def y_CT_afterFormatting : MethodName := ⟨"ChangeTracker", "afterFormatting", "(JI)J"⟩
def rm_CT_afterFormatting : Room := { frames := 3, cells := 0, slots := 0, locals := 64 }
abbrev Y_CT_afterFormatting (l : Launch) (G : zq_G) (S0 T : zq_S) (v : Int64) : zq_Y := (l, rm_CT_afterFormatting, G, S0, (.inl (some (.long v)) : zq_R), T)
abbrev Z_CT_afterFormatting (l : Launch) (G : zq_G) (S0 T : zq_S) (v : Int64) (X : zq_X) : Prop := zq_ok (Y_CT_afterFormatting l G S0 T v) X b_CT_afterFormatting 8 "ChangeTracker" "afterFormatting" (some (.long)) []
abbrev b_CT_format : ByteArray := prog_1_method_6_code
def y_CT_format : MethodName := ⟨"ChangeTracker", "format", "(III)I"⟩
def rm_CT_format : Room := { frames := 7, cells := 8, slots := 1222, locals := 147 }
abbrev Y_CT_format (l : Launch) (G : zq_G) (S0 T : zq_S) (v : (Int32 ⊕ Nat)) : zq_Y := (l, rm_CT_format, G, S0, zq_ei v, T)
abbrev Z_CT_format (l : Launch) (G : zq_G) (S0 T : zq_S) (v : (Int32 ⊕ Nat)) (X : zq_X) : Prop := zq_ok (Y_CT_format l G S0 T v) X b_CT_format 8 "ChangeTracker" "format" (some (.int)) []
abbrev b_CT_requireSet : ByteArray := prog_1_method_20_code
def y_CT_requireSet : MethodName := ⟨"ChangeTracker", "requireSet", "(I)V"⟩
def rm_CT_requireSet : Room := { frames := 6, cells := 1, slots := 6, locals := 100 }
abbrev Y_CT_requireSet (l : Launch) (G : zq_G) (S0 T : zq_S) (v : (Unit ⊕ Nat)) : zq_Y := (l, rm_CT_requireSet, G, S0, zq_ev v, T)
abbrev Z_CT_requireSet (l : Launch) (G : zq_G) (S0 T : zq_S) (v : (Unit ⊕ Nat)) (X : zq_X) : Prop := zq_ok (Y_CT_requireSet l G S0 T v) X b_CT_requireSet 1 "ChangeTracker" "requireSet" none []
abbrev b_Let_isBy : ByteArray := prog_4_method_10_code
def y_Let_isBy : MethodName := ⟨"ChangeTracker$Letter", "isBy", "(JII)Z"⟩
def rm_Let_isBy : Room := { frames := 1, cells := 0, slots := 0, locals := 22 }
abbrev Y_Let_isBy (l : Launch) (G : zq_G) (S0 T : zq_S) (v : Int32) : zq_Y := (l, rm_Let_isBy, G, S0, (.inl (some (.int v)) : zq_R), T)
abbrev Z_Let_isBy (l : Launch) (G : zq_G) (S0 T : zq_S) (v : Int32) (X : zq_X) : Prop := zq_ok (Y_Let_isBy l G S0 T v) X b_Let_isBy 4 "ChangeTracker$Letter" "isBy" (some (.boolean)) []
abbrev b_Let_accepted : ByteArray := prog_4_method_11_code
def y_Let_accepted : MethodName := ⟨"ChangeTracker$Letter", "accepted", "(JI)J"⟩
def rm_Let_accepted : Room := { frames := 2, cells := 0, slots := 0, locals := 45 }
abbrev Y_Let_accepted (l : Launch) (G : zq_G) (S0 T : zq_S) (v : Int64) : zq_Y := (l, rm_Let_accepted, G, S0, (.inl (some (.long v)) : zq_R), T)
abbrev Z_Let_accepted (l : Launch) (G : zq_G) (S0 T : zq_S) (v : Int64) (X : zq_X) : Prop := zq_ok (Y_Let_accepted l G S0 T v) X b_Let_accepted 5 "ChangeTracker$Letter" "accepted" (some (.long)) []
abbrev b_Let_rejected : ByteArray := prog_4_method_12_code
def y_Let_rejected : MethodName := ⟨"ChangeTracker$Letter", "rejected", "(JI)J"⟩
def rm_Let_rejected : Room := { frames := 2, cells := 0, slots := 0, locals := 45 }
abbrev Y_Let_rejected (l : Launch) (G : zq_G) (S0 T : zq_S) (v : Int64) : zq_Y := (l, rm_Let_rejected, G, S0, (.inl (some (.long v)) : zq_R), T)
abbrev Z_Let_rejected (l : Launch) (G : zq_G) (S0 T : zq_S) (v : Int64) (X : zq_X) : Prop := zq_ok (Y_Let_rejected l G S0 T v) X b_Let_rejected 5 "ChangeTracker$Letter" "rejected" (some (.long)) []
abbrev b_Let_markOf : ByteArray := prog_4_method_5_code
def y_Let_markOf : MethodName := ⟨"ChangeTracker$Letter", "markOf", "(J)J"⟩
def rm_Let_markOf : Room := { frames := 0, cells := 0, slots := 0, locals := 0 }
abbrev Y_Let_markOf (l : Launch) (G : zq_G) (S0 T : zq_S) (v : Int64) : zq_Y := (l, rm_Let_markOf, G, S0, (.inl (some (.long v)) : zq_R), T)
abbrev Z_Let_markOf (l : Launch) (G : zq_G) (S0 T : zq_S) (v : Int64) (X : zq_X) : Prop := zq_ok (Y_Let_markOf l G S0 T v) X b_Let_markOf 2 "ChangeTracker$Letter" "markOf" (some (.long)) []
abbrev b_CT_settleMarks : ByteArray := prog_1_method_29_code
def y_CT_settleMarks : MethodName := ⟨"ChangeTracker", "settleMarks", "(IIIZ)I"⟩
def rm_CT_settleMarks : Room := { frames := 6, cells := 6, slots := 1210, locals := 147 }
abbrev Y_CT_settleMarks (l : Launch) (G : zq_G) (S0 T : zq_S) (v : Int32) : zq_Y := (l, rm_CT_settleMarks, G, S0, (.inl (some (.int v)) : zq_R), T)
abbrev Z_CT_settleMarks (l : Launch) (G : zq_G) (S0 T : zq_S) (v : Int32) (X : zq_X) : Prop := zq_ok (Y_CT_settleMarks l G S0 T v) X b_CT_settleMarks 11 "ChangeTracker" "settleMarks" (some (.int)) []
abbrev b_CT_accept : ByteArray := prog_1_method_7_code
def y_CT_accept : MethodName := ⟨"ChangeTracker", "accept", "(III)I"⟩
def rm_CT_accept : Room := { frames := 7, cells := 8, slots := 1222, locals := 177 }
abbrev Y_CT_accept (l : Launch) (G : zq_G) (S0 T : zq_S) (v : (Int32 ⊕ Nat)) : zq_Y := (l, rm_CT_accept, G, S0, zq_ei v, T)
abbrev Z_CT_accept (l : Launch) (G : zq_G) (S0 T : zq_S) (v : (Int32 ⊕ Nat)) (X : zq_X) : Prop := zq_ok (Y_CT_accept l G S0 T v) X b_CT_accept 4 "ChangeTracker" "accept" (some (.int)) []
abbrev b_CT_reject : ByteArray := prog_1_method_8_code
def y_CT_reject : MethodName := ⟨"ChangeTracker", "reject", "(III)I"⟩
def rm_CT_reject : Room := { frames := 7, cells := 8, slots := 1222, locals := 177 }
abbrev Y_CT_reject (l : Launch) (G : zq_G) (S0 T : zq_S) (v : (Int32 ⊕ Nat)) : zq_Y := (l, rm_CT_reject, G, S0, zq_ei v, T)
abbrev Z_CT_reject (l : Launch) (G : zq_G) (S0 T : zq_S) (v : (Int32 ⊕ Nat)) (X : zq_X) : Prop := zq_ok (Y_CT_reject l G S0 T v) X b_CT_reject 4 "ChangeTracker" "reject" (some (.int)) []
abbrev b_CT_open : ByteArray := prog_1_method_9_code
def y_CT_open : MethodName := ⟨"ChangeTracker", "open", "()V"⟩
def rm_CT_open : Room := { frames := 6, cells := 1, slots := 6, locals := 100 }
abbrev Y_CT_open (l : Launch) (G : zq_G) (S0 T : zq_S) (v : (Unit ⊕ Nat)) : zq_Y := (l, rm_CT_open, G, S0, zq_ev v, T)
abbrev Z_CT_open (l : Launch) (G : zq_G) (S0 T : zq_S) (v : (Unit ⊕ Nat)) (X : zq_X) : Prop := zq_ok (Y_CT_open l G S0 T v) X b_CT_open 1 "ChangeTracker" "open" none []
abbrev b_CT_close : ByteArray := prog_1_method_10_code
def y_CT_close : MethodName := ⟨"ChangeTracker", "close", "()I"⟩
def rm_CT_close : Room := { frames := 6, cells := 3, slots := 605, locals := 124 }
abbrev Y_CT_close (l : Launch) (G : zq_G) (S0 T : zq_S) (v : (Int32 ⊕ Nat)) : zq_Y := (l, rm_CT_close, G, S0, zq_ei v, T)
abbrev Z_CT_close (l : Launch) (G : zq_G) (S0 T : zq_S) (v : (Int32 ⊕ Nat)) (X : zq_X) : Prop := zq_ok (Y_CT_close l G S0 T v) X b_CT_close 1 "ChangeTracker" "close" (some (.int)) []
abbrev b_CT_crossOver : ByteArray := prog_1_method_30_code
def y_CT_crossOver : MethodName := ⟨"ChangeTracker", "crossOver", "(LChangeTracker$Group;)I"⟩
def rm_CT_crossOver : Room := { frames := 0, cells := 0, slots := 0, locals := 0 }
abbrev Y_CT_crossOver (l : Launch) (G : zq_G) (S0 T : zq_S) (v : Int32) : zq_Y := (l, rm_CT_crossOver, G, S0, (.inl (some (.int v)) : zq_R), T)
abbrev Z_CT_crossOver (l : Launch) (G : zq_G) (S0 T : zq_S) (v : Int32) (X : zq_X) : Prop := zq_ok (Y_CT_crossOver l G S0 T v) X b_CT_crossOver 3 "ChangeTracker" "crossOver" (some (.int)) []
abbrev b_CT_undo : ByteArray := prog_1_method_11_code
def y_CT_undo : MethodName := ⟨"ChangeTracker", "undo", "()I"⟩
def rm_CT_undo : Room := { frames := 6, cells := 1, slots := 6, locals := 100 }
abbrev Y_CT_undo (l : Launch) (G : zq_G) (S0 T : zq_S) (v : (Int32 ⊕ Nat)) : zq_Y := (l, rm_CT_undo, G, S0, zq_ei v, T)
abbrev Z_CT_undo (l : Launch) (G : zq_G) (S0 T : zq_S) (v : (Int32 ⊕ Nat)) (X : zq_X) : Prop := zq_ok (Y_CT_undo l G S0 T v) X b_CT_undo 2 "ChangeTracker" "undo" (some (.int)) []
abbrev b_CT_redo : ByteArray := prog_1_method_12_code
def y_CT_redo : MethodName := ⟨"ChangeTracker", "redo", "()I"⟩
def rm_CT_redo : Room := { frames := 6, cells := 1, slots := 6, locals := 100 }
abbrev Y_CT_redo (l : Launch) (G : zq_G) (S0 T : zq_S) (v : (Int32 ⊕ Nat)) : zq_Y := (l, rm_CT_redo, G, S0, zq_ei v, T)
abbrev Z_CT_redo (l : Launch) (G : zq_G) (S0 T : zq_S) (v : (Int32 ⊕ Nat)) (X : zq_X) : Prop := zq_ok (Y_CT_redo l G S0 T v) X b_CT_redo 2 "ChangeTracker" "redo" (some (.int)) []
abbrev b_CT_isView : ByteArray := prog_1_method_31_code
def y_CT_isView : MethodName := ⟨"ChangeTracker", "isView", "(I)Z"⟩
def rm_CT_isView : Room := { frames := 0, cells := 0, slots := 0, locals := 0 }
abbrev Y_CT_isView (l : Launch) (G : zq_G) (S0 T : zq_S) (v : Int32) : zq_Y := (l, rm_CT_isView, G, S0, (.inl (some (.int v)) : zq_R), T)
abbrev Z_CT_isView (l : Launch) (G : zq_G) (S0 T : zq_S) (v : Int32) (X : zq_X) : Prop := zq_ok (Y_CT_isView l G S0 T v) X b_CT_isView 1 "ChangeTracker" "isView" (some (.boolean)) []
abbrev b_CT_isInView : ByteArray := prog_1_method_32_code
def y_CT_isInView : MethodName := ⟨"ChangeTracker", "isInView", "(JI)Z"⟩
def rm_CT_isInView : Room := { frames := 1, cells := 0, slots := 0, locals := 22 }
abbrev Y_CT_isInView (l : Launch) (G : zq_G) (S0 T : zq_S) (v : Int32) : zq_Y := (l, rm_CT_isInView, G, S0, (.inl (some (.int v)) : zq_R), T)
abbrev Z_CT_isInView (l : Launch) (G : zq_G) (S0 T : zq_S) (v : Int32) (X : zq_X) : Prop := zq_ok (Y_CT_isInView l G S0 T v) X b_CT_isInView 3 "ChangeTracker" "isInView" (some (.boolean)) []
abbrev b_CT_length : ByteArray := prog_1_method_13_code
def y_CT_length : MethodName := ⟨"ChangeTracker", "length", "(I)I"⟩
def rm_CT_length : Room := { frames := 2, cells := 0, slots := 0, locals := 44 }
abbrev Y_CT_length (l : Launch) (G : zq_G) (S0 T : zq_S) (v : Int32) : zq_Y := (l, rm_CT_length, G, S0, (.inl (some (.int v)) : zq_R), T)
abbrev Z_CT_length (l : Launch) (G : zq_G) (S0 T : zq_S) (v : Int32) (X : zq_X) : Prop := zq_ok (Y_CT_length l G S0 T v) X b_CT_length 4 "ChangeTracker" "length" (some (.int)) []
abbrev b_CT_placeOfSeen : ByteArray := prog_1_method_34_code
def y_CT_placeOfSeen : MethodName := ⟨"ChangeTracker", "placeOfSeen", "(II)I"⟩
def rm_CT_placeOfSeen : Room := { frames := 2, cells := 0, slots := 0, locals := 44 }
abbrev Y_CT_placeOfSeen (l : Launch) (G : zq_G) (S0 T : zq_S) (v : Int32) : zq_Y := (l, rm_CT_placeOfSeen, G, S0, (.inl (some (.int v)) : zq_R), T)
abbrev Z_CT_placeOfSeen (l : Launch) (G : zq_G) (S0 T : zq_S) (v : Int32) (X : zq_X) : Prop := zq_ok (Y_CT_placeOfSeen l G S0 T v) X b_CT_placeOfSeen 5 "ChangeTracker" "placeOfSeen" (some (.int)) []
abbrev b_CT_formatInView : ByteArray := prog_1_method_33_code
def y_CT_formatInView : MethodName := ⟨"ChangeTracker", "formatInView", "(JI)I"⟩
def rm_CT_formatInView : Room := { frames := 3, cells := 0, slots := 0, locals := 64 }
abbrev Y_CT_formatInView (l : Launch) (G : zq_G) (S0 T : zq_S) (v : Int32) : zq_Y := (l, rm_CT_formatInView, G, S0, (.inl (some (.int v)) : zq_R), T)
abbrev Z_CT_formatInView (l : Launch) (G : zq_G) (S0 T : zq_S) (v : Int32) (X : zq_X) : Prop := zq_ok (Y_CT_formatInView l G S0 T v) X b_CT_formatInView 3 "ChangeTracker" "formatInView" (some (.int)) []
abbrev b_CT_seen : ByteArray := prog_1_method_14_code
def y_CT_seen : MethodName := ⟨"ChangeTracker", "seen", "(III)I"⟩
def rm_CT_seen : Room := { frames := 6, cells := 1, slots := 6, locals := 100 }
abbrev Y_CT_seen (l : Launch) (G : zq_G) (S0 T : zq_S) (v : (Int32 ⊕ Nat)) : zq_Y := (l, rm_CT_seen, G, S0, zq_ei v, T)
abbrev Z_CT_seen (l : Launch) (G : zq_G) (S0 T : zq_S) (v : (Int32 ⊕ Nat)) (X : zq_X) : Prop := zq_ok (Y_CT_seen l G S0 T v) X b_CT_seen 7 "ChangeTracker" "seen" (some (.int)) []
abbrev b_CT_mark : ByteArray := prog_1_method_15_code
def y_CT_mark : MethodName := ⟨"ChangeTracker", "mark", "(II)I"⟩
def rm_CT_mark : Room := { frames := 7, cells := 2, slots := 12, locals := 122 }
abbrev Y_CT_mark (l : Launch) (G : zq_G) (S0 T : zq_S) (v : (Int32 ⊕ Nat)) : zq_Y := (l, rm_CT_mark, G, S0, zq_ei v, T)
abbrev Z_CT_mark (l : Launch) (G : zq_G) (S0 T : zq_S) (v : (Int32 ⊕ Nat)) (X : zq_X) : Prop := zq_ok (Y_CT_mark l G S0 T v) X b_CT_mark 5 "ChangeTracker" "mark" (some (.int)) []
abbrev b_Let_markers : ByteArray := prog_4_method_6_code
def y_Let_markers : MethodName := ⟨"ChangeTracker$Letter", "markers", "(J)I"⟩
def rm_Let_markers : Room := { frames := 1, cells := 0, slots := 0, locals := 22 }
abbrev Y_Let_markers (l : Launch) (G : zq_G) (S0 T : zq_S) (v : Int32) : zq_Y := (l, rm_Let_markers, G, S0, (.inl (some (.int v)) : zq_R), T)
abbrev Z_Let_markers (l : Launch) (G : zq_G) (S0 T : zq_S) (v : Int32) (X : zq_X) : Prop := zq_ok (Y_Let_markers l G S0 T v) X b_Let_markers 2 "ChangeTracker$Letter" "markers" (some (.int)) []
abbrev b_CT_next : ByteArray := prog_1_method_16_code
def y_CT_next : MethodName := ⟨"ChangeTracker", "next", "(II)I"⟩
def rm_CT_next : Room := { frames := 7, cells := 2, slots := 12, locals := 122 }
abbrev Y_CT_next (l : Launch) (G : zq_G) (S0 T : zq_S) (v : (Int32 ⊕ Nat)) : zq_Y := (l, rm_CT_next, G, S0, zq_ei v, T)
abbrev Z_CT_next (l : Launch) (G : zq_G) (S0 T : zq_S) (v : (Int32 ⊕ Nat)) (X : zq_X) : Prop := zq_ok (Y_CT_next l G S0 T v) X b_CT_next 4 "ChangeTracker" "next" (some (.int)) []
abbrev b_CT_countRuns : ByteArray := prog_1_method_35_code
def y_CT_countRuns : MethodName := ⟨"ChangeTracker", "countRuns", "()I"⟩
def rm_CT_countRuns : Room := { frames := 1, cells := 0, slots := 0, locals := 21 }
abbrev Y_CT_countRuns (l : Launch) (G : zq_G) (S0 T : zq_S) (v : Int32) : zq_Y := (l, rm_CT_countRuns, G, S0, (.inl (some (.int v)) : zq_R), T)
abbrev Z_CT_countRuns (l : Launch) (G : zq_G) (S0 T : zq_S) (v : Int32) (X : zq_X) : Prop := zq_ok (Y_CT_countRuns l G S0 T v) X b_CT_countRuns 7 "ChangeTracker" "countRuns" (some (.int)) []
abbrev b_CT_isFound : ByteArray := prog_1_method_37_code
def y_CT_isFound : MethodName := ⟨"ChangeTracker", "isFound", "(JI)Z"⟩
def rm_CT_isFound : Room := { frames := 0, cells := 0, slots := 0, locals := 0 }
abbrev Y_CT_isFound (l : Launch) (G : zq_G) (S0 T : zq_S) (v : Int32) : zq_Y := (l, rm_CT_isFound, G, S0, (.inl (some (.int v)) : zq_R), T)
abbrev Z_CT_isFound (l : Launch) (G : zq_G) (S0 T : zq_S) (v : Int32) (X : zq_X) : Prop := zq_ok (Y_CT_isFound l G S0 T v) X b_CT_isFound 5 "ChangeTracker" "isFound" (some (.boolean)) []
abbrev b_CT_countDifferentMarks : ByteArray := prog_1_method_36_code
def y_CT_countDifferentMarks : MethodName := ⟨"ChangeTracker", "countDifferentMarks", "()I"⟩
def rm_CT_countDifferentMarks : Room := { frames := 1, cells := 0, slots := 0, locals := 24 }
abbrev Y_CT_countDifferentMarks (l : Launch) (G : zq_G) (S0 T : zq_S) (v : Int32) : zq_Y := (l, rm_CT_countDifferentMarks, G, S0, (.inl (some (.int v)) : zq_R), T)
abbrev Z_CT_countDifferentMarks (l : Launch) (G : zq_G) (S0 T : zq_S) (v : Int32) (X : zq_X) : Prop := zq_ok (Y_CT_countDifferentMarks l G S0 T v) X b_CT_countDifferentMarks 5 "ChangeTracker" "countDifferentMarks" (some (.int)) []
abbrev b_CT_count : ByteArray := prog_1_method_17_code
def y_CT_count : MethodName := ⟨"ChangeTracker", "count", "(I)I"⟩
def rm_CT_count : Room := { frames := 3, cells := 0, slots := 0, locals := 82 }
abbrev Y_CT_count (l : Launch) (G : zq_G) (S0 T : zq_S) (v : Int32) : zq_Y := (l, rm_CT_count, G, S0, (.inl (some (.int v)) : zq_R), T)
abbrev Z_CT_count (l : Launch) (G : zq_G) (S0 T : zq_S) (v : Int32) (X : zq_X) : Prop := zq_ok (Y_CT_count l G S0 T v) X b_CT_count 2 "ChangeTracker" "count" (some (.int)) []
abbrev b_Mo_init : ByteArray := prog_7_method_1_code
def y_Mo_init : MethodName := ⟨"ChangeTrackerModel", "<init>", "()V"⟩
def rm_Mo_init : Room := { frames := 1, cells := 8, slots := 13926, locals := 38 }
abbrev Y_Mo_init (l : Launch) (G : zq_G) (S0 T : zq_S) (v : Unit) : zq_Y := (l, rm_Mo_init, G, S0, (.inl none : zq_R), T)
abbrev Z_Mo_init (l : Launch) (G : zq_G) (S0 T : zq_S) (v : Unit) (X : zq_X) : Prop := zq_ok (Y_Mo_init l G S0 T v) X b_Mo_init 1 "ChangeTrackerModel" "<init>" none []
abbrev b_Mo_thrown : ByteArray := prog_7_method_2_code
def y_Mo_thrown : MethodName := ⟨"ChangeTrackerModel", "thrown", "()I"⟩
def rm_Mo_thrown : Room := { frames := 0, cells := 0, slots := 0, locals := 0 }
abbrev Y_Mo_thrown (l : Launch) (G : zq_G) (S0 T : zq_S) (v : Int32) : zq_Y := (l, rm_Mo_thrown, G, S0, (.inl (some (.int v)) : zq_R), T)
abbrev Z_Mo_thrown (l : Launch) (G : zq_G) (S0 T : zq_S) (v : Int32) (X : zq_X) : Prop := zq_ok (Y_Mo_thrown l G S0 T v) X b_Mo_thrown 1 "ChangeTrackerModel" "thrown" (some (.int)) []
abbrev b_Mo_raise : ByteArray := prog_7_method_3_code
def y_Mo_raise : MethodName := ⟨"ChangeTrackerModel", "raise", "(I)I"⟩
def rm_Mo_raise : Room := { frames := 0, cells := 0, slots := 0, locals := 0 }
abbrev Y_Mo_raise (l : Launch) (G : zq_G) (S0 T : zq_S) (v : Int32) : zq_Y := (l, rm_Mo_raise, G, S0, (.inl (some (.int v)) : zq_R), T)
abbrev Z_Mo_raise (l : Launch) (G : zq_G) (S0 T : zq_S) (v : Int32) (X : zq_X) : Prop := zq_ok (Y_Mo_raise l G S0 T v) X b_Mo_raise 2 "ChangeTrackerModel" "raise" (some (.int)) []
abbrev b_Mo_in : ByteArray := prog_7_method_4_code
def y_Mo_in : MethodName := ⟨"ChangeTrackerModel", "in", "(III)Z"⟩
def rm_Mo_in : Room := { frames := 0, cells := 0, slots := 0, locals := 0 }
abbrev Y_Mo_in (l : Launch) (G : zq_G) (S0 T : zq_S) (v : Int32) : zq_Y := (l, rm_Mo_in, G, S0, (.inl (some (.int v)) : zq_R), T)
abbrev Z_Mo_in (l : Launch) (G : zq_G) (S0 T : zq_S) (v : Int32) (X : zq_X) : Prop := zq_ok (Y_Mo_in l G S0 T v) X b_Mo_in 3 "ChangeTrackerModel" "in" (some (.boolean)) []
abbrev b_Mo_part : ByteArray := prog_7_method_5_code
def y_Mo_part : MethodName := ⟨"ChangeTrackerModel", "part", "(JI)I"⟩
def rm_Mo_part : Room := { frames := 0, cells := 0, slots := 0, locals := 0 }
abbrev Y_Mo_part (l : Launch) (G : zq_G) (S0 T : zq_S) (v : Int32) : zq_Y := (l, rm_Mo_part, G, S0, (.inl (some (.int v)) : zq_R), T)
abbrev Z_Mo_part (l : Launch) (G : zq_G) (S0 T : zq_S) (v : Int32) (X : zq_X) : Prop := zq_ok (Y_Mo_part l G S0 T v) X b_Mo_part 3 "ChangeTrackerModel" "part" (some (.int)) []
abbrev b_Mo_with : ByteArray := prog_7_method_6_code
def y_Mo_with : MethodName := ⟨"ChangeTrackerModel", "with", "(JII)J"⟩
def rm_Mo_with : Room := { frames := 0, cells := 0, slots := 0, locals := 0 }
abbrev Y_Mo_with (l : Launch) (G : zq_G) (S0 T : zq_S) (v : Int64) : zq_Y := (l, rm_Mo_with, G, S0, (.inl (some (.long v)) : zq_R), T)
abbrev Z_Mo_with (l : Launch) (G : zq_G) (S0 T : zq_S) (v : Int64) (X : zq_X) : Prop := zq_ok (Y_Mo_with l G S0 T v) X b_Mo_with 4 "ChangeTrackerModel" "with" (some (.long)) []
abbrev b_Mo_author : ByteArray := prog_7_method_7_code
def y_Mo_author : MethodName := ⟨"ChangeTrackerModel", "author", "(I)I"⟩
def rm_Mo_author : Room := { frames := 1, cells := 0, slots := 0, locals := 22 }
abbrev Y_Mo_author (l : Launch) (G : zq_G) (S0 T : zq_S) (v : Int32) : zq_Y := (l, rm_Mo_author, G, S0, (.inl (some (.int v)) : zq_R), T)
abbrev Z_Mo_author (l : Launch) (G : zq_G) (S0 T : zq_S) (v : Int32) (X : zq_X) : Prop := zq_ok (Y_Mo_author l G S0 T v) X b_Mo_author 3 "ChangeTrackerModel" "author" (some (.int)) []
abbrev b_Mo_track : ByteArray := prog_7_method_8_code
def y_Mo_track : MethodName := ⟨"ChangeTrackerModel", "track", "(Z)Z"⟩
def rm_Mo_track : Room := { frames := 0, cells := 0, slots := 0, locals := 0 }
abbrev Y_Mo_track (l : Launch) (G : zq_G) (S0 T : zq_S) (v : Int32) : zq_Y := (l, rm_Mo_track, G, S0, (.inl (some (.int v)) : zq_R), T)
abbrev Z_Mo_track (l : Launch) (G : zq_G) (S0 T : zq_S) (v : Int32) (X : zq_X) : Prop := zq_ok (Y_Mo_track l G S0 T v) X b_Mo_track 3 "ChangeTrackerModel" "track" (some (.boolean)) []
abbrev b_Mo_command : ByteArray := prog_7_method_9_code
def y_Mo_command : MethodName := ⟨"ChangeTrackerModel", "command", "(IIZIII)J"⟩
def rm_Mo_command : Room := { frames := 0, cells := 0, slots := 0, locals := 0 }
abbrev Y_Mo_command (l : Launch) (G : zq_G) (S0 T : zq_S) (v : Int64) : zq_Y := (l, rm_Mo_command, G, S0, (.inl (some (.long v)) : zq_R), T)
abbrev Z_Mo_command (l : Launch) (G : zq_G) (S0 T : zq_S) (v : Int64) (X : zq_X) : Prop := zq_ok (Y_Mo_command l G S0 T v) X b_Mo_command 6 "ChangeTrackerModel" "command" (some (.long)) []
abbrev b_Mo_put : ByteArray := prog_7_method_11_code
def y_Mo_put : MethodName := ⟨"ChangeTrackerModel", "put", "(IJII)I"⟩
def rm_Mo_put : Room := { frames := 0, cells := 0, slots := 0, locals := 0 }
abbrev Y_Mo_put (l : Launch) (G : zq_G) (S0 T : zq_S) (v : Int32) : zq_Y := (l, rm_Mo_put, G, S0, (.inl (some (.int v)) : zq_R), T)
abbrev Z_Mo_put (l : Launch) (G : zq_G) (S0 T : zq_S) (v : Int32) (X : zq_X) : Prop := zq_ok (Y_Mo_put l G S0 T v) X b_Mo_put 8 "ChangeTrackerModel" "put" (some (.int)) []
abbrev b_Mo_formatted : ByteArray := prog_7_method_13_code
def y_Mo_formatted : MethodName := ⟨"ChangeTrackerModel", "formatted", "(JIZZI)J"⟩
def rm_Mo_formatted : Room := { frames := 1, cells := 0, slots := 0, locals := 23 }
abbrev Y_Mo_formatted (l : Launch) (G : zq_G) (S0 T : zq_S) (v : Int64) : zq_Y := (l, rm_Mo_formatted, G, S0, (.inl (some (.long v)) : zq_R), T)
abbrev Z_Mo_formatted (l : Launch) (G : zq_G) (S0 T : zq_S) (v : Int64) (X : zq_X) : Prop := zq_ok (Y_Mo_formatted l G S0 T v) X b_Mo_formatted 8 "ChangeTrackerModel" "formatted" (some (.long)) []
abbrev b_Mo_become : ByteArray := prog_7_method_12_code
def y_Mo_become : MethodName := ⟨"ChangeTrackerModel", "become", "(JIIZI)J"⟩
def rm_Mo_become : Room := { frames := 2, cells := 0, slots := 0, locals := 50 }
abbrev Y_Mo_become (l : Launch) (G : zq_G) (S0 T : zq_S) (v : Int64) : zq_Y := (l, rm_Mo_become, G, S0, (.inl (some (.long v)) : zq_R), T)
abbrev Z_Mo_become (l : Launch) (G : zq_G) (S0 T : zq_S) (v : Int64) (X : zq_X) : Prop := zq_ok (Y_Mo_become l G S0 T v) X b_Mo_become 9 "ChangeTrackerModel" "become" (some (.long)) []
abbrev b_Mo_play : ByteArray := prog_7_method_10_code
def y_Mo_play : MethodName := ⟨"ChangeTrackerModel", "play", "(JJ)I"⟩
def rm_Mo_play : Room := { frames := 3, cells := 0, slots := 0, locals := 78 }
abbrev Y_Mo_play (l : Launch) (G : zq_G) (S0 T : zq_S) (v : Int32) : zq_Y := (l, rm_Mo_play, G, S0, (.inl (some (.int v)) : zq_R), T)
abbrev Z_Mo_play (l : Launch) (G : zq_G) (S0 T : zq_S) (v : Int32) (X : zq_X) : Prop := zq_ok (Y_Mo_play l G S0 T v) X b_Mo_play 20 "ChangeTrackerModel" "play" (some (.int)) []
abbrev b_Mo_keepWas : ByteArray := prog_7_method_14_code
def y_Mo_keepWas : MethodName := ⟨"ChangeTrackerModel", "keepWas", "()V"⟩
def rm_Mo_keepWas : Room := { frames := 0, cells := 0, slots := 0, locals := 0 }
abbrev Y_Mo_keepWas (l : Launch) (G : zq_G) (S0 T : zq_S) (v : Unit) : zq_Y := (l, rm_Mo_keepWas, G, S0, (.inl none : zq_R), T)
abbrev Z_Mo_keepWas (l : Launch) (G : zq_G) (S0 T : zq_S) (v : Unit) (X : zq_X) : Prop := zq_ok (Y_Mo_keepWas l G S0 T v) X b_Mo_keepWas 2 "ChangeTrackerModel" "keepWas" none []
abbrev b_Mo_toBase : ByteArray := prog_7_method_15_code
def y_Mo_toBase : MethodName := ⟨"ChangeTrackerModel", "toBase", "()V"⟩
def rm_Mo_toBase : Room := { frames := 0, cells := 0, slots := 0, locals := 0 }
abbrev Y_Mo_toBase (l : Launch) (G : zq_G) (S0 T : zq_S) (v : Unit) : zq_Y := (l, rm_Mo_toBase, G, S0, (.inl none : zq_R), T)
abbrev Z_Mo_toBase (l : Launch) (G : zq_G) (S0 T : zq_S) (v : Unit) (X : zq_X) : Prop := zq_ok (Y_Mo_toBase l G S0 T v) X b_Mo_toBase 2 "ChangeTrackerModel" "toBase" none []
abbrev b_Mo_fromBase : ByteArray := prog_7_method_16_code
def y_Mo_fromBase : MethodName := ⟨"ChangeTrackerModel", "fromBase", "()V"⟩
def rm_Mo_fromBase : Room := { frames := 0, cells := 0, slots := 0, locals := 0 }
abbrev Y_Mo_fromBase (l : Launch) (G : zq_G) (S0 T : zq_S) (v : Unit) : zq_Y := (l, rm_Mo_fromBase, G, S0, (.inl none : zq_R), T)
abbrev Z_Mo_fromBase (l : Launch) (G : zq_G) (S0 T : zq_S) (v : Unit) (X : zq_X) : Prop := zq_ok (Y_Mo_fromBase l G S0 T v) X b_Mo_fromBase 2 "ChangeTrackerModel" "fromBase" none []
abbrev b_Mo_weight : ByteArray := prog_7_method_17_code
def y_Mo_weight : MethodName := ⟨"ChangeTrackerModel", "weight", "()I"⟩
def rm_Mo_weight : Room := { frames := 0, cells := 0, slots := 0, locals := 0 }
abbrev Y_Mo_weight (l : Launch) (G : zq_G) (S0 T : zq_S) (v : Int32) : zq_Y := (l, rm_Mo_weight, G, S0, (.inl (some (.int v)) : zq_R), T)
abbrev Z_Mo_weight (l : Launch) (G : zq_G) (S0 T : zq_S) (v : Int32) (X : zq_X) : Prop := zq_ok (Y_Mo_weight l G S0 T v) X b_Mo_weight 4 "ChangeTrackerModel" "weight" (some (.int)) []
abbrev b_Mo_startOf : ByteArray := prog_7_method_18_code
def y_Mo_startOf : MethodName := ⟨"ChangeTrackerModel", "startOf", "(I)I"⟩
def rm_Mo_startOf : Room := { frames := 0, cells := 0, slots := 0, locals := 0 }
abbrev Y_Mo_startOf (l : Launch) (G : zq_G) (S0 T : zq_S) (v : Int32) : zq_Y := (l, rm_Mo_startOf, G, S0, (.inl (some (.int v)) : zq_R), T)
abbrev Z_Mo_startOf (l : Launch) (G : zq_G) (S0 T : zq_S) (v : Int32) (X : zq_X) : Prop := zq_ok (Y_Mo_startOf l G S0 T v) X b_Mo_startOf 2 "ChangeTrackerModel" "startOf" (some (.int)) []
abbrev b_Mo_weightOf : ByteArray := prog_7_method_19_code
def y_Mo_weightOf : MethodName := ⟨"ChangeTrackerModel", "weightOf", "(II)I"⟩
def rm_Mo_weightOf : Room := { frames := 0, cells := 0, slots := 0, locals := 0 }
abbrev Y_Mo_weightOf (l : Launch) (G : zq_G) (S0 T : zq_S) (v : Int32) : zq_Y := (l, rm_Mo_weightOf, G, S0, (.inl (some (.int v)) : zq_R), T)
abbrev Z_Mo_weightOf (l : Launch) (G : zq_G) (S0 T : zq_S) (v : Int32) (X : zq_X) : Prop := zq_ok (Y_Mo_weightOf l G S0 T v) X b_Mo_weightOf 5 "ChangeTrackerModel" "weightOf" (some (.int)) []
abbrev b_Mo_forgetAll : ByteArray := prog_7_method_20_code
def y_Mo_forgetAll : MethodName := ⟨"ChangeTrackerModel", "forgetAll", "()V"⟩
def rm_Mo_forgetAll : Room := { frames := 1, cells := 0, slots := 0, locals := 21 }
abbrev Y_Mo_forgetAll (l : Launch) (G : zq_G) (S0 T : zq_S) (v : Unit) : zq_Y := (l, rm_Mo_forgetAll, G, S0, (.inl none : zq_R), T)
abbrev Z_Mo_forgetAll (l : Launch) (G : zq_G) (S0 T : zq_S) (v : Unit) (X : zq_X) : Prop := zq_ok (Y_Mo_forgetAll l G S0 T v) X b_Mo_forgetAll 1 "ChangeTrackerModel" "forgetAll" none []
abbrev b_Mo_forgetFirst : ByteArray := prog_7_method_21_code
def y_Mo_forgetFirst : MethodName := ⟨"ChangeTrackerModel", "forgetFirst", "()V"⟩
def rm_Mo_forgetFirst : Room := { frames := 4, cells := 0, slots := 0, locals := 117 }
abbrev Y_Mo_forgetFirst (l : Launch) (G : zq_G) (S0 T : zq_S) (v : Unit) : zq_Y := (l, rm_Mo_forgetFirst, G, S0, (.inl none : zq_R), T)
abbrev Z_Mo_forgetFirst (l : Launch) (G : zq_G) (S0 T : zq_S) (v : Unit) (X : zq_X) : Prop := zq_ok (Y_Mo_forgetFirst l G S0 T v) X b_Mo_forgetFirst 4 "ChangeTrackerModel" "forgetFirst" none []
abbrev b_Mo_endGroup : ByteArray := prog_7_method_22_code
def y_Mo_endGroup : MethodName := ⟨"ChangeTrackerModel", "endGroup", "()V"⟩
def rm_Mo_endGroup : Room := { frames := 5, cells := 0, slots := 0, locals := 140 }
abbrev Y_Mo_endGroup (l : Launch) (G : zq_G) (S0 T : zq_S) (v : Unit) : zq_Y := (l, rm_Mo_endGroup, G, S0, (.inl none : zq_R), T)
abbrev Z_Mo_endGroup (l : Launch) (G : zq_G) (S0 T : zq_S) (v : Unit) (X : zq_X) : Prop := zq_ok (Y_Mo_endGroup l G S0 T v) X b_Mo_endGroup 1 "ChangeTrackerModel" "endGroup" none []
abbrev b_Mo_edit : ByteArray := prog_7_method_23_code
def y_Mo_edit : MethodName := ⟨"ChangeTrackerModel", "edit", "(IIIIJ)I"⟩
def rm_Mo_edit : Room := { frames := 6, cells := 0, slots := 0, locals := 160 }
abbrev Y_Mo_edit (l : Launch) (G : zq_G) (S0 T : zq_S) (v : Int32) : zq_Y := (l, rm_Mo_edit, G, S0, (.inl (some (.int v)) : zq_R), T)
abbrev Z_Mo_edit (l : Launch) (G : zq_G) (S0 T : zq_S) (v : Int32) (X : zq_X) : Prop := zq_ok (Y_Mo_edit l G S0 T v) X b_Mo_edit 11 "ChangeTrackerModel" "edit" (some (.int)) []
abbrev b_Mo_isPlace : ByteArray := prog_7_method_24_code
def y_Mo_isPlace : MethodName := ⟨"ChangeTrackerModel", "isPlace", "(I)Z"⟩
def rm_Mo_isPlace : Room := { frames := 1, cells := 0, slots := 0, locals := 22 }
abbrev Y_Mo_isPlace (l : Launch) (G : zq_G) (S0 T : zq_S) (v : Int32) : zq_Y := (l, rm_Mo_isPlace, G, S0, (.inl (some (.int v)) : zq_R), T)
abbrev Z_Mo_isPlace (l : Launch) (G : zq_G) (S0 T : zq_S) (v : Int32) (X : zq_X) : Prop := zq_ok (Y_Mo_isPlace l G S0 T v) X b_Mo_isPlace 2 "ChangeTrackerModel" "isPlace" (some (.boolean)) []
abbrev b_Mo_isRange : ByteArray := prog_7_method_25_code
def y_Mo_isRange : MethodName := ⟨"ChangeTrackerModel", "isRange", "(II)Z"⟩
def rm_Mo_isRange : Room := { frames := 2, cells := 0, slots := 0, locals := 43 }
abbrev Y_Mo_isRange (l : Launch) (G : zq_G) (S0 T : zq_S) (v : Int32) : zq_Y := (l, rm_Mo_isRange, G, S0, (.inl (some (.int v)) : zq_R), T)
abbrev Z_Mo_isRange (l : Launch) (G : zq_G) (S0 T : zq_S) (v : Int32) (X : zq_X) : Prop := zq_ok (Y_Mo_isRange l G S0 T v) X b_Mo_isRange 3 "ChangeTrackerModel" "isRange" (some (.boolean)) []
abbrev b_Mo_insert : ByteArray := prog_7_method_26_code
def y_Mo_insert : MethodName := ⟨"ChangeTrackerModel", "insert", "(IJI)I"⟩
def rm_Mo_insert : Room := { frames := 7, cells := 0, slots := 0, locals := 190 }
abbrev Y_Mo_insert (l : Launch) (G : zq_G) (S0 T : zq_S) (v : Int32) : zq_Y := (l, rm_Mo_insert, G, S0, (.inl (some (.int v)) : zq_R), T)
abbrev Z_Mo_insert (l : Launch) (G : zq_G) (S0 T : zq_S) (v : Int32) (X : zq_X) : Prop := zq_ok (Y_Mo_insert l G S0 T v) X b_Mo_insert 6 "ChangeTrackerModel" "insert" (some (.int)) []
abbrev b_Mo_erase : ByteArray := prog_7_method_27_code
def y_Mo_erase : MethodName := ⟨"ChangeTrackerModel", "erase", "(II)I"⟩
def rm_Mo_erase : Room := { frames := 7, cells := 0, slots := 0, locals := 190 }
abbrev Y_Mo_erase (l : Launch) (G : zq_G) (S0 T : zq_S) (v : Int32) : zq_Y := (l, rm_Mo_erase, G, S0, (.inl (some (.int v)) : zq_R), T)
abbrev Z_Mo_erase (l : Launch) (G : zq_G) (S0 T : zq_S) (v : Int32) (X : zq_X) : Prop := zq_ok (Y_Mo_erase l G S0 T v) X b_Mo_erase 3 "ChangeTrackerModel" "erase" (some (.int)) []
abbrev b_Mo_format : ByteArray := prog_7_method_28_code
def y_Mo_format : MethodName := ⟨"ChangeTrackerModel", "format", "(III)I"⟩
def rm_Mo_format : Room := { frames := 7, cells := 0, slots := 0, locals := 190 }
abbrev Y_Mo_format (l : Launch) (G : zq_G) (S0 T : zq_S) (v : Int32) : zq_Y := (l, rm_Mo_format, G, S0, (.inl (some (.int v)) : zq_R), T)
abbrev Z_Mo_format (l : Launch) (G : zq_G) (S0 T : zq_S) (v : Int32) (X : zq_X) : Prop := zq_ok (Y_Mo_format l G S0 T v) X b_Mo_format 4 "ChangeTrackerModel" "format" (some (.int)) []
abbrev b_Mo_accept : ByteArray := prog_7_method_29_code
def y_Mo_accept : MethodName := ⟨"ChangeTrackerModel", "accept", "(III)I"⟩
def rm_Mo_accept : Room := { frames := 7, cells := 0, slots := 0, locals := 190 }
abbrev Y_Mo_accept (l : Launch) (G : zq_G) (S0 T : zq_S) (v : Int32) : zq_Y := (l, rm_Mo_accept, G, S0, (.inl (some (.int v)) : zq_R), T)
abbrev Z_Mo_accept (l : Launch) (G : zq_G) (S0 T : zq_S) (v : Int32) (X : zq_X) : Prop := zq_ok (Y_Mo_accept l G S0 T v) X b_Mo_accept 4 "ChangeTrackerModel" "accept" (some (.int)) []
abbrev b_Mo_reject : ByteArray := prog_7_method_30_code
def y_Mo_reject : MethodName := ⟨"ChangeTrackerModel", "reject", "(III)I"⟩
def rm_Mo_reject : Room := { frames := 7, cells := 0, slots := 0, locals := 190 }
abbrev Y_Mo_reject (l : Launch) (G : zq_G) (S0 T : zq_S) (v : Int32) : zq_Y := (l, rm_Mo_reject, G, S0, (.inl (some (.int v)) : zq_R), T)
abbrev Z_Mo_reject (l : Launch) (G : zq_G) (S0 T : zq_S) (v : Int32) (X : zq_X) : Prop := zq_ok (Y_Mo_reject l G S0 T v) X b_Mo_reject 4 "ChangeTrackerModel" "reject" (some (.int)) []
abbrev b_Mo_open : ByteArray := prog_7_method_31_code
def y_Mo_open : MethodName := ⟨"ChangeTrackerModel", "open", "()V"⟩
def rm_Mo_open : Room := { frames := 0, cells := 0, slots := 0, locals := 0 }
abbrev Y_Mo_open (l : Launch) (G : zq_G) (S0 T : zq_S) (v : Unit) : zq_Y := (l, rm_Mo_open, G, S0, (.inl none : zq_R), T)
abbrev Z_Mo_open (l : Launch) (G : zq_G) (S0 T : zq_S) (v : Unit) (X : zq_X) : Prop := zq_ok (Y_Mo_open l G S0 T v) X b_Mo_open 1 "ChangeTrackerModel" "open" none []
abbrev b_Mo_close : ByteArray := prog_7_method_32_code
def y_Mo_close : MethodName := ⟨"ChangeTrackerModel", "close", "()I"⟩
def rm_Mo_close : Room := { frames := 6, cells := 0, slots := 0, locals := 160 }
abbrev Y_Mo_close (l : Launch) (G : zq_G) (S0 T : zq_S) (v : Int32) : zq_Y := (l, rm_Mo_close, G, S0, (.inl (some (.int v)) : zq_R), T)
abbrev Z_Mo_close (l : Launch) (G : zq_G) (S0 T : zq_S) (v : Int32) (X : zq_X) : Prop := zq_ok (Y_Mo_close l G S0 T v) X b_Mo_close 1 "ChangeTrackerModel" "close" (some (.int)) []
abbrev b_Mo_undo : ByteArray := prog_7_method_33_code
def y_Mo_undo : MethodName := ⟨"ChangeTrackerModel", "undo", "()I"⟩
def rm_Mo_undo : Room := { frames := 4, cells := 0, slots := 0, locals := 117 }
abbrev Y_Mo_undo (l : Launch) (G : zq_G) (S0 T : zq_S) (v : Int32) : zq_Y := (l, rm_Mo_undo, G, S0, (.inl (some (.int v)) : zq_R), T)
abbrev Z_Mo_undo (l : Launch) (G : zq_G) (S0 T : zq_S) (v : Int32) (X : zq_X) : Prop := zq_ok (Y_Mo_undo l G S0 T v) X b_Mo_undo 3 "ChangeTrackerModel" "undo" (some (.int)) []
abbrev b_Mo_redo : ByteArray := prog_7_method_34_code
def y_Mo_redo : MethodName := ⟨"ChangeTrackerModel", "redo", "()I"⟩
def rm_Mo_redo : Room := { frames := 4, cells := 0, slots := 0, locals := 117 }
abbrev Y_Mo_redo (l : Launch) (G : zq_G) (S0 T : zq_S) (v : Int32) : zq_Y := (l, rm_Mo_redo, G, S0, (.inl (some (.int v)) : zq_R), T)
abbrev Z_Mo_redo (l : Launch) (G : zq_G) (S0 T : zq_S) (v : Int32) (X : zq_X) : Prop := zq_ok (Y_Mo_redo l G S0 T v) X b_Mo_redo 3 "ChangeTrackerModel" "redo" (some (.int)) []
abbrev b_Mo_isSeen : ByteArray := prog_7_method_35_code
def y_Mo_isSeen : MethodName := ⟨"ChangeTrackerModel", "isSeen", "(IJ)Z"⟩
def rm_Mo_isSeen : Room := { frames := 1, cells := 0, slots := 0, locals := 22 }
abbrev Y_Mo_isSeen (l : Launch) (G : zq_G) (S0 T : zq_S) (v : Int32) : zq_Y := (l, rm_Mo_isSeen, G, S0, (.inl (some (.int v)) : zq_R), T)
abbrev Z_Mo_isSeen (l : Launch) (G : zq_G) (S0 T : zq_S) (v : Int32) (X : zq_X) : Prop := zq_ok (Y_Mo_isSeen l G S0 T v) X b_Mo_isSeen 4 "ChangeTrackerModel" "isSeen" (some (.boolean)) []
abbrev b_Mo_placeOf : ByteArray := prog_7_method_36_code
def y_Mo_placeOf : MethodName := ⟨"ChangeTrackerModel", "placeOf", "(II)I"⟩
def rm_Mo_placeOf : Room := { frames := 2, cells := 0, slots := 0, locals := 45 }
abbrev Y_Mo_placeOf (l : Launch) (G : zq_G) (S0 T : zq_S) (v : Int32) : zq_Y := (l, rm_Mo_placeOf, G, S0, (.inl (some (.int v)) : zq_R), T)
abbrev Z_Mo_placeOf (l : Launch) (G : zq_G) (S0 T : zq_S) (v : Int32) (X : zq_X) : Prop := zq_ok (Y_Mo_placeOf l G S0 T v) X b_Mo_placeOf 5 "ChangeTrackerModel" "placeOf" (some (.int)) []
abbrev b_Mo_length : ByteArray := prog_7_method_37_code
def y_Mo_length : MethodName := ⟨"ChangeTrackerModel", "length", "(I)I"⟩
def rm_Mo_length : Room := { frames := 3, cells := 0, slots := 0, locals := 69 }
abbrev Y_Mo_length (l : Launch) (G : zq_G) (S0 T : zq_S) (v : Int32) : zq_Y := (l, rm_Mo_length, G, S0, (.inl (some (.int v)) : zq_R), T)
abbrev Z_Mo_length (l : Launch) (G : zq_G) (S0 T : zq_S) (v : Int32) (X : zq_X) : Prop := zq_ok (Y_Mo_length l G S0 T v) X b_Mo_length 2 "ChangeTrackerModel" "length" (some (.int)) []
abbrev b_Mo_seen : ByteArray := prog_7_method_38_code
def y_Mo_seen : MethodName := ⟨"ChangeTrackerModel", "seen", "(III)I"⟩
def rm_Mo_seen : Room := { frames := 3, cells := 0, slots := 0, locals := 69 }
abbrev Y_Mo_seen (l : Launch) (G : zq_G) (S0 T : zq_S) (v : Int32) : zq_Y := (l, rm_Mo_seen, G, S0, (.inl (some (.int v)) : zq_R), T)
abbrev Z_Mo_seen (l : Launch) (G : zq_G) (S0 T : zq_S) (v : Int32) (X : zq_X) : Prop := zq_ok (Y_Mo_seen l G S0 T v) X b_Mo_seen 6 "ChangeTrackerModel" "seen" (some (.int)) []
abbrev b_Mo_mark : ByteArray := prog_7_method_39_code
def y_Mo_mark : MethodName := ⟨"ChangeTrackerModel", "mark", "(II)I"⟩
def rm_Mo_mark : Room := { frames := 1, cells := 0, slots := 0, locals := 22 }
abbrev Y_Mo_mark (l : Launch) (G : zq_G) (S0 T : zq_S) (v : Int32) : zq_Y := (l, rm_Mo_mark, G, S0, (.inl (some (.int v)) : zq_R), T)
abbrev Z_Mo_mark (l : Launch) (G : zq_G) (S0 T : zq_S) (v : Int32) (X : zq_X) : Prop := zq_ok (Y_Mo_mark l G S0 T v) X b_Mo_mark 5 "ChangeTrackerModel" "mark" (some (.int)) []
abbrev b_Mo_next : ByteArray := prog_7_method_40_code
def y_Mo_next : MethodName := ⟨"ChangeTrackerModel", "next", "(II)I"⟩
def rm_Mo_next : Room := { frames := 2, cells := 0, slots := 0, locals := 43 }
abbrev Y_Mo_next (l : Launch) (G : zq_G) (S0 T : zq_S) (v : Int32) : zq_Y := (l, rm_Mo_next, G, S0, (.inl (some (.int v)) : zq_R), T)
abbrev Z_Mo_next (l : Launch) (G : zq_G) (S0 T : zq_S) (v : Int32) (X : zq_X) : Prop := zq_ok (Y_Mo_next l G S0 T v) X b_Mo_next 4 "ChangeTrackerModel" "next" (some (.int)) []
abbrev b_Mo_alike : ByteArray := prog_7_method_41_code
def y_Mo_alike : MethodName := ⟨"ChangeTrackerModel", "alike", "(II)Z"⟩
def rm_Mo_alike : Room := { frames := 0, cells := 0, slots := 0, locals := 0 }
abbrev Y_Mo_alike (l : Launch) (G : zq_G) (S0 T : zq_S) (v : Int32) : zq_Y := (l, rm_Mo_alike, G, S0, (.inl (some (.int v)) : zq_R), T)
abbrev Z_Mo_alike (l : Launch) (G : zq_G) (S0 T : zq_S) (v : Int32) (X : zq_X) : Prop := zq_ok (Y_Mo_alike l G S0 T v) X b_Mo_alike 3 "ChangeTrackerModel" "alike" (some (.boolean)) []
abbrev b_Mo_marks : ByteArray := prog_7_method_42_code
def y_Mo_marks : MethodName := ⟨"ChangeTrackerModel", "marks", "(Z)I"⟩
def rm_Mo_marks : Room := { frames := 1, cells := 0, slots := 0, locals := 22 }
abbrev Y_Mo_marks (l : Launch) (G : zq_G) (S0 T : zq_S) (v : Int32) : zq_Y := (l, rm_Mo_marks, G, S0, (.inl (some (.int v)) : zq_R), T)
abbrev Z_Mo_marks (l : Launch) (G : zq_G) (S0 T : zq_S) (v : Int32) (X : zq_X) : Prop := zq_ok (Y_Mo_marks l G S0 T v) X b_Mo_marks 6 "ChangeTrackerModel" "marks" (some (.int)) []
abbrev b_Mo_count : ByteArray := prog_7_method_43_code
def y_Mo_count : MethodName := ⟨"ChangeTrackerModel", "count", "(I)I"⟩
def rm_Mo_count : Room := { frames := 2, cells := 0, slots := 0, locals := 47 }
abbrev Y_Mo_count (l : Launch) (G : zq_G) (S0 T : zq_S) (v : Int32) : zq_Y := (l, rm_Mo_count, G, S0, (.inl (some (.int v)) : zq_R), T)
abbrev Z_Mo_count (l : Launch) (G : zq_G) (S0 T : zq_S) (v : Int32) (X : zq_X) : Prop := zq_ok (Y_Mo_count l G S0 T v) X b_Mo_count 2 "ChangeTrackerModel" "count" (some (.int)) []
abbrev b_Law_author : ByteArray := method_3_code
def y_Law_author : MethodName := ⟨"ChangeTrackerLaw", "author", "(LChangeTracker;I[J)I"⟩
def rm_Law_author : Room := { frames := 7, cells := 1, slots := 6, locals := 122 }
abbrev Y_Law_author (l : Launch) (G : zq_G) (S0 T : zq_S) (v : Int32) : zq_Y := (l, rm_Law_author, G, S0, (.inl (some (.int v)) : zq_R), T)
abbrev Z_Law_author (l : Launch) (G : zq_G) (S0 T : zq_S) (v : Int32) (X : zq_X) : Prop := zq_ok (Y_Law_author l G S0 T v) X b_Law_author 4 "ChangeTrackerLaw" "author" (some (.int)) [(0, 9, 12, 13)]
abbrev b_Law_insert : ByteArray := method_4_code
def y_Law_insert : MethodName := ⟨"ChangeTrackerLaw", "insert", "(LChangeTracker;IJI[J)I"⟩
def rm_Law_insert : Room := { frames := 8, cells := 8, slots := 1222, locals := 174 }
abbrev Y_Law_insert (l : Launch) (G : zq_G) (S0 T : zq_S) (v : Int32) : zq_Y := (l, rm_Law_insert, G, S0, (.inl (some (.int v)) : zq_R), T)
abbrev Z_Law_insert (l : Launch) (G : zq_G) (S0 T : zq_S) (v : Int32) (X : zq_X) : Prop := zq_ok (Y_Law_insert l G S0 T v) X b_Law_insert 7 "ChangeTrackerLaw" "insert" (some (.int)) [(0, 13, 16, 19), (0, 13, 20, 13), (0, 13, 24, 21)]
abbrev b_Law_erase : ByteArray := method_5_code
def y_Law_erase : MethodName := ⟨"ChangeTrackerLaw", "erase", "(LChangeTracker;II[J)I"⟩
def rm_Law_erase : Room := { frames := 8, cells := 7, slots := 1216, locals := 170 }
abbrev Y_Law_erase (l : Launch) (G : zq_G) (S0 T : zq_S) (v : Int32) : zq_Y := (l, rm_Law_erase, G, S0, (.inl (some (.int v)) : zq_R), T)
abbrev Z_Law_erase (l : Launch) (G : zq_G) (S0 T : zq_S) (v : Int32) (X : zq_X) : Prop := zq_ok (Y_Law_erase l G S0 T v) X b_Law_erase 5 "ChangeTrackerLaw" "erase" (some (.int)) [(0, 10, 13, 19)]
abbrev b_Law_format : ByteArray := method_6_code
def y_Law_format : MethodName := ⟨"ChangeTrackerLaw", "format", "(LChangeTracker;III[J)I"⟩
def rm_Law_format : Room := { frames := 8, cells := 8, slots := 1222, locals := 174 }
abbrev Y_Law_format (l : Launch) (G : zq_G) (S0 T : zq_S) (v : Int32) : zq_Y := (l, rm_Law_format, G, S0, (.inl (some (.int v)) : zq_R), T)
abbrev Z_Law_format (l : Launch) (G : zq_G) (S0 T : zq_S) (v : Int32) (X : zq_X) : Prop := zq_ok (Y_Law_format l G S0 T v) X b_Law_format 6 "ChangeTrackerLaw" "format" (some (.int)) [(0, 12, 15, 19), (0, 12, 19, 13)]
abbrev b_Law_accept : ByteArray := method_7_code
def y_Law_accept : MethodName := ⟨"ChangeTrackerLaw", "accept", "(LChangeTracker;III[J)I"⟩
def rm_Law_accept : Room := { frames := 8, cells := 8, slots := 1222, locals := 200 }
abbrev Y_Law_accept (l : Launch) (G : zq_G) (S0 T : zq_S) (v : Int32) : zq_Y := (l, rm_Law_accept, G, S0, (.inl (some (.int v)) : zq_R), T)
abbrev Z_Law_accept (l : Launch) (G : zq_G) (S0 T : zq_S) (v : Int32) (X : zq_X) : Prop := zq_ok (Y_Law_accept l G S0 T v) X b_Law_accept 6 "ChangeTrackerLaw" "accept" (some (.int)) [(0, 12, 15, 19), (0, 12, 19, 13)]
abbrev b_Law_reject : ByteArray := method_8_code
def y_Law_reject : MethodName := ⟨"ChangeTrackerLaw", "reject", "(LChangeTracker;III[J)I"⟩
def rm_Law_reject : Room := { frames := 8, cells := 8, slots := 1222, locals := 200 }
abbrev Y_Law_reject (l : Launch) (G : zq_G) (S0 T : zq_S) (v : Int32) : zq_Y := (l, rm_Law_reject, G, S0, (.inl (some (.int v)) : zq_R), T)
abbrev Z_Law_reject (l : Launch) (G : zq_G) (S0 T : zq_S) (v : Int32) (X : zq_X) : Prop := zq_ok (Y_Law_reject l G S0 T v) X b_Law_reject 6 "ChangeTrackerLaw" "reject" (some (.int)) [(0, 12, 15, 19), (0, 12, 19, 13)]
abbrev b_Law_open : ByteArray := method_9_code
def y_Law_open : MethodName := ⟨"ChangeTrackerLaw", "open", "(LChangeTracker;)I"⟩
def rm_Law_open : Room := { frames := 7, cells := 1, slots := 6, locals := 120 }
abbrev Y_Law_open (l : Launch) (G : zq_G) (S0 T : zq_S) (v : Int32) : zq_Y := (l, rm_Law_open, G, S0, (.inl (some (.int v)) : zq_R), T)
abbrev Z_Law_open (l : Launch) (G : zq_G) (S0 T : zq_S) (v : Int32) (X : zq_X) : Prop := zq_ok (Y_Law_open l G S0 T v) X b_Law_open 2 "ChangeTrackerLaw" "open" (some (.int)) [(0, 4, 7, 21)]
abbrev b_Law_close : ByteArray := method_10_code
def y_Law_close : MethodName := ⟨"ChangeTrackerLaw", "close", "(LChangeTracker;[J)I"⟩
def rm_Law_close : Room := { frames := 7, cells := 3, slots := 605, locals := 144 }
abbrev Y_Law_close (l : Launch) (G : zq_G) (S0 T : zq_S) (v : Int32) : zq_Y := (l, rm_Law_close, G, S0, (.inl (some (.int v)) : zq_R), T)
abbrev Z_Law_close (l : Launch) (G : zq_G) (S0 T : zq_S) (v : Int32) (X : zq_X) : Prop := zq_ok (Y_Law_close l G S0 T v) X b_Law_close 3 "ChangeTrackerLaw" "close" (some (.int)) [(0, 8, 11, 21)]
abbrev b_Law_undo : ByteArray := method_11_code
def y_Law_undo : MethodName := ⟨"ChangeTrackerLaw", "undo", "(LChangeTracker;[J)I"⟩
def rm_Law_undo : Room := { frames := 7, cells := 1, slots := 6, locals := 121 }
abbrev Y_Law_undo (l : Launch) (G : zq_G) (S0 T : zq_S) (v : Int32) : zq_Y := (l, rm_Law_undo, G, S0, (.inl (some (.int v)) : zq_R), T)
abbrev Z_Law_undo (l : Launch) (G : zq_G) (S0 T : zq_S) (v : Int32) (X : zq_X) : Prop := zq_ok (Y_Law_undo l G S0 T v) X b_Law_undo 3 "ChangeTrackerLaw" "undo" (some (.int)) [(0, 8, 11, 21)]
abbrev b_Law_redo : ByteArray := method_12_code
def y_Law_redo : MethodName := ⟨"ChangeTrackerLaw", "redo", "(LChangeTracker;[J)I"⟩
def rm_Law_redo : Room := { frames := 7, cells := 1, slots := 6, locals := 121 }
abbrev Y_Law_redo (l : Launch) (G : zq_G) (S0 T : zq_S) (v : Int32) : zq_Y := (l, rm_Law_redo, G, S0, (.inl (some (.int v)) : zq_R), T)
abbrev Z_Law_redo (l : Launch) (G : zq_G) (S0 T : zq_S) (v : Int32) (X : zq_X) : Prop := zq_ok (Y_Law_redo l G S0 T v) X b_Law_redo 3 "ChangeTrackerLaw" "redo" (some (.int)) [(0, 8, 11, 21)]
abbrev b_Law_seen : ByteArray := method_13_code
def y_Law_seen : MethodName := ⟨"ChangeTrackerLaw", "seen", "(LChangeTracker;III[J)I"⟩
def rm_Law_seen : Room := { frames := 7, cells := 1, slots := 6, locals := 126 }
abbrev Y_Law_seen (l : Launch) (G : zq_G) (S0 T : zq_S) (v : Int32) : zq_Y := (l, rm_Law_seen, G, S0, (.inl (some (.int v)) : zq_R), T)
abbrev Z_Law_seen (l : Launch) (G : zq_G) (S0 T : zq_S) (v : Int32) (X : zq_X) : Prop := zq_ok (Y_Law_seen l G S0 T v) X b_Law_seen 6 "ChangeTrackerLaw" "seen" (some (.int)) [(0, 12, 15, 13), (0, 12, 19, 19)]
abbrev b_Law_mark : ByteArray := method_14_code
def y_Law_mark : MethodName := ⟨"ChangeTrackerLaw", "mark", "(LChangeTracker;II[J)I"⟩
def rm_Law_mark : Room := { frames := 8, cells := 2, slots := 12, locals := 146 }
abbrev Y_Law_mark (l : Launch) (G : zq_G) (S0 T : zq_S) (v : Int32) : zq_Y := (l, rm_Law_mark, G, S0, (.inl (some (.int v)) : zq_R), T)
abbrev Z_Law_mark (l : Launch) (G : zq_G) (S0 T : zq_S) (v : Int32) (X : zq_X) : Prop := zq_ok (Y_Law_mark l G S0 T v) X b_Law_mark 5 "ChangeTrackerLaw" "mark" (some (.int)) [(0, 10, 13, 19), (0, 10, 17, 13)]
abbrev b_Law_next : ByteArray := method_15_code
def y_Law_next : MethodName := ⟨"ChangeTrackerLaw", "next", "(LChangeTracker;II[J)I"⟩
def rm_Law_next : Room := { frames := 8, cells := 2, slots := 12, locals := 145 }
abbrev Y_Law_next (l : Launch) (G : zq_G) (S0 T : zq_S) (v : Int32) : zq_Y := (l, rm_Law_next, G, S0, (.inl (some (.int v)) : zq_R), T)
abbrev Z_Law_next (l : Launch) (G : zq_G) (S0 T : zq_S) (v : Int32) (X : zq_X) : Prop := zq_ok (Y_Law_next l G S0 T v) X b_Law_next 5 "ChangeTrackerLaw" "next" (some (.int)) [(0, 10, 13, 19), (0, 10, 17, 13)]
abbrev b_Law_law : ByteArray := code
def y_Law_law : MethodName := ⟨"ChangeTrackerLaw", "law", "([I)Z"⟩
abbrev rm_Law_law : Room := room_1
abbrev Y_Law_law (l : Launch) (G : zq_G) (S0 T : zq_S) (v : Int32) : zq_Y := (l, rm_Law_law, G, S0, (.inl (some (.int v)) : zq_R), T)
abbrev Z_Law_law (l : Launch) (G : zq_G) (S0 T : zq_S) (v : Int32) (X : zq_X) : Prop := zq_ok (Y_Law_law l G S0 T v) X b_Law_law 7 "ChangeTrackerLaw" "law" (some (.boolean)) []
