def am_nk : Cond → Bool
  | .fieldLinkNest _ _ _ _ _ _ => true
  | .methodLinkNest _ _ _ _ => true
  | .castable _ _ => true
  | .declares _ => true
  | _ => false
def am_TW : List Cond := lw_tbl.filter goodWord
def am_TN : List Cond := lw_tbl.filter am_nk
theorem am_tw {w : Cond} (h : w ∈ tables_1) (hg : goodWord w = true) : w ∈ am_TW := List.mem_filter.mpr ⟨List.mem_append_right _ h, hg⟩
theorem am_tn {w : Cond} (h : w ∈ tables_1) (hg : am_nk w = true) : w ∈ am_TN := List.mem_filter.mpr ⟨List.mem_append_right _ h, hg⟩
theorem am_ts {q : MethodName × Nat} (h : q ∈ lw_privs) : Cond.selects q.1.cls q.1 q.1 ∈ am_TW := List.mem_filter.mpr ⟨List.mem_append_left _ (List.mem_map.mpr ⟨q, h, rfl⟩), rfl⟩
def am_TS : List (String × Nat × String) := [("BubbleBox", 215, "power went off"), ("BubbleBox", 52, "there is no such loop"), ("BubbleBox", 57, "a loop is stuck at 0 or 1"), ("BubbleBox", 65, "there is a map"), ("BubbleBox", 76, "the box is off"), ("BubbleBox", 209, "the box is not mounted"), ("BubbleBox", 114, "the name is 0 or a file's"), ("BubbleBox", 118, "there are 8 files"), ("BubbleBox", 211, "there is no such file"), ("BubbleBox", 264, "no page is free"), ("BubbleBox", 150, "there is no such byte"), ("BubbleBox", 164, "n is not 0 .. the length"), ("BubbleBox", 178, "there is no such page"), ("BubbleBox", 183, "there are 16 requests"), ("BubbleBox", 203, "the latest serve() had no such request")]
def am_TC : List (String × String) := [("java/lang/IllegalStateException", "java/lang/IllegalArgumentException"), ("java/lang/UnsupportedOperationException", "java/lang/IllegalArgumentException"), ("java/lang/IndexOutOfBoundsException", "java/lang/IllegalArgumentException"), ("java/lang/IllegalArgumentException", "java/lang/IllegalStateException"), ("java/lang/UnsupportedOperationException", "java/lang/IllegalStateException"), ("java/lang/IndexOutOfBoundsException", "java/lang/IllegalStateException"), ("java/lang/IllegalArgumentException", "java/lang/UnsupportedOperationException"), ("java/lang/IllegalStateException", "java/lang/UnsupportedOperationException"), ("java/lang/IndexOutOfBoundsException", "java/lang/UnsupportedOperationException"), ("java/lang/IllegalArgumentException", "java/lang/IndexOutOfBoundsException"), ("java/lang/IllegalStateException", "java/lang/IndexOutOfBoundsException"), ("java/lang/UnsupportedOperationException", "java/lang/IndexOutOfBoundsException")]
def am_TA : List String := ["BubbleBox$Entry", "BubbleBox$Image"]
def am_FB : u_T := fun k => match k with
  | 0 => ("BubbleBox", "chip", "LBubbleBox$Chip;", true)
  | 1 => ("BubbleBox", "directory", "LBubbleBox$Directory;", true)
  | 2 => ("BubbleBox", "requests", "LBubbleBox$Requests;", true)
  | 3 => ("BubbleBox", "images", "[LBubbleBox$Image;", true)
  | 4 => ("BubbleBox", "condition", "I", false)
  | 5 => ("BubbleBox", "transfersLeft", "I", false)
  | 6 => ("BubbleBox", "currentImage", "I", false)
  | _ => ("BubbleBox", "turn", "I", false)
def am_tB : Nat → FieldType := fun k => match k with
  | 0 => .object "BubbleBox$Chip"
  | 1 => .object "BubbleBox$Directory"
  | 2 => .object "BubbleBox$Requests"
  | 3 => .array (.object "BubbleBox$Image")
  | 4 => .int
  | 5 => .int
  | 6 => .int
  | _ => .int
theorem am_nB : ∀ a, a < 8 → ∀ b, b < 8 → a ≠ b → (am_FB a).2.1 ≠ (am_FB b).2.1 := by decide +kernel
theorem am_tkB : ∀ k, k < 8 → parseFieldDescriptor (am_FB k).2.2.1 = some (am_tB k) := by decide +kernel
def am_FC : u_T := fun k => match k with
  | 0 => ("BubbleBox$Chip", "pages", "[J", true)
  | 1 => ("BubbleBox$Chip", "bad", "[Z", true)
  | 2 => ("BubbleBox$Chip", "mapped", "Z", false)
  | 3 => ("BubbleBox$Chip", "position", "I", false)
  | _ => ("BubbleBox$Chip", "stepsTaken", "J", false)
def am_tC : Nat → FieldType := fun k => match k with
  | 0 => .array (.long)
  | 1 => .array (.boolean)
  | 2 => .boolean
  | 3 => .int
  | _ => .long
theorem am_nC : ∀ a, a < 5 → ∀ b, b < 5 → a ≠ b → (am_FC a).2.1 ≠ (am_FC b).2.1 := by decide +kernel
theorem am_tkC : ∀ k, k < 5 → parseFieldDescriptor (am_FC k).2.2.1 = some (am_tC k) := by decide +kernel
def am_FD : u_T := fun k => match k with
  | 0 => ("BubbleBox$Directory", "entries", "[LBubbleBox$Entry;", true)
  | 1 => ("BubbleBox$Directory", "behind", "[I", true)
  | 2 => ("BubbleBox$Directory", "owned", "[Z", true)
  | _ => ("BubbleBox$Directory", "held", "[Z", true)
def am_tD : Nat → FieldType := fun k => match k with
  | 0 => .array (.object "BubbleBox$Entry")
  | 1 => .array (.int)
  | 2 => .array (.boolean)
  | _ => .array (.boolean)
theorem am_nD : ∀ a, a < 4 → ∀ b, b < 4 → a ≠ b → (am_FD a).2.1 ≠ (am_FD b).2.1 := by decide +kernel
theorem am_tkD : ∀ k, k < 4 → parseFieldDescriptor (am_FD k).2.2.1 = some (am_tD k) := by decide +kernel
def am_FE : u_T := fun k => match k with
  | 0 => ("BubbleBox$Entry", "name", "I", false)
  | 1 => ("BubbleBox$Entry", "firstPage", "I", false)
  | 2 => ("BubbleBox$Entry", "bytes", "I", false)
  | 3 => ("BubbleBox$Entry", "windowPage", "I", false)
  | 4 => ("BubbleBox$Entry", "windowBits", "J", false)
  | _ => ("BubbleBox$Entry", "changed", "Z", false)
def am_tE : Nat → FieldType := fun k => match k with
  | 0 => .int
  | 1 => .int
  | 2 => .int
  | 3 => .int
  | 4 => .long
  | _ => .boolean
theorem am_nE : ∀ a, a < 6 → ∀ b, b < 6 → a ≠ b → (am_FE a).2.1 ≠ (am_FE b).2.1 := by decide +kernel
theorem am_tkE : ∀ k, k < 6 → parseFieldDescriptor (am_FE k).2.2.1 = some (am_tE k) := by decide +kernel
def am_FI : u_T := fun k => match k with
  | _ => ("BubbleBox$Image", "pages", "[J", true)
def am_tI : Nat → FieldType := fun k => match k with
  | _ => .array (.long)
theorem am_nI : ∀ a, a < 1 → ∀ b, b < 1 → a ≠ b → (am_FI a).2.1 ≠ (am_FI b).2.1 := by decide +kernel
theorem am_tkI : ∀ k, k < 1 → parseFieldDescriptor (am_FI k).2.2.1 = some (am_tI k) := by decide +kernel
def am_FR : u_T := fun k => match k with
  | 0 => ("BubbleBox$Requests", "page", "[I", true)
  | 1 => ("BubbleBox$Requests", "write", "[Z", true)
  | 2 => ("BubbleBox$Requests", "bits", "[J", true)
  | 3 => ("BubbleBox$Requests", "waiting", "[Z", true)
  | 4 => ("BubbleBox$Requests", "answers", "[J", true)
  | 5 => ("BubbleBox$Requests", "asked", "I", false)
  | _ => ("BubbleBox$Requests", "answered", "I", false)
def am_tR : Nat → FieldType := fun k => match k with
  | 0 => .array (.int)
  | 1 => .array (.boolean)
  | 2 => .array (.long)
  | 3 => .array (.boolean)
  | 4 => .array (.long)
  | 5 => .int
  | _ => .int
theorem am_nR : ∀ a, a < 7 → ∀ b, b < 7 → a ≠ b → (am_FR a).2.1 ≠ (am_FR b).2.1 := by decide +kernel
theorem am_tkR : ∀ k, k < 7 → parseFieldDescriptor (am_FR k).2.2.1 = some (am_tR k) := by decide +kernel
def am_FM : u_T := fun k => match k with
  | 0 => ("BubbleBoxModel", "code", "I", false)
  | 1 => ("BubbleBoxModel", "bad", "[Z", true)
  | 2 => ("BubbleBoxModel", "mapped", "Z", false)
  | 3 => ("BubbleBoxModel", "data", "[J", true)
  | 4 => ("BubbleBoxModel", "position", "I", false)
  | 5 => ("BubbleBoxModel", "steps", "J", false)
  | 6 => ("BubbleBoxModel", "left", "I", false)
  | 7 => ("BubbleBoxModel", "on", "Z", false)
  | 8 => ("BubbleBoxModel", "mounted", "Z", false)
  | 9 => ("BubbleBoxModel", "name", "[I", true)
  | 10 => ("BubbleBoxModel", "length", "[I", true)
  | 11 => ("BubbleBoxModel", "chain", "[I", true)
  | 12 => ("BubbleBoxModel", "windowPage", "[I", true)
  | 13 => ("BubbleBoxModel", "windowBits", "[J", true)
  | 14 => ("BubbleBoxModel", "changed", "[Z", true)
  | 15 => ("BubbleBoxModel", "current", "I", false)
  | 16 => ("BubbleBoxModel", "turn", "I", false)
  | 17 => ("BubbleBoxModel", "held", "[Z", true)
  | 18 => ("BubbleBoxModel", "image", "[I", true)
  | 19 => ("BubbleBoxModel", "behind", "[I", true)
  | 20 => ("BubbleBoxModel", "requests", "I", false)
  | 21 => ("BubbleBoxModel", "askedPage", "[I", true)
  | 22 => ("BubbleBoxModel", "asksWrite", "[Z", true)
  | 23 => ("BubbleBoxModel", "askedBits", "[J", true)
  | 24 => ("BubbleBoxModel", "done", "[Z", true)
  | 25 => ("BubbleBoxModel", "answers", "I", false)
  | _ => ("BubbleBoxModel", "answer", "[J", true)
def am_tM : Nat → FieldType := fun k => match k with
  | 0 => .int
  | 1 => .array (.boolean)
  | 2 => .boolean
  | 3 => .array (.long)
  | 4 => .int
  | 5 => .long
  | 6 => .int
  | 7 => .boolean
  | 8 => .boolean
  | 9 => .array (.int)
  | 10 => .array (.int)
  | 11 => .array (.int)
  | 12 => .array (.int)
  | 13 => .array (.long)
  | 14 => .array (.boolean)
  | 15 => .int
  | 16 => .int
  | 17 => .array (.boolean)
  | 18 => .array (.int)
  | 19 => .array (.int)
  | 20 => .int
  | 21 => .array (.int)
  | 22 => .array (.boolean)
  | 23 => .array (.long)
  | 24 => .array (.boolean)
  | 25 => .int
  | _ => .array (.long)
theorem am_nM : ∀ a, a < 27 → ∀ b, b < 27 → a ≠ b → (am_FM a).2.1 ≠ (am_FM b).2.1 := by decide +kernel
theorem am_tkM : ∀ k, k < 27 → parseFieldDescriptor (am_FM k).2.2.1 = some (am_tM k) := by decide +kernel
abbrev am_cl : List vw_C := [("BubbleBox", am_FB, 8), ("BubbleBox$Chip", am_FC, 5), ("BubbleBox$Directory", am_FD, 4), ("BubbleBox$Entry", am_FE, 6), ("BubbleBox$Image", am_FI, 1), ("BubbleBox$Requests", am_FR, 7), ("BubbleBoxModel", am_FM, 27)]
theorem ks_0 : Cond.selects "BubbleBox" ⟨"BubbleBox", "forgetAll", "()V"⟩ ⟨"BubbleBox", "forgetAll", "()V"⟩ ∈ am_TW := am_ts (q := (⟨"BubbleBox", "forgetAll", "()V"⟩, 8)) (List.mem_of_getElem? (i := 0) rfl)
theorem ks_1 : Cond.selects "BubbleBox$Directory" ⟨"BubbleBox$Directory", "forget", "()V"⟩ ⟨"BubbleBox$Directory", "forget", "()V"⟩ ∈ am_TW := am_ts (q := (⟨"BubbleBox$Directory", "forget", "()V"⟩, 4)) (List.mem_of_getElem? (i := 1) rfl)
theorem ks_2 : Cond.selects "BubbleBox$Entry" ⟨"BubbleBox$Entry", "forget", "()V"⟩ ⟨"BubbleBox$Entry", "forget", "()V"⟩ ∈ am_TW := am_ts (q := (⟨"BubbleBox$Entry", "forget", "()V"⟩, 6)) (List.mem_of_getElem? (i := 2) rfl)
theorem ks_3 : Cond.selects "BubbleBox$Entry" ⟨"BubbleBox$Entry", "openWindow", "(IJ)V"⟩ ⟨"BubbleBox$Entry", "openWindow", "(IJ)V"⟩ ∈ am_TW := am_ts (q := (⟨"BubbleBox$Entry", "openWindow", "(IJ)V"⟩, 6)) (List.mem_of_getElem? (i := 3) rfl)
theorem ks_4 : Cond.selects "BubbleBox$Requests" ⟨"BubbleBox$Requests", "forget", "()V"⟩ ⟨"BubbleBox$Requests", "forget", "()V"⟩ ∈ am_TW := am_ts (q := (⟨"BubbleBox$Requests", "forget", "()V"⟩, 7)) (List.mem_of_getElem? (i := 4) rfl)
theorem ks_5 : Cond.selects "BubbleBox" ⟨"BubbleBox", "readImages", "()V"⟩ ⟨"BubbleBox", "readImages", "()V"⟩ ∈ am_TW := am_ts (q := (⟨"BubbleBox", "readImages", "()V"⟩, 8)) (List.mem_of_getElem? (i := 5) rfl)
theorem ks_6 : Cond.selects "BubbleBox" ⟨"BubbleBox", "readPage", "(I)J"⟩ ⟨"BubbleBox", "readPage", "(I)J"⟩ ∈ am_TW := am_ts (q := (⟨"BubbleBox", "readPage", "(I)J"⟩, 8)) (List.mem_of_getElem? (i := 6) rfl)
theorem ks_7 : Cond.selects "BubbleBox" ⟨"BubbleBox", "usePower", "()V"⟩ ⟨"BubbleBox", "usePower", "()V"⟩ ∈ am_TW := am_ts (q := (⟨"BubbleBox", "usePower", "()V"⟩, 8)) (List.mem_of_getElem? (i := 7) rfl)
theorem ks_8 : Cond.selects "java/lang/Throwable" ⟨"java/lang/Throwable", "fillInStackTrace", "(I)Ljava/lang/Throwable;"⟩ ⟨"java/lang/Throwable", "fillInStackTrace", "(I)Ljava/lang/Throwable;"⟩ ∈ am_TW := am_ts (q := (⟨"java/lang/Throwable", "fillInStackTrace", "(I)Ljava/lang/Throwable;"⟩, 6)) (List.mem_of_getElem? (i := 8) rfl)
theorem ks_9 : Cond.selects "BubbleBox$Chip" ⟨"BubbleBox$Chip", "turnTo", "(I)V"⟩ ⟨"BubbleBox$Chip", "turnTo", "(I)V"⟩ ∈ am_TW := am_ts (q := (⟨"BubbleBox$Chip", "turnTo", "(I)V"⟩, 5)) (List.mem_of_getElem? (i := 9) rfl)
theorem ks_10 : Cond.selects "BubbleBox$Chip" ⟨"BubbleBox$Chip", "stepsTo", "(I)I"⟩ ⟨"BubbleBox$Chip", "stepsTo", "(I)I"⟩ ∈ am_TW := am_ts (q := (⟨"BubbleBox$Chip", "stepsTo", "(I)I"⟩, 5)) (List.mem_of_getElem? (i := 10) rfl)
theorem ks_11 : Cond.selects "BubbleBox" ⟨"BubbleBox", "newestImage", "()I"⟩ ⟨"BubbleBox", "newestImage", "()I"⟩ ∈ am_TW := am_ts (q := (⟨"BubbleBox", "newestImage", "()I"⟩, 8)) (List.mem_of_getElem? (i := 11) rfl)
theorem ks_12 : Cond.selects "BubbleBox$Image" ⟨"BubbleBox$Image", "isValid", "()Z"⟩ ⟨"BubbleBox$Image", "isValid", "()Z"⟩ ∈ am_TW := am_ts (q := (⟨"BubbleBox$Image", "isValid", "()Z"⟩, 1)) (List.mem_of_getElem? (i := 12) rfl)
theorem ks_13 : Cond.selects "BubbleBox$Image" ⟨"BubbleBox$Image", "number", "(II)I"⟩ ⟨"BubbleBox$Image", "number", "(II)I"⟩ ∈ am_TW := am_ts (q := (⟨"BubbleBox$Image", "number", "(II)I"⟩, 1)) (List.mem_of_getElem? (i := 13) rfl)
theorem ks_14 : Cond.selects "BubbleBox$Image" ⟨"BubbleBox$Image", "dueSum", "()I"⟩ ⟨"BubbleBox$Image", "dueSum", "()I"⟩ ∈ am_TW := am_ts (q := (⟨"BubbleBox$Image", "dueSum", "()I"⟩, 1)) (List.mem_of_getElem? (i := 14) rfl)
theorem ks_15 : Cond.selects "BubbleBox$Directory" ⟨"BubbleBox$Directory", "takeFrom", "(LBubbleBox$Image;)V"⟩ ⟨"BubbleBox$Directory", "takeFrom", "(LBubbleBox$Image;)V"⟩ ∈ am_TW := am_ts (q := (⟨"BubbleBox$Directory", "takeFrom", "(LBubbleBox$Image;)V"⟩, 4)) (List.mem_of_getElem? (i := 15) rfl)
theorem ks_16 : Cond.selects "BubbleBox$Image" ⟨"BubbleBox$Image", "pageNumber", "(I)I"⟩ ⟨"BubbleBox$Image", "pageNumber", "(I)I"⟩ ∈ am_TW := am_ts (q := (⟨"BubbleBox$Image", "pageNumber", "(I)I"⟩, 1)) (List.mem_of_getElem? (i := 16) rfl)
theorem ks_17 : Cond.selects "BubbleBox$Directory" ⟨"BubbleBox$Directory", "ownChain", "(LBubbleBox$Entry;)V"⟩ ⟨"BubbleBox$Directory", "ownChain", "(LBubbleBox$Entry;)V"⟩ ∈ am_TW := am_ts (q := (⟨"BubbleBox$Directory", "ownChain", "(LBubbleBox$Entry;)V"⟩, 4)) (List.mem_of_getElem? (i := 17) rfl)
theorem ks_18 : Cond.selects "BubbleBox$Directory" ⟨"BubbleBox$Directory", "holdOwned", "()V"⟩ ⟨"BubbleBox$Directory", "holdOwned", "()V"⟩ ∈ am_TW := am_ts (q := (⟨"BubbleBox$Directory", "holdOwned", "()V"⟩, 4)) (List.mem_of_getElem? (i := 18) rfl)
theorem ks_19 : Cond.selects "BubbleBox$Chip" ⟨"BubbleBox$Chip", "goodLoops", "()I"⟩ ⟨"BubbleBox$Chip", "goodLoops", "()I"⟩ ∈ am_TW := am_ts (q := (⟨"BubbleBox$Chip", "goodLoops", "()I"⟩, 5)) (List.mem_of_getElem? (i := 19) rfl)
theorem ks_20 : Cond.selects "BubbleBox$Chip" ⟨"BubbleBox$Chip", "clearPages", "()V"⟩ ⟨"BubbleBox$Chip", "clearPages", "()V"⟩ ∈ am_TW := am_ts (q := (⟨"BubbleBox$Chip", "clearPages", "()V"⟩, 5)) (List.mem_of_getElem? (i := 20) rfl)
theorem ks_21 : Cond.selects "BubbleBox" ⟨"BubbleBox", "writeAll", "()I"⟩ ⟨"BubbleBox", "writeAll", "()I"⟩ ∈ am_TW := am_ts (q := (⟨"BubbleBox", "writeAll", "()I"⟩, 8)) (List.mem_of_getElem? (i := 21) rfl)
theorem ks_22 : Cond.selects "BubbleBox" ⟨"BubbleBox", "save", "(LBubbleBox$Entry;)V"⟩ ⟨"BubbleBox", "save", "(LBubbleBox$Entry;)V"⟩ ∈ am_TW := am_ts (q := (⟨"BubbleBox", "save", "(LBubbleBox$Entry;)V"⟩, 8)) (List.mem_of_getElem? (i := 22) rfl)
theorem ks_23 : Cond.selects "BubbleBox" ⟨"BubbleBox", "writePage", "(IJ)V"⟩ ⟨"BubbleBox", "writePage", "(IJ)V"⟩ ∈ am_TW := am_ts (q := (⟨"BubbleBox", "writePage", "(IJ)V"⟩, 8)) (List.mem_of_getElem? (i := 23) rfl)
theorem ks_24 : Cond.selects "BubbleBox" ⟨"BubbleBox", "writeOtherImage", "()V"⟩ ⟨"BubbleBox", "writeOtherImage", "()V"⟩ ∈ am_TW := am_ts (q := (⟨"BubbleBox", "writeOtherImage", "()V"⟩, 8)) (List.mem_of_getElem? (i := 24) rfl)
theorem ks_25 : Cond.selects "BubbleBox$Directory" ⟨"BubbleBox$Directory", "putInto", "(LBubbleBox$Image;I)V"⟩ ⟨"BubbleBox$Directory", "putInto", "(LBubbleBox$Image;I)V"⟩ ∈ am_TW := am_ts (q := (⟨"BubbleBox$Directory", "putInto", "(LBubbleBox$Image;I)V"⟩, 4)) (List.mem_of_getElem? (i := 25) rfl)
theorem ks_26 : Cond.selects "BubbleBox$Image" ⟨"BubbleBox$Image", "clear", "()V"⟩ ⟨"BubbleBox$Image", "clear", "()V"⟩ ∈ am_TW := am_ts (q := (⟨"BubbleBox$Image", "clear", "()V"⟩, 1)) (List.mem_of_getElem? (i := 26) rfl)
theorem ks_27 : Cond.selects "BubbleBox$Image" ⟨"BubbleBox$Image", "putNumber", "(III)V"⟩ ⟨"BubbleBox$Image", "putNumber", "(III)V"⟩ ∈ am_TW := am_ts (q := (⟨"BubbleBox$Image", "putNumber", "(III)V"⟩, 1)) (List.mem_of_getElem? (i := 27) rfl)
theorem ks_28 : Cond.selects "BubbleBox" ⟨"BubbleBox", "needMounted", "()V"⟩ ⟨"BubbleBox", "needMounted", "()V"⟩ ∈ am_TW := am_ts (q := (⟨"BubbleBox", "needMounted", "()V"⟩, 8)) (List.mem_of_getElem? (i := 28) rfl)
theorem ks_29 : Cond.selects "BubbleBox$Directory" ⟨"BubbleBox$Directory", "numberOf", "(I)I"⟩ ⟨"BubbleBox$Directory", "numberOf", "(I)I"⟩ ∈ am_TW := am_ts (q := (⟨"BubbleBox$Directory", "numberOf", "(I)I"⟩, 4)) (List.mem_of_getElem? (i := 29) rfl)
theorem ks_30 : Cond.selects "BubbleBox" ⟨"BubbleBox", "entryOf", "(I)LBubbleBox$Entry;"⟩ ⟨"BubbleBox", "entryOf", "(I)LBubbleBox$Entry;"⟩ ∈ am_TW := am_ts (q := (⟨"BubbleBox", "entryOf", "(I)LBubbleBox$Entry;"⟩, 8)) (List.mem_of_getElem? (i := 30) rfl)
theorem ks_31 : Cond.selects "BubbleBox" ⟨"BubbleBox", "openNewPage", "(LBubbleBox$Entry;)V"⟩ ⟨"BubbleBox", "openNewPage", "(LBubbleBox$Entry;)V"⟩ ∈ am_TW := am_ts (q := (⟨"BubbleBox", "openNewPage", "(LBubbleBox$Entry;)V"⟩, 8)) (List.mem_of_getElem? (i := 31) rfl)
theorem ks_32 : Cond.selects "BubbleBox" ⟨"BubbleBox", "neededFreePage", "()I"⟩ ⟨"BubbleBox", "neededFreePage", "()I"⟩ ∈ am_TW := am_ts (q := (⟨"BubbleBox", "neededFreePage", "()I"⟩, 8)) (List.mem_of_getElem? (i := 32) rfl)
theorem ks_33 : Cond.selects "BubbleBox$Directory" ⟨"BubbleBox$Directory", "leastFree", "()I"⟩ ⟨"BubbleBox$Directory", "leastFree", "()I"⟩ ∈ am_TW := am_ts (q := (⟨"BubbleBox$Directory", "leastFree", "()I"⟩, 4)) (List.mem_of_getElem? (i := 33) rfl)
theorem ks_34 : Cond.selects "BubbleBox$Directory" ⟨"BubbleBox$Directory", "isFree", "(I)Z"⟩ ⟨"BubbleBox$Directory", "isFree", "(I)Z"⟩ ∈ am_TW := am_ts (q := (⟨"BubbleBox$Directory", "isFree", "(I)Z"⟩, 4)) (List.mem_of_getElem? (i := 34) rfl)
theorem ks_35 : Cond.selects "BubbleBox$Directory" ⟨"BubbleBox$Directory", "addPage", "(LBubbleBox$Entry;I)V"⟩ ⟨"BubbleBox$Directory", "addPage", "(LBubbleBox$Entry;I)V"⟩ ∈ am_TW := am_ts (q := (⟨"BubbleBox$Directory", "addPage", "(LBubbleBox$Entry;I)V"⟩, 4)) (List.mem_of_getElem? (i := 35) rfl)
theorem ks_36 : Cond.selects "BubbleBox$Directory" ⟨"BubbleBox$Directory", "putPageAt", "(LBubbleBox$Entry;II)V"⟩ ⟨"BubbleBox$Directory", "putPageAt", "(LBubbleBox$Entry;II)V"⟩ ∈ am_TW := am_ts (q := (⟨"BubbleBox$Directory", "putPageAt", "(LBubbleBox$Entry;II)V"⟩, 4)) (List.mem_of_getElem? (i := 36) rfl)
theorem ks_37 : Cond.selects "BubbleBox$Directory" ⟨"BubbleBox$Directory", "pageAt", "(LBubbleBox$Entry;I)I"⟩ ⟨"BubbleBox$Directory", "pageAt", "(LBubbleBox$Entry;I)I"⟩ ∈ am_TW := am_ts (q := (⟨"BubbleBox$Directory", "pageAt", "(LBubbleBox$Entry;I)I"⟩, 4)) (List.mem_of_getElem? (i := 37) rfl)
theorem ks_38 : Cond.selects "BubbleBox" ⟨"BubbleBox", "openLastPage", "(LBubbleBox$Entry;)V"⟩ ⟨"BubbleBox", "openLastPage", "(LBubbleBox$Entry;)V"⟩ ∈ am_TW := am_ts (q := (⟨"BubbleBox", "openLastPage", "(LBubbleBox$Entry;)V"⟩, 8)) (List.mem_of_getElem? (i := 38) rfl)
theorem ks_39 : Cond.selects "BubbleBox" ⟨"BubbleBox", "load", "(LBubbleBox$Entry;I)V"⟩ ⟨"BubbleBox", "load", "(LBubbleBox$Entry;I)V"⟩ ∈ am_TW := am_ts (q := (⟨"BubbleBox", "load", "(LBubbleBox$Entry;I)V"⟩, 8)) (List.mem_of_getElem? (i := 39) rfl)
theorem ks_40 : Cond.selects "BubbleBox$Directory" ⟨"BubbleBox$Directory", "replaceLastPage", "(LBubbleBox$Entry;I)V"⟩ ⟨"BubbleBox$Directory", "replaceLastPage", "(LBubbleBox$Entry;I)V"⟩ ∈ am_TW := am_ts (q := (⟨"BubbleBox$Directory", "replaceLastPage", "(LBubbleBox$Entry;I)V"⟩, 4)) (List.mem_of_getElem? (i := 40) rfl)
theorem ks_41 : Cond.selects "BubbleBox$Entry" ⟨"BubbleBox$Entry", "putIntoWindow", "(II)V"⟩ ⟨"BubbleBox$Entry", "putIntoWindow", "(II)V"⟩ ∈ am_TW := am_ts (q := (⟨"BubbleBox$Entry", "putIntoWindow", "(II)V"⟩, 6)) (List.mem_of_getElem? (i := 41) rfl)
theorem ks_42 : Cond.selects "BubbleBox$Entry" ⟨"BubbleBox$Entry", "byteInWindow", "(I)I"⟩ ⟨"BubbleBox$Entry", "byteInWindow", "(I)I"⟩ ∈ am_TW := am_ts (q := (⟨"BubbleBox$Entry", "byteInWindow", "(I)I"⟩, 6)) (List.mem_of_getElem? (i := 42) rfl)
theorem ks_43 : Cond.selects "BubbleBox$Directory" ⟨"BubbleBox$Directory", "shorten", "(LBubbleBox$Entry;I)I"⟩ ⟨"BubbleBox$Directory", "shorten", "(LBubbleBox$Entry;I)I"⟩ ∈ am_TW := am_ts (q := (⟨"BubbleBox$Directory", "shorten", "(LBubbleBox$Entry;I)I"⟩, 4)) (List.mem_of_getElem? (i := 43) rfl)
theorem ks_44 : Cond.selects "BubbleBox$Directory" ⟨"BubbleBox$Directory", "giveUp", "(LBubbleBox$Entry;II)V"⟩ ⟨"BubbleBox$Directory", "giveUp", "(LBubbleBox$Entry;II)V"⟩ ∈ am_TW := am_ts (q := (⟨"BubbleBox$Directory", "giveUp", "(LBubbleBox$Entry;II)V"⟩, 4)) (List.mem_of_getElem? (i := 44) rfl)
theorem ks_45 : Cond.selects "BubbleBox$Directory" ⟨"BubbleBox$Directory", "countFree", "()I"⟩ ⟨"BubbleBox$Directory", "countFree", "()I"⟩ ∈ am_TW := am_ts (q := (⟨"BubbleBox$Directory", "countFree", "()I"⟩, 4)) (List.mem_of_getElem? (i := 45) rfl)
theorem ks_46 : Cond.selects "BubbleBox$Requests" ⟨"BubbleBox$Requests", "ask", "(IZJ)I"⟩ ⟨"BubbleBox$Requests", "ask", "(IZJ)I"⟩ ∈ am_TW := am_ts (q := (⟨"BubbleBox$Requests", "ask", "(IZJ)I"⟩, 7)) (List.mem_of_getElem? (i := 46) rfl)
theorem ks_47 : Cond.selects "BubbleBox$Requests" ⟨"BubbleBox$Requests", "begin", "()V"⟩ ⟨"BubbleBox$Requests", "begin", "()V"⟩ ∈ am_TW := am_ts (q := (⟨"BubbleBox$Requests", "begin", "()V"⟩, 7)) (List.mem_of_getElem? (i := 47) rfl)
theorem ks_48 : Cond.selects "BubbleBox$Requests" ⟨"BubbleBox$Requests", "takeNearest", "(LBubbleBox$Chip;)I"⟩ ⟨"BubbleBox$Requests", "takeNearest", "(LBubbleBox$Chip;)I"⟩ ∈ am_TW := am_ts (q := (⟨"BubbleBox$Requests", "takeNearest", "(LBubbleBox$Chip;)I"⟩, 7)) (List.mem_of_getElem? (i := 48) rfl)
theorem ks_49 : Cond.selects "BubbleBox" ⟨"BubbleBox", "transferAsked", "(I)V"⟩ ⟨"BubbleBox", "transferAsked", "(I)V"⟩ ∈ am_TW := am_ts (q := (⟨"BubbleBox", "transferAsked", "(I)V"⟩, 8)) (List.mem_of_getElem? (i := 49) rfl)
theorem ks_50 : Cond.selects "BubbleBoxModel" ⟨"BubbleBoxModel", "forget", "()V"⟩ ⟨"BubbleBoxModel", "forget", "()V"⟩ ∈ am_TW := am_ts (q := (⟨"BubbleBoxModel", "forget", "()V"⟩, 27)) (List.mem_of_getElem? (i := 50) rfl)
theorem ks_51 : Cond.selects "BubbleBoxModel" ⟨"BubbleBoxModel", "drop", "(I)V"⟩ ⟨"BubbleBoxModel", "drop", "(I)V"⟩ ∈ am_TW := am_ts (q := (⟨"BubbleBoxModel", "drop", "(I)V"⟩, 27)) (List.mem_of_getElem? (i := 51) rfl)
theorem ks_52 : Cond.selects "BubbleBoxModel" ⟨"BubbleBoxModel", "saveAll", "()V"⟩ ⟨"BubbleBoxModel", "saveAll", "()V"⟩ ∈ am_TW := am_ts (q := (⟨"BubbleBoxModel", "saveAll", "()V"⟩, 27)) (List.mem_of_getElem? (i := 52) rfl)
theorem ks_53 : Cond.selects "BubbleBoxModel" ⟨"BubbleBoxModel", "save", "(I)V"⟩ ⟨"BubbleBoxModel", "save", "(I)V"⟩ ∈ am_TW := am_ts (q := (⟨"BubbleBoxModel", "save", "(I)V"⟩, 27)) (List.mem_of_getElem? (i := 53) rfl)
theorem ks_54 : Cond.selects "BubbleBoxModel" ⟨"BubbleBoxModel", "write", "(IJ)V"⟩ ⟨"BubbleBoxModel", "write", "(IJ)V"⟩ ∈ am_TW := am_ts (q := (⟨"BubbleBoxModel", "write", "(IJ)V"⟩, 27)) (List.mem_of_getElem? (i := 54) rfl)
theorem ks_55 : Cond.selects "BubbleBoxModel" ⟨"BubbleBoxModel", "goes", "(I)Z"⟩ ⟨"BubbleBoxModel", "goes", "(I)Z"⟩ ∈ am_TW := am_ts (q := (⟨"BubbleBoxModel", "goes", "(I)Z"⟩, 27)) (List.mem_of_getElem? (i := 55) rfl)
theorem ks_56 : Cond.selects "BubbleBoxModel" ⟨"BubbleBoxModel", "turnTo", "(I)V"⟩ ⟨"BubbleBoxModel", "turnTo", "(I)V"⟩ ∈ am_TW := am_ts (q := (⟨"BubbleBoxModel", "turnTo", "(I)V"⟩, 27)) (List.mem_of_getElem? (i := 56) rfl)
theorem ks_57 : Cond.selects "BubbleBoxModel" ⟨"BubbleBoxModel", "stepsTo", "(I)I"⟩ ⟨"BubbleBoxModel", "stepsTo", "(I)I"⟩ ∈ am_TW := am_ts (q := (⟨"BubbleBoxModel", "stepsTo", "(I)I"⟩, 27)) (List.mem_of_getElem? (i := 57) rfl)
theorem ks_58 : Cond.selects "BubbleBoxModel" ⟨"BubbleBoxModel", "makeImage", "(I)V"⟩ ⟨"BubbleBoxModel", "makeImage", "(I)V"⟩ ∈ am_TW := am_ts (q := (⟨"BubbleBoxModel", "makeImage", "(I)V"⟩, 27)) (List.mem_of_getElem? (i := 58) rfl)
theorem ks_59 : Cond.selects "BubbleBoxModel" ⟨"BubbleBoxModel", "pages", "(I)I"⟩ ⟨"BubbleBoxModel", "pages", "(I)I"⟩ ∈ am_TW := am_ts (q := (⟨"BubbleBoxModel", "pages", "(I)I"⟩, 27)) (List.mem_of_getElem? (i := 59) rfl)
theorem ks_60 : Cond.selects "BubbleBoxModel" ⟨"BubbleBoxModel", "putBytes", "(IJI)V"⟩ ⟨"BubbleBoxModel", "putBytes", "(IJI)V"⟩ ∈ am_TW := am_ts (q := (⟨"BubbleBoxModel", "putBytes", "(IJI)V"⟩, 27)) (List.mem_of_getElem? (i := 60) rfl)
theorem ks_61 : Cond.selects "BubbleBoxModel" ⟨"BubbleBoxModel", "sumOfImage", "()I"⟩ ⟨"BubbleBoxModel", "sumOfImage", "()I"⟩ ∈ am_TW := am_ts (q := (⟨"BubbleBoxModel", "sumOfImage", "()I"⟩, 27)) (List.mem_of_getElem? (i := 61) rfl)
theorem ks_62 : Cond.selects "BubbleBoxModel" ⟨"BubbleBoxModel", "hold", "()V"⟩ ⟨"BubbleBoxModel", "hold", "()V"⟩ ∈ am_TW := am_ts (q := (⟨"BubbleBoxModel", "hold", "()V"⟩, 27)) (List.mem_of_getElem? (i := 62) rfl)
theorem ks_63 : Cond.selects "BubbleBoxModel" ⟨"BubbleBoxModel", "isUsed", "(I)Z"⟩ ⟨"BubbleBoxModel", "isUsed", "(I)Z"⟩ ∈ am_TW := am_ts (q := (⟨"BubbleBoxModel", "isUsed", "(I)Z"⟩, 27)) (List.mem_of_getElem? (i := 63) rfl)
theorem ks_64 : Cond.selects "BubbleBoxModel" ⟨"BubbleBoxModel", "loadImage", "(I)V"⟩ ⟨"BubbleBoxModel", "loadImage", "(I)V"⟩ ∈ am_TW := am_ts (q := (⟨"BubbleBoxModel", "loadImage", "(I)V"⟩, 27)) (List.mem_of_getElem? (i := 64) rfl)
theorem ks_65 : Cond.selects "BubbleBoxModel" ⟨"BubbleBoxModel", "isValid", "()Z"⟩ ⟨"BubbleBoxModel", "isValid", "()Z"⟩ ∈ am_TW := am_ts (q := (⟨"BubbleBoxModel", "isValid", "()Z"⟩, 27)) (List.mem_of_getElem? (i := 65) rfl)
theorem ks_66 : Cond.selects "BubbleBoxModel" ⟨"BubbleBoxModel", "getBytes", "(II)I"⟩ ⟨"BubbleBoxModel", "getBytes", "(II)I"⟩ ∈ am_TW := am_ts (q := (⟨"BubbleBoxModel", "getBytes", "(II)I"⟩, 27)) (List.mem_of_getElem? (i := 66) rfl)
theorem ks_67 : Cond.selects "BubbleBoxModel" ⟨"BubbleBoxModel", "isReady", "()Z"⟩ ⟨"BubbleBoxModel", "isReady", "()Z"⟩ ∈ am_TW := am_ts (q := (⟨"BubbleBoxModel", "isReady", "()Z"⟩, 27)) (List.mem_of_getElem? (i := 67) rfl)
theorem ks_68 : Cond.selects "BubbleBoxModel" ⟨"BubbleBoxModel", "numberOf", "(I)I"⟩ ⟨"BubbleBoxModel", "numberOf", "(I)I"⟩ ∈ am_TW := am_ts (q := (⟨"BubbleBoxModel", "numberOf", "(I)I"⟩, 27)) (List.mem_of_getElem? (i := 68) rfl)
theorem ks_69 : Cond.selects "BubbleBoxModel" ⟨"BubbleBoxModel", "isFile", "(I)Z"⟩ ⟨"BubbleBoxModel", "isFile", "(I)Z"⟩ ∈ am_TW := am_ts (q := (⟨"BubbleBoxModel", "isFile", "(I)Z"⟩, 27)) (List.mem_of_getElem? (i := 69) rfl)
theorem ks_70 : Cond.selects "BubbleBoxModel" ⟨"BubbleBoxModel", "leastFree", "()I"⟩ ⟨"BubbleBoxModel", "leastFree", "()I"⟩ ∈ am_TW := am_ts (q := (⟨"BubbleBoxModel", "leastFree", "()I"⟩, 27)) (List.mem_of_getElem? (i := 70) rfl)
theorem ks_71 : Cond.selects "BubbleBoxModel" ⟨"BubbleBoxModel", "isFree", "(I)Z"⟩ ⟨"BubbleBoxModel", "isFree", "(I)Z"⟩ ∈ am_TW := am_ts (q := (⟨"BubbleBoxModel", "isFree", "(I)Z"⟩, 27)) (List.mem_of_getElem? (i := 71) rfl)
theorem ks_72 : Cond.selects "BubbleBoxModel" ⟨"BubbleBoxModel", "load", "(II)V"⟩ ⟨"BubbleBoxModel", "load", "(II)V"⟩ ∈ am_TW := am_ts (q := (⟨"BubbleBoxModel", "load", "(II)V"⟩, 27)) (List.mem_of_getElem? (i := 72) rfl)
theorem ks_73 : Cond.selects "BubbleBoxModel" ⟨"BubbleBoxModel", "read", "(I)J"⟩ ⟨"BubbleBoxModel", "read", "(I)J"⟩ ∈ am_TW := am_ts (q := (⟨"BubbleBoxModel", "read", "(I)J"⟩, 27)) (List.mem_of_getElem? (i := 73) rfl)
theorem ks_74 : Cond.selects "BubbleBoxModel" ⟨"BubbleBoxModel", "shorten", "(II)I"⟩ ⟨"BubbleBoxModel", "shorten", "(II)I"⟩ ∈ am_TW := am_ts (q := (⟨"BubbleBoxModel", "shorten", "(II)I"⟩, 27)) (List.mem_of_getElem? (i := 74) rfl)
