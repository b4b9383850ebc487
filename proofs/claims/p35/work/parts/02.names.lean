def RX0 : String := "Weaveword$Approval"
def TX0 : u_T := fun k => match k with
  | 0 => ("Weaveword$Approval", "time", "I", true)
  | 1 => ("Weaveword$Approval", "text", "LWeaveword$Text;", true)
  | _ => ("Weaveword$Approval", "former", "LWeaveword$Approval;", true)
def tyX0 : Nat → FieldType := fun k => match k with
  | 0 => .int
  | 1 => .object "Weaveword$Text"
  | _ => .object "Weaveword$Approval"
abbrev wsX00 : List Cond := u_ws RX0 TX0 3
theorem nmX0 : ∀ a, a < 3 → ∀ b, b < 3 → a ≠ b → (TX0 a).2.1 ≠ (TX0 b).2.1 := by decide +kernel
theorem tyX0_ok : ∀ k, k < 3 → parseFieldDescriptor (TX0 k).2.2.1 = some (tyX0 k) := by decide +kernel
abbrev cX0_init : ByteArray := prog_2_method_1_code
def yX0_init : MethodName := ⟨RX0, "<init>", "(ILWeaveword$Text;LWeaveword$Approval;)V"⟩
def RX1 : String := "Weaveword$Expander"
def TX1 : u_T := fun k => match k with
  | 0 => ("Weaveword$Expander", "titles", "[LWeaveword$Title;", true)
  | 1 => ("Weaveword$Expander", "modules", "[LWeaveword$SmallModule;", true)
  | 2 => ("Weaveword$Expander", "frames", "[LWeaveword$Frame;", true)
  | 3 => ("Weaveword$Expander", "runs", "[LWeaveword$Run;", true)
  | 4 => ("Weaveword$Expander", "nothing", "LWeaveword$Row;", true)
  | 5 => ("Weaveword$Expander", "stack", "[I", true)
  | 6 => ("Weaveword$Expander", "partPlaces", "[I", true)
  | 7 => ("Weaveword$Expander", "found", "LWeaveword$Rendering;", true)
  | 8 => ("Weaveword$Expander", "framesUsed", "I", false)
  | 9 => ("Weaveword$Expander", "runsOpen", "I", false)
  | 10 => ("Weaveword$Expander", "calls", "I", false)
  | 11 => ("Weaveword$Expander", "upTo", "I", false)
  | 12 => ("Weaveword$Expander", "way", "I", false)
  | 13 => ("Weaveword$Expander", "parts", "I", false)
  | _ => ("Weaveword$Expander", "asked", "I", false)
def tyX1 : Nat → FieldType := fun k => match k with
  | 0 => .array (.object "Weaveword$Title")
  | 1 => .array (.object "Weaveword$SmallModule")
  | 2 => .array (.object "Weaveword$Frame")
  | 3 => .array (.object "Weaveword$Run")
  | 4 => .object "Weaveword$Row"
  | 5 => .array .int
  | 6 => .array .int
  | 7 => .object "Weaveword$Rendering"
  | 8 => .int
  | 9 => .int
  | 10 => .int
  | 11 => .int
  | 12 => .int
  | 13 => .int
  | _ => .int
abbrev wsX10 : List Cond := u_ws RX1 TX1 15
theorem nmX1 : ∀ a, a < 15 → ∀ b, b < 15 → a ≠ b → (TX1 a).2.1 ≠ (TX1 b).2.1 := by decide +kernel
theorem tyX1_ok : ∀ k, k < 15 → parseFieldDescriptor (TX1 k).2.2.1 = some (tyX1 k) := by decide +kernel
abbrev cX1_init : ByteArray := prog_3_method_1_code
def yX1_init : MethodName := ⟨RX1, "<init>", "()V"⟩
abbrev cX1_expand : ByteArray := prog_3_method_2_code
def yX1_expand : MethodName := ⟨RX1, "expand", "(ILWeaveword$Text;I)V"⟩
abbrev cX1_openFrame : ByteArray := prog_3_method_3_code
def yX1_openFrame : MethodName := ⟨RX1, "openFrame", "(ILWeaveword$Text;LWeaveword$Frame;LWeaveword$Row;)LWeaveword$Frame;"⟩
abbrev cX1_openRun : ByteArray := prog_3_method_4_code
def yX1_openRun : MethodName := ⟨RX1, "openRun", "(LWeaveword$Frame;IILWeaveword$Row;)V"⟩
abbrev cX1_stepOn : ByteArray := prog_3_method_5_code
def yX1_stepOn : MethodName := ⟨RX1, "stepOn", "(LWeaveword$Run;)V"⟩
abbrev cX1_giveCall : ByteArray := prog_3_method_6_code
def yX1_giveCall : MethodName := ⟨RX1, "giveCall", "(LWeaveword$Run;II)V"⟩
abbrev cX1_textAt : ByteArray := prog_3_method_7_code
def yX1_textAt : MethodName := ⟨RX1, "textAt", "(II)LWeaveword$Text;"⟩
abbrev cX1_goalOf : ByteArray := prog_3_method_8_code
def yX1_goalOf : MethodName := ⟨RX1, "goalOf", "(II)I"⟩
abbrev cX1_giveArgument : ByteArray := prog_3_method_9_code
def yX1_giveArgument : MethodName := ⟨RX1, "giveArgument", "(LWeaveword$Run;I)Z"⟩
abbrev cX1_openPart : ByteArray := prog_3_method_10_code
def yX1_openPart : MethodName := ⟨RX1, "openPart", "(LWeaveword$Frame;I)V"⟩
abbrev cX1_listParts : ByteArray := prog_3_method_11_code
def yX1_listParts : MethodName := ⟨RX1, "listParts", "(LWeaveword$Text;I)V"⟩
abbrev cX1_partOf : ByteArray := prog_3_method_12_code
def yX1_partOf : MethodName := ⟨RX1, "partOf", "(LWeaveword$Frame;I)LWeaveword$Row;"⟩
abbrev cX1_giveFunction : ByteArray := prog_3_method_13_code
def yX1_giveFunction : MethodName := ⟨RX1, "giveFunction", "(LWeaveword$Run;I)Z"⟩
abbrev cX1_givePart : ByteArray := prog_3_method_14_code
def yX1_givePart : MethodName := ⟨RX1, "givePart", "(LWeaveword$Run;I)Z"⟩
abbrev cX1_giveSum : ByteArray := prog_3_method_15_code
def yX1_giveSum : MethodName := ⟨RX1, "giveSum", "(LWeaveword$Run;)Z"⟩
abbrev cX1_giveExists : ByteArray := prog_3_method_16_code
def yX1_giveExists : MethodName := ⟨RX1, "giveExists", "(LWeaveword$Run;I)V"⟩
abbrev cX1_countedMembers : ByteArray := prog_3_method_17_code
def yX1_countedMembers : MethodName := ⟨RX1, "countedMembers", "(I)I"⟩
abbrev cX1_giveList : ByteArray := prog_3_method_18_code
def yX1_giveList : MethodName := ⟨RX1, "giveList", "(LWeaveword$Run;I)V"⟩
abbrev cX1_giveModule : ByteArray := prog_3_method_19_code
def yX1_giveModule : MethodName := ⟨RX1, "giveModule", "(LWeaveword$Run;I)Z"⟩
abbrev cX1_outOf : ByteArray := prog_3_method_20_code
def yX1_outOf : MethodName := ⟨RX1, "outOf", "(LWeaveword$SmallModule;LWeaveword$Frame;)I"⟩
abbrev cX1_takenBy : ByteArray := prog_3_method_21_code
def yX1_takenBy : MethodName := ⟨RX1, "takenBy", "(I)I"⟩
abbrev cX1_stackAt : ByteArray := prog_3_method_22_code
def yX1_stackAt : MethodName := ⟨RX1, "stackAt", "(I)I"⟩
abbrev cX1_combined : ByteArray := prog_3_method_23_code
def yX1_combined : MethodName := ⟨RX1, "combined", "(III)I"⟩
def RX2 : String := "Weaveword$Frame"
def TX2 : u_T := fun k => match k with
  | 0 => ("Weaveword$Frame", "arguments", "[I", true)
  | 1 => ("Weaveword$Frame", "rows", "[LWeaveword$Row;", true)
  | 2 => ("Weaveword$Frame", "begun", "[Z", true)
  | 3 => ("Weaveword$Frame", "caller", "LWeaveword$Frame;", false)
  | 4 => ("Weaveword$Frame", "text", "LWeaveword$Text;", false)
  | 5 => ("Weaveword$Frame", "title", "I", false)
  | _ => ("Weaveword$Frame", "depth", "I", false)
def tyX2 : Nat → FieldType := fun k => match k with
  | 0 => .array .int
  | 1 => .array (.object "Weaveword$Row")
  | 2 => .array .boolean
  | 3 => .object "Weaveword$Frame"
  | 4 => .object "Weaveword$Text"
  | 5 => .int
  | _ => .int
abbrev wsX20 : List Cond := u_ws RX2 TX2 7
theorem nmX2 : ∀ a, a < 7 → ∀ b, b < 7 → a ≠ b → (TX2 a).2.1 ≠ (TX2 b).2.1 := by decide +kernel
theorem tyX2_ok : ∀ k, k < 7 → parseFieldDescriptor (TX2 k).2.2.1 = some (tyX2 k) := by decide +kernel
abbrev cX2_init : ByteArray := prog_4_method_1_code
def yX2_init : MethodName := ⟨RX2, "<init>", "()V"⟩
abbrev cX2_begin : ByteArray := prog_4_method_2_code
def yX2_begin : MethodName := ⟨RX2, "begin", "(ILWeaveword$Text;LWeaveword$Frame;)V"⟩
abbrev cX2_takeArguments : ByteArray := prog_4_method_3_code
def yX2_takeArguments : MethodName := ⟨RX2, "takeArguments", "(LWeaveword$Text;I)V"⟩
abbrev cX2_argumentAt : ByteArray := prog_4_method_4_code
def yX2_argumentAt : MethodName := ⟨RX2, "argumentAt", "(I)I"⟩
abbrev cX2_rowAt : ByteArray := prog_4_method_5_code
def yX2_rowAt : MethodName := ⟨RX2, "rowAt", "(I)LWeaveword$Row;"⟩
abbrev cX2_comesFrom : ByteArray := prog_4_method_6_code
def yX2_comesFrom : MethodName := ⟨RX2, "comesFrom", "(I)Z"⟩
def RX3 : String := "Weaveword$Page"
def TX3 : u_T := fun k => match k with
  | 0 => ("Weaveword$Page", "versions", "Ljava/util/ArrayList;", true)
  | 1 => ("Weaveword$Page", "present", "LWeaveword$Version;", false)
  | _ => ("Weaveword$Page", "lastApproval", "LWeaveword$Approval;", false)
def tyX3 : Nat → FieldType := fun k => match k with
  | 0 => .object "java/util/ArrayList"
  | 1 => .object "Weaveword$Version"
  | _ => .object "Weaveword$Approval"
abbrev wsX30 : List Cond := u_ws RX3 TX3 3
theorem nmX3 : ∀ a, a < 3 → ∀ b, b < 3 → a ≠ b → (TX3 a).2.1 ≠ (TX3 b).2.1 := by decide +kernel
theorem tyX3_ok : ∀ k, k < 3 → parseFieldDescriptor (TX3 k).2.2.1 = some (tyX3 k) := by decide +kernel
abbrev cX3_init : ByteArray := prog_5_method_1_code
def yX3_init : MethodName := ⟨RX3, "<init>", "(LWeaveword$Version;)V"⟩
abbrev cX3_put : ByteArray := prog_5_method_2_code
def yX3_put : MethodName := ⟨RX3, "put", "(LWeaveword$Version;)V"⟩
abbrev cX3_indexOf : ByteArray := prog_5_method_3_code
def yX3_indexOf : MethodName := ⟨RX3, "indexOf", "(I)I"⟩
abbrev cX3_versionAtIndex : ByteArray := prog_5_method_4_code
def yX3_versionAtIndex : MethodName := ⟨RX3, "versionAtIndex", "(I)LWeaveword$Version;"⟩
abbrev cX3_textUpTo : ByteArray := prog_5_method_5_code
def yX3_textUpTo : MethodName := ⟨RX3, "textUpTo", "(I)LWeaveword$Text;"⟩
def RX4 : String := "Weaveword$Rendering"
def TX4 : u_T := fun k => match k with
  | 0 => ("Weaveword$Rendering", "row", "LWeaveword$Row;", true)
  | 1 => ("Weaveword$Rendering", "made", "Z", false)
  | 2 => ("Weaveword$Rendering", "stale", "Z", false)
  | 3 => ("Weaveword$Rendering", "links", "I", false)
  | 4 => ("Weaveword$Rendering", "categories", "I", false)
  | 5 => ("Weaveword$Rendering", "reads", "I", false)
  | 6 => ("Weaveword$Rendering", "counted", "I", false)
  | _ => ("Weaveword$Rendering", "used", "I", false)
def tyX4 : Nat → FieldType := fun k => match k with
  | 0 => .object "Weaveword$Row"
  | 1 => .boolean
  | 2 => .boolean
  | 3 => .int
  | 4 => .int
  | 5 => .int
  | 6 => .int
  | _ => .int
abbrev wsX40 : List Cond := u_ws RX4 TX4 8
theorem nmX4 : ∀ a, a < 8 → ∀ b, b < 8 → a ≠ b → (TX4 a).2.1 ≠ (TX4 b).2.1 := by decide +kernel
theorem tyX4_ok : ∀ k, k < 8 → parseFieldDescriptor (TX4 k).2.2.1 = some (tyX4 k) := by decide +kernel
abbrev cX4_init : ByteArray := prog_6_method_1_code
def yX4_init : MethodName := ⟨RX4, "<init>", "()V"⟩
abbrev cX4_clear : ByteArray := prog_6_method_2_code
def yX4_clear : MethodName := ⟨RX4, "clear", "()V"⟩
abbrev cX4_take : ByteArray := prog_6_method_3_code
def yX4_take : MethodName := ⟨RX4, "take", "(LWeaveword$Rendering;)V"⟩
def RX5 : String := "Weaveword$Row"
def TX5 : u_T := fun k => match k with
  | 0 => ("Weaveword$Row", "numbers", "[I", true)
  | 1 => ("Weaveword$Row", "size", "I", false)
  | _ => ("Weaveword$Row", "sum", "I", false)
def tyX5 : Nat → FieldType := fun k => match k with
  | 0 => .array .int
  | 1 => .int
  | _ => .int
abbrev wsX50 : List Cond := u_ws RX5 TX5 3
theorem nmX5 : ∀ a, a < 3 → ∀ b, b < 3 → a ≠ b → (TX5 a).2.1 ≠ (TX5 b).2.1 := by decide +kernel
theorem tyX5_ok : ∀ k, k < 3 → parseFieldDescriptor (TX5 k).2.2.1 = some (tyX5 k) := by decide +kernel
abbrev cX5_init : ByteArray := prog_7_method_1_code
def yX5_init : MethodName := ⟨RX5, "<init>", "()V"⟩
abbrev cX5_clear : ByteArray := prog_7_method_2_code
def yX5_clear : MethodName := ⟨RX5, "clear", "()V"⟩
abbrev cX5_add : ByteArray := prog_7_method_3_code
def yX5_add : MethodName := ⟨RX5, "add", "(I)V"⟩
abbrev cX5_addAll : ByteArray := prog_7_method_4_code
def yX5_addAll : MethodName := ⟨RX5, "addAll", "(LWeaveword$Row;)V"⟩
abbrev cX5_at : ByteArray := prog_7_method_5_code
def yX5_at : MethodName := ⟨RX5, "at", "(I)I"⟩
abbrev cX5_number : ByteArray := prog_7_method_6_code
def yX5_number : MethodName := ⟨RX5, "number", "()I"⟩
abbrev cX5_hasOtherThanZero : ByteArray := prog_7_method_7_code
def yX5_hasOtherThanZero : MethodName := ⟨RX5, "hasOtherThanZero", "()Z"⟩
abbrev cX5_sameAs : ByteArray := prog_7_method_8_code
def yX5_sameAs : MethodName := ⟨RX5, "sameAs", "(LWeaveword$Row;)Z"⟩
def RX6 : String := "Weaveword$Run"
def TX6 : u_T := fun k => match k with
  | 0 => ("Weaveword$Run", "frame", "LWeaveword$Frame;", false)
  | 1 => ("Weaveword$Run", "row", "LWeaveword$Row;", false)
  | 2 => ("Weaveword$Run", "at", "I", false)
  | _ => ("Weaveword$Run", "end", "I", false)
def tyX6 : Nat → FieldType := fun k => match k with
  | 0 => .object "Weaveword$Frame"
  | 1 => .object "Weaveword$Row"
  | 2 => .int
  | _ => .int
abbrev wsX60 : List Cond := u_ws RX6 TX6 4
theorem nmX6 : ∀ a, a < 4 → ∀ b, b < 4 → a ≠ b → (TX6 a).2.1 ≠ (TX6 b).2.1 := by decide +kernel
theorem tyX6_ok : ∀ k, k < 4 → parseFieldDescriptor (TX6 k).2.2.1 = some (tyX6 k) := by decide +kernel
abbrev cX6_init : ByteArray := prog_8_method_1_code
def yX6_init : MethodName := ⟨RX6, "<init>", "()V"⟩
def RX7 : String := "Weaveword$SmallModule"
def TX7 : u_T := fun k => match k with
  | 0 => ("Weaveword$SmallModule", "instructions", "[I", true)
  | 1 => ("Weaveword$SmallModule", "values", "[I", true)
  | _ => ("Weaveword$SmallModule", "size", "I", false)
def tyX7 : Nat → FieldType := fun k => match k with
  | 0 => .array .int
  | 1 => .array .int
  | _ => .int
abbrev wsX70 : List Cond := u_ws RX7 TX7 3
theorem nmX7 : ∀ a, a < 3 → ∀ b, b < 3 → a ≠ b → (TX7 a).2.1 ≠ (TX7 b).2.1 := by decide +kernel
theorem tyX7_ok : ∀ k, k < 3 → parseFieldDescriptor (TX7 k).2.2.1 = some (tyX7 k) := by decide +kernel
abbrev cX7_init : ByteArray := prog_9_method_1_code
def yX7_init : MethodName := ⟨RX7, "<init>", "()V"⟩
abbrev cX7_instructionAt : ByteArray := prog_9_method_3_code
def yX7_instructionAt : MethodName := ⟨RX7, "instructionAt", "(I)I"⟩
abbrev cX7_valueAt : ByteArray := prog_9_method_4_code
def yX7_valueAt : MethodName := ⟨RX7, "valueAt", "(I)I"⟩
def RX8 : String := "Weaveword$Text"
def TX8 : u_T := fun k => match k with
  | 0 => ("Weaveword$Text", "tokens", "[I", true)
  | 1 => ("Weaveword$Text", "ends", "[I", true)
  | _ => ("Weaveword$Text", "size", "I", false)
def tyX8 : Nat → FieldType := fun k => match k with
  | 0 => .array .int
  | 1 => .array .int
  | _ => .int
abbrev wsX80 : List Cond := u_ws RX8 TX8 3
theorem nmX8 : ∀ a, a < 3 → ∀ b, b < 3 → a ≠ b → (TX8 a).2.1 ≠ (TX8 b).2.1 := by decide +kernel
theorem tyX8_ok : ∀ k, k < 3 → parseFieldDescriptor (TX8 k).2.2.1 = some (tyX8 k) := by decide +kernel
abbrev cX8_init : ByteArray := prog_10_method_1_code
def yX8_init : MethodName := ⟨RX8, "<init>", "(I)V"⟩
abbrev cX8_clear : ByteArray := prog_10_method_2_code
def yX8_clear : MethodName := ⟨RX8, "clear", "()V"⟩
abbrev cX8_add : ByteArray := prog_10_method_3_code
def yX8_add : MethodName := ⟨RX8, "add", "(I)V"⟩
abbrev cX8_codeAt : ByteArray := prog_10_method_4_code
def yX8_codeAt : MethodName := ⟨RX8, "codeAt", "(I)I"⟩
abbrev cX8_kindAt : ByteArray := prog_10_method_5_code
def yX8_kindAt : MethodName := ⟨RX8, "kindAt", "(I)I"⟩
abbrev cX8_valueAt : ByteArray := prog_10_method_6_code
def yX8_valueAt : MethodName := ⟨RX8, "valueAt", "(I)I"⟩
abbrev cX8_endAt : ByteArray := prog_10_method_7_code
def yX8_endAt : MethodName := ⟨RX8, "endAt", "(I)I"⟩
abbrev cX8_startsPart : ByteArray := prog_10_method_8_code
def yX8_startsPart : MethodName := ⟨RX8, "startsPart", "(I)Z"⟩
abbrev cX8_isRedirect : ByteArray := prog_10_method_9_code
def yX8_isRedirect : MethodName := ⟨RX8, "isRedirect", "()Z"⟩
abbrev cX8_addStretch : ByteArray := prog_10_method_10_code
def yX8_addStretch : MethodName := ⟨RX8, "addStretch", "(LWeaveword$Text;II)V"⟩
abbrev cX8_addSection : ByteArray := prog_10_method_11_code
def yX8_addSection : MethodName := ⟨RX8, "addSection", "(LWeaveword$Text;I)V"⟩
abbrev cX8_sections : ByteArray := prog_10_method_12_code
def yX8_sections : MethodName := ⟨RX8, "sections", "()I"⟩
abbrev cX8_sectionStart : ByteArray := prog_10_method_13_code
def yX8_sectionStart : MethodName := ⟨RX8, "sectionStart", "(I)I"⟩
abbrev cX8_sameSection : ByteArray := prog_10_method_14_code
def yX8_sameSection : MethodName := ⟨RX8, "sameSection", "(LWeaveword$Text;I)Z"⟩
abbrev cX8_sameAs : ByteArray := prog_10_method_15_code
def yX8_sameAs : MethodName := ⟨RX8, "sameAs", "(LWeaveword$Text;)Z"⟩
abbrev cX8_opens : ByteArray := prog_10_method_16_code
def yX8_opens : MethodName := ⟨RX8, "opens", "(I)Z"⟩
abbrev cX8_isText : ByteArray := prog_10_method_17_code
def yX8_isText : MethodName := ⟨RX8, "isText", "()Z"⟩
abbrev cX8_fits : ByteArray := prog_10_method_18_code
def yX8_fits : MethodName := ⟨RX8, "fits", "(IIZ)Z"⟩
abbrev cX8_settled : ByteArray := prog_10_method_19_code
def yX8_settled : MethodName := ⟨RX8, "settled", "()LWeaveword$Text;"⟩
abbrev cX8_findEnd : ByteArray := prog_10_method_20_code
def yX8_findEnd : MethodName := ⟨RX8, "findEnd", "(I)I"⟩
abbrev cX8_leadsInto : ByteArray := prog_10_method_21_code
def yX8_leadsInto : MethodName := ⟨RX8, "leadsInto", "(II)Z"⟩
abbrev cX8_leadsInto_ : ByteArray := prog_10_method_22_code
def yX8_leadsInto_ : MethodName := ⟨RX8, "leadsInto", "(I)Z"⟩
abbrev cX8_writeLeadingOn : ByteArray := prog_10_method_23_code
def yX8_writeLeadingOn : MethodName := ⟨RX8, "writeLeadingOn", "(IILWeaveword$Text;)V"⟩
def RX9 : String := "Weaveword$Title"
def TX9 : u_T := fun k => match k with
  | 0 => ("Weaveword$Title", "rendering", "LWeaveword$Rendering;", true)
  | 1 => ("Weaveword$Title", "translations", "[I", true)
  | 2 => ("Weaveword$Title", "madeOf", "[I", true)
  | 3 => ("Weaveword$Title", "page", "LWeaveword$Page;", false)
  | 4 => ("Weaveword$Title", "protection", "I", false)
  | _ => ("Weaveword$Title", "queueRank", "I", false)
def tyX9 : Nat → FieldType := fun k => match k with
  | 0 => .object "Weaveword$Rendering"
  | 1 => .array .int
  | 2 => .array .int
  | 3 => .object "Weaveword$Page"
  | 4 => .int
  | _ => .int
abbrev wsX90 : List Cond := u_ws RX9 TX9 6
theorem nmX9 : ∀ a, a < 6 → ∀ b, b < 6 → a ≠ b → (TX9 a).2.1 ≠ (TX9 b).2.1 := by decide +kernel
theorem tyX9_ok : ∀ k, k < 6 → parseFieldDescriptor (TX9 k).2.2.1 = some (tyX9 k) := by decide +kernel
abbrev cX9_init : ByteArray := prog_11_method_1_code
def yX9_init : MethodName := ⟨RX9, "<init>", "()V"⟩
abbrev cX9_waits : ByteArray := prog_11_method_2_code
def yX9_waits : MethodName := ⟨RX9, "waits", "()Z"⟩
def RX10 : String := "Weaveword$Version"
def TX10 : u_T := fun k => match k with
  | 0 => ("Weaveword$Version", "number", "I", true)
  | 1 => ("Weaveword$Version", "time", "I", true)
  | _ => ("Weaveword$Version", "text", "LWeaveword$Text;", true)
def tyX10 : Nat → FieldType := fun k => match k with
  | 0 => .int
  | 1 => .int
  | _ => .object "Weaveword$Text"
abbrev wsX100 : List Cond := u_ws RX10 TX10 3
theorem nmX10 : ∀ a, a < 3 → ∀ b, b < 3 → a ≠ b → (TX10 a).2.1 ≠ (TX10 b).2.1 := by decide +kernel
theorem tyX10_ok : ∀ k, k < 3 → parseFieldDescriptor (TX10 k).2.2.1 = some (tyX10 k) := by decide +kernel
abbrev cX10_init : ByteArray := prog_12_method_1_code
def yX10_init : MethodName := ⟨RX10, "<init>", "(IILWeaveword$Text;)V"⟩
def RX11 : String := "Weaveword"
def TX11 : u_T := fun k => match k with
  | 0 => ("Weaveword", "expander", "LWeaveword$Expander;", true)
  | 1 => ("Weaveword", "titles", "[LWeaveword$Title;", true)
  | 2 => ("Weaveword", "modules", "[LWeaveword$SmallModule;", true)
  | 3 => ("Weaveword", "draft", "LWeaveword$Text;", true)
  | 4 => ("Weaveword", "meant", "LWeaveword$Text;", true)
  | 5 => ("Weaveword", "merged", "LWeaveword$Text;", true)
  | 6 => ("Weaveword", "clock", "I", false)
  | 7 => ("Weaveword", "versionsMade", "I", false)
  | 8 => ("Weaveword", "approvalsMade", "I", false)
  | _ => ("Weaveword", "actingRank", "I", false)
def tyX11 : Nat → FieldType := fun k => match k with
  | 0 => .object "Weaveword$Expander"
  | 1 => .array (.object "Weaveword$Title")
  | 2 => .array (.object "Weaveword$SmallModule")
  | 3 => .object "Weaveword$Text"
  | 4 => .object "Weaveword$Text"
  | 5 => .object "Weaveword$Text"
  | 6 => .int
  | 7 => .int
  | 8 => .int
  | _ => .int
abbrev wsX110 : List Cond := u_ws RX11 TX11 10
theorem nmX11 : ∀ a, a < 10 → ∀ b, b < 10 → a ≠ b → (TX11 a).2.1 ≠ (TX11 b).2.1 := by decide +kernel
theorem tyX11_ok : ∀ k, k < 10 → parseFieldDescriptor (TX11 k).2.2.1 = some (tyX11 k) := by decide +kernel
abbrev cX11_init : ByteArray := prog_1_method_1_code
def yX11_init : MethodName := ⟨RX11, "<init>", "()V"⟩
abbrev cX11_token : ByteArray := prog_1_method_2_code
def yX11_token : MethodName := ⟨RX11, "token", "(II)I"⟩
abbrev cX11_wipe : ByteArray := prog_1_method_3_code
def yX11_wipe : MethodName := ⟨RX11, "wipe", "()I"⟩
abbrev cX11_create : ByteArray := prog_1_method_6_code
def yX11_create : MethodName := ⟨RX11, "create", "(I)I"⟩
abbrev cX11_edit : ByteArray := prog_1_method_7_code
def yX11_edit : MethodName := ⟨RX11, "edit", "(III)I"⟩
abbrev cX11_undo : ByteArray := prog_1_method_8_code
def yX11_undo : MethodName := ⟨RX11, "undo", "(II)I"⟩
abbrev cX11_bringIn : ByteArray := prog_1_method_9_code
def yX11_bringIn : MethodName := ⟨RX11, "bringIn", "(II)I"⟩
abbrev cX11_move : ByteArray := prog_1_method_10_code
def yX11_move : MethodName := ⟨RX11, "move", "(II)I"⟩
abbrev cX11_moveTree : ByteArray := prog_1_method_11_code
def yX11_moveTree : MethodName := ⟨RX11, "moveTree", "(II)I"⟩
abbrev cX11_approve : ByteArray := prog_1_method_12_code
def yX11_approve : MethodName := ⟨RX11, "approve", "(I)I"⟩
abbrev cX11_translate : ByteArray := prog_1_method_13_code
def yX11_translate : MethodName := ⟨RX11, "translate", "(III)I"⟩
abbrev cX11_rank : ByteArray := prog_1_method_16_code
def yX11_rank : MethodName := ⟨RX11, "rank", "(II)I"⟩
abbrev cX11_work : ByteArray := prog_1_method_17_code
def yX11_work : MethodName := ⟨RX11, "work", "(I)I"⟩
abbrev cX11_read : ByteArray := prog_1_method_18_code
def yX11_read : MethodName := ⟨RX11, "read", "(IZ)I"⟩
abbrev cX11_clock : ByteArray := prog_1_method_19_code
def yX11_clock : MethodName := ⟨RX11, "clock", "()I"⟩
abbrev cX11_versions : ByteArray := prog_1_method_20_code
def yX11_versions : MethodName := ⟨RX11, "versions", "(I)I"⟩
abbrev cX11_versionAt : ByteArray := prog_1_method_21_code
def yX11_versionAt : MethodName := ⟨RX11, "versionAt", "(II)I"⟩
abbrev cX11_tokenAt : ByteArray := prog_1_method_22_code
def yX11_tokenAt : MethodName := ⟨RX11, "tokenAt", "(II)I"⟩
abbrev cX11_leads : ByteArray := prog_1_method_23_code
def yX11_leads : MethodName := ⟨RX11, "leads", "(I)I"⟩
abbrev cX11_isStale : ByteArray := prog_1_method_24_code
def yX11_isStale : MethodName := ⟨RX11, "isStale", "(I)Z"⟩
abbrev cX11_queued : ByteArray := prog_1_method_25_code
def yX11_queued : MethodName := ⟨RX11, "queued", "()I"⟩
abbrev cX11_shown : ByteArray := prog_1_method_26_code
def yX11_shown : MethodName := ⟨RX11, "shown", "(II)I"⟩
abbrev cX11_shownAnew : ByteArray := prog_1_method_27_code
def yX11_shownAnew : MethodName := ⟨RX11, "shownAnew", "(II)I"⟩
abbrev cX11_linked : ByteArray := prog_1_method_29_code
def yX11_linked : MethodName := ⟨RX11, "linked", "(II)I"⟩
abbrev cX11_members : ByteArray := prog_1_method_30_code
def yX11_members : MethodName := ⟨RX11, "members", "(I)I"⟩
abbrev cX11_odd : ByteArray := prog_1_method_31_code
def yX11_odd : MethodName := ⟨RX11, "odd", "(Z)I"⟩
abbrev cX11_inLanguage : ByteArray := prog_1_method_32_code
def yX11_inLanguage : MethodName := ⟨RX11, "inLanguage", "(II)I"⟩
abbrev cX11_isOutdated : ByteArray := prog_1_method_33_code
def yX11_isOutdated : MethodName := ⟨RX11, "isOutdated", "(II)Z"⟩
abbrev cX11_titleOf : ByteArray := prog_1_method_34_code
def yX11_titleOf : MethodName := ⟨RX11, "titleOf", "(I)LWeaveword$Title;"⟩
abbrev cX11_pageOf : ByteArray := prog_1_method_35_code
def yX11_pageOf : MethodName := ⟨RX11, "pageOf", "(I)LWeaveword$Page;"⟩
abbrev cX11_refuseBelowZero : ByteArray := prog_1_method_37_code
def yX11_refuseBelowZero : MethodName := ⟨RX11, "refuseBelowZero", "(I)V"⟩
abbrev cX11_refuseOtherLanguages : ByteArray := prog_1_method_38_code
def yX11_refuseOtherLanguages : MethodName := ⟨RX11, "refuseOtherLanguages", "(I)V"⟩
abbrev cX11_isAmong : ByteArray := prog_1_method_39_code
def yX11_isAmong : MethodName := ⟨RX11, "isAmong", "([III)Z"⟩
abbrev cX11_mayActAt : ByteArray := prog_1_method_40_code
def yX11_mayActAt : MethodName := ⟨RX11, "mayActAt", "(LWeaveword$Title;)Z"⟩
abbrev cX11_mayActInTree : ByteArray := prog_1_method_41_code
def yX11_mayActInTree : MethodName := ⟨RX11, "mayActInTree", "(I)Z"⟩
abbrev cX11_mean : ByteArray := prog_1_method_42_code
def yX11_mean : MethodName := ⟨RX11, "mean", "(LWeaveword$Text;I)V"⟩
abbrev cX11_merge : ByteArray := prog_1_method_43_code
def yX11_merge : MethodName := ⟨RX11, "merge", "(LWeaveword$Text;LWeaveword$Text;LWeaveword$Text;Z)Z"⟩
abbrev cX11_makeVersion : ByteArray := prog_1_method_44_code
def yX11_makeVersion : MethodName := ⟨RX11, "makeVersion", "(LWeaveword$Text;I)LWeaveword$Version;"⟩
abbrev cX11_makePage : ByteArray := prog_1_method_45_code
def yX11_makePage : MethodName := ⟨RX11, "makePage", "(ILWeaveword$Text;)I"⟩
abbrev cX11_addNextVersion : ByteArray := prog_1_method_46_code
def yX11_addNextVersion : MethodName := ⟨RX11, "addNextVersion", "(ILWeaveword$Page;LWeaveword$Text;)I"⟩
abbrev cX11_addVersion : ByteArray := prog_1_method_47_code
def yX11_addVersion : MethodName := ⟨RX11, "addVersion", "(ILWeaveword$Page;LWeaveword$Text;I)I"⟩
abbrev cX11_bringOver : ByteArray := prog_1_method_48_code
def yX11_bringOver : MethodName := ⟨RX11, "bringOver", "(II)V"⟩
abbrev cX11_pagesOfTree : ByteArray := prog_1_method_49_code
def yX11_pagesOfTree : MethodName := ⟨RX11, "pagesOfTree", "(I)I"⟩
abbrev cX11_pagesLeadingInto : ByteArray := prog_1_method_50_code
def yX11_pagesLeadingInto : MethodName := ⟨RX11, "pagesLeadingInto", "(I)I"⟩
abbrev cX11_noteTitleChange : ByteArray := prog_1_method_51_code
def yX11_noteTitleChange : MethodName := ⟨RX11, "noteTitleChange", "(I)V"⟩
abbrev cX11_noteMemberChange : ByteArray := prog_1_method_52_code
def yX11_noteMemberChange : MethodName := ⟨RX11, "noteMemberChange", "(I)V"⟩
abbrev cX11_firstInQueue : ByteArray := prog_1_method_54_code
def yX11_firstInQueue : MethodName := ⟨RX11, "firstInQueue", "()I"⟩
abbrev cX11_render : ByteArray := prog_1_method_55_code
def yX11_render : MethodName := ⟨RX11, "render", "(ILWeaveword$Title;)V"⟩
abbrev cX11_has : ByteArray := prog_1_method_56_code
def yX11_has : MethodName := ⟨RX11, "has", "(II)Z"⟩
abbrev cX11_membersOf : ByteArray := prog_1_method_57_code
def yX11_membersOf : MethodName := ⟨RX11, "membersOf", "([LWeaveword$Title;I)I"⟩
abbrev cX11_linkingTo : ByteArray := prog_1_method_58_code
def yX11_linkingTo : MethodName := ⟨RX11, "linkingTo", "(I)I"⟩
abbrev cX11_wantedTitles : ByteArray := prog_1_method_59_code
def yX11_wantedTitles : MethodName := ⟨RX11, "wantedTitles", "()I"⟩
abbrev cX11_lonelyTitles : ByteArray := prog_1_method_60_code
def yX11_lonelyTitles : MethodName := ⟨RX11, "lonelyTitles", "()I"⟩
def RX12 : String := "WeavewordModel"
def TX12 : u_T := fun k => match k with
  | _ => ("", "", "", false)
def tyX12 : Nat → FieldType := fun k => match k with
  | _ => .int
abbrev wsX120 : List Cond := u_ws RX12 TX12 0
theorem nmX12 : ∀ a, a < 0 → ∀ b, b < 0 → a ≠ b → (TX12 a).2.1 ≠ (TX12 b).2.1 := by decide +kernel
theorem tyX12_ok : ∀ k, k < 0 → parseFieldDescriptor (TX12 k).2.2.1 = some (tyX12 k) := by decide +kernel
def RJx145de : String := "java/io/Serializable"
def TJx145de : u_T := fun k => match k with
  | _ => ("", "", "", false)
def tyJx145de : Nat → FieldType := fun k => match k with
  | _ => .int
abbrev wsJx145de0 : List Cond := u_ws RJx145de TJx145de 0
theorem nmJx145de : ∀ a, a < 0 → ∀ b, b < 0 → a ≠ b → (TJx145de a).2.1 ≠ (TJx145de b).2.1 := by decide +kernel
theorem tyJx145de_ok : ∀ k, k < 0 → parseFieldDescriptor (TJx145de k).2.2.1 = some (tyJx145de k) := by decide +kernel
def RJ5 : String := "java/lang/AbstractStringBuilder"
def TJ5 : u_T := fun k => match k with
  | _ => ("", "", "", false)
def tyJ5 : Nat → FieldType := fun k => match k with
  | _ => .int
abbrev wsJ50 : List Cond := u_ws RJ5 TJ5 0
theorem nmJ5 : ∀ a, a < 0 → ∀ b, b < 0 → a ≠ b → (TJ5 a).2.1 ≠ (TJ5 b).2.1 := by decide +kernel
theorem tyJ5_ok : ∀ k, k < 0 → parseFieldDescriptor (TJ5 k).2.2.1 = some (tyJ5 k) := by decide +kernel
abbrev cJ5_init_d00df : ByteArray := prog_16_method_2_code
def yJ5_init_d00df : MethodName := ⟨RJ5, "<init>", "(I)V"⟩
abbrev cJ5_length_8abf5 : ByteArray := prog_16_method_6_code
def yJ5_length_8abf5 : MethodName := ⟨RJ5, "length", "()I"⟩
abbrev cJ5_ensureCapacityInternal_d00df : ByteArray := prog_16_method_9_code
def yJ5_ensureCapacityInternal_d00df : MethodName := ⟨RJ5, "ensureCapacityInternal", "(I)V"⟩
abbrev cJ5_newCapacity_0f7a4 : ByteArray := prog_16_method_10_code
def yJ5_newCapacity_0f7a4 : MethodName := ⟨RJ5, "newCapacity", "(I)I"⟩
abbrev cJ5_inflate_da8c8 : ByteArray := prog_16_method_11_code
def yJ5_inflate_da8c8 : MethodName := ⟨RJ5, "inflate", "()V"⟩
abbrev cJ5_append_cf1ce : ByteArray := prog_16_method_22_code
def yJ5_append_cf1ce : MethodName := ⟨RJ5, "append", "(Ljava/lang/String;)Ljava/lang/AbstractStringBuilder;"⟩
abbrev cJ5_appendNull_278bc : ByteArray := prog_16_method_26_code
def yJ5_appendNull_278bc : MethodName := ⟨RJ5, "appendNull", "()Ljava/lang/AbstractStringBuilder;"⟩
abbrev cJ5_append_c97b9 : ByteArray := prog_16_method_32_code
def yJ5_append_c97b9 : MethodName := ⟨RJ5, "append", "(I)Ljava/lang/AbstractStringBuilder;"⟩
abbrev cJ5_getValue_6d5f1 : ByteArray := prog_16_method_64_code
def yJ5_getValue_6d5f1 : MethodName := ⟨RJ5, "getValue", "()[B"⟩
abbrev cJ5_isLatin1_aae02 : ByteArray := prog_16_method_68_code
def yJ5_isLatin1_aae02 : MethodName := ⟨RJ5, "isLatin1", "()Z"⟩
abbrev cJ5_inflateIfNeededFor_a7421 : ByteArray := prog_16_method_71_code
def yJ5_inflateIfNeededFor_a7421 : MethodName := ⟨RJ5, "inflateIfNeededFor", "(Ljava/lang/String;)V"⟩
abbrev cJ5_putStringAt_47b60 : ByteArray := prog_16_method_73_code
def yJ5_putStringAt_47b60 : MethodName := ⟨RJ5, "putStringAt", "(ILjava/lang/String;)V"⟩
def RJx2cfe8 : String := "java/lang/Appendable"
def TJx2cfe8 : u_T := fun k => match k with
  | _ => ("", "", "", false)
def tyJx2cfe8 : Nat → FieldType := fun k => match k with
  | _ => .int
abbrev wsJx2cfe80 : List Cond := u_ws RJx2cfe8 TJx2cfe8 0
theorem nmJx2cfe8 : ∀ a, a < 0 → ∀ b, b < 0 → a ≠ b → (TJx2cfe8 a).2.1 ≠ (TJx2cfe8 b).2.1 := by decide +kernel
theorem tyJx2cfe8_ok : ∀ k, k < 0 → parseFieldDescriptor (TJx2cfe8 k).2.2.1 = some (tyJx2cfe8 k) := by decide +kernel
def RJx9f9b0 : String := "java/lang/CharSequence"
def TJx9f9b0 : u_T := fun k => match k with
  | _ => ("", "", "", false)
def tyJx9f9b0 : Nat → FieldType := fun k => match k with
  | _ => .int
abbrev wsJx9f9b00 : List Cond := u_ws RJx9f9b0 TJx9f9b0 0
theorem nmJx9f9b0 : ∀ a, a < 0 → ∀ b, b < 0 → a ≠ b → (TJx9f9b0 a).2.1 ≠ (TJx9f9b0 b).2.1 := by decide +kernel
theorem tyJx9f9b0_ok : ∀ k, k < 0 → parseFieldDescriptor (TJx9f9b0 k).2.2.1 = some (tyJx9f9b0 k) := by decide +kernel
def RJx8e188 : String := "java/lang/Cloneable"
def TJx8e188 : u_T := fun k => match k with
  | _ => ("", "", "", false)
def tyJx8e188 : Nat → FieldType := fun k => match k with
  | _ => .int
abbrev wsJx8e1880 : List Cond := u_ws RJx8e188 TJx8e188 0
theorem nmJx8e188 : ∀ a, a < 0 → ∀ b, b < 0 → a ≠ b → (TJx8e188 a).2.1 ≠ (TJx8e188 b).2.1 := by decide +kernel
theorem tyJx8e188_ok : ∀ k, k < 0 → parseFieldDescriptor (TJx8e188 k).2.2.1 = some (tyJx8e188 k) := by decide +kernel
def RJxb160c : String := "java/lang/Comparable"
def TJxb160c : u_T := fun k => match k with
  | _ => ("", "", "", false)
def tyJxb160c : Nat → FieldType := fun k => match k with
  | _ => .int
abbrev wsJxb160c0 : List Cond := u_ws RJxb160c TJxb160c 0
theorem nmJxb160c : ∀ a, a < 0 → ∀ b, b < 0 → a ≠ b → (TJxb160c a).2.1 ≠ (TJxb160c b).2.1 := by decide +kernel
theorem tyJxb160c_ok : ∀ k, k < 0 → parseFieldDescriptor (TJxb160c k).2.2.1 = some (tyJxb160c k) := by decide +kernel
def RJ6 : String := "java/lang/Integer"
def TJ6 : u_T := fun k => match k with
  | _ => ("", "", "", false)
def tyJ6 : Nat → FieldType := fun k => match k with
  | _ => .int
abbrev wsJ60 : List Cond := u_ws RJ6 TJ6 0
theorem nmJ6 : ∀ a, a < 0 → ∀ b, b < 0 → a ≠ b → (TJ6 a).2.1 ≠ (TJ6 b).2.1 := by decide +kernel
theorem tyJ6_ok : ∀ k, k < 0 → parseFieldDescriptor (TJ6 k).2.2.1 = some (tyJ6 k) := by decide +kernel
abbrev cJ6_getChars_ba4f3 : ByteArray := prog_25_method_12_code
def yJ6_getChars_ba4f3 : MethodName := ⟨RJ6, "getChars", "(II[B)I"⟩
abbrev cJ6_stringSize_0f7a4 : ByteArray := prog_25_method_13_code
def yJ6_stringSize_0f7a4 : MethodName := ⟨RJ6, "stringSize", "(I)I"⟩
abbrev cJ6_bitCount_0f7a4 : ByteArray := prog_25_method_49_code
def yJ6_bitCount_0f7a4 : MethodName := ⟨RJ6, "bitCount", "(I)I"⟩
def RJxab1ab : String := "java/lang/Iterable"
def TJxab1ab : u_T := fun k => match k with
  | _ => ("", "", "", false)
def tyJxab1ab : Nat → FieldType := fun k => match k with
  | _ => .int
abbrev wsJxab1ab0 : List Cond := u_ws RJxab1ab TJxab1ab 0
theorem nmJxab1ab : ∀ a, a < 0 → ∀ b, b < 0 → a ≠ b → (TJxab1ab a).2.1 ≠ (TJxab1ab b).2.1 := by decide +kernel
theorem tyJxab1ab_ok : ∀ k, k < 0 → parseFieldDescriptor (TJxab1ab k).2.2.1 = some (tyJxab1ab k) := by decide +kernel
def RJ9 : String := "java/lang/Math"
def TJ9 : u_T := fun k => match k with
  | _ => ("", "", "", false)
def tyJ9 : Nat → FieldType := fun k => match k with
  | _ => .int
abbrev wsJ90 : List Cond := u_ws RJ9 TJ9 0
theorem nmJ9 : ∀ a, a < 0 → ∀ b, b < 0 → a ≠ b → (TJ9 a).2.1 ≠ (TJ9 b).2.1 := by decide +kernel
theorem tyJ9_ok : ∀ k, k < 0 → parseFieldDescriptor (TJ9 k).2.2.1 = some (tyJ9 k) := by decide +kernel
abbrev cJ9_max_7cf53 : ByteArray := prog_27_method_65_code
def yJ9_max_7cf53 : MethodName := ⟨RJ9, "max", "(II)I"⟩
abbrev cJ9_min_7cf53 : ByteArray := prog_27_method_69_code
def yJ9_min_7cf53 : MethodName := ⟨RJ9, "min", "(II)I"⟩
def RJxd2413 : String := "java/lang/Number"
def TJxd2413 : u_T := fun k => match k with
  | _ => ("", "", "", false)
def tyJxd2413 : Nat → FieldType := fun k => match k with
  | _ => .int
abbrev wsJxd24130 : List Cond := u_ws RJxd2413 TJxd2413 0
theorem nmJxd2413 : ∀ a, a < 0 → ∀ b, b < 0 → a ≠ b → (TJxd2413 a).2.1 ≠ (TJxd2413 b).2.1 := by decide +kernel
theorem tyJxd2413_ok : ∀ k, k < 0 → parseFieldDescriptor (TJxd2413 k).2.2.1 = some (tyJxd2413 k) := by decide +kernel
def RJ0 : String := "java/lang/String"
def TJ0 : u_T := fun k => match k with
  | 0 => ("java/lang/String", "value", "[B", true)
  | 1 => ("java/lang/String", "coder", "B", true)
  | 2 => ("java/lang/String", "hash", "I", false)
  | _ => ("java/lang/String", "hashIsZero", "Z", false)
def tyJ0 : Nat → FieldType := fun k => match k with
  | 0 => .array .byte
  | 1 => .byte
  | 2 => .int
  | _ => .boolean
abbrev wsJ00 : List Cond := u_ws RJ0 TJ0 4
theorem nmJ0 : ∀ a, a < 4 → ∀ b, b < 4 → a ≠ b → (TJ0 a).2.1 ≠ (TJ0 b).2.1 := by decide +kernel
theorem tyJ0_ok : ∀ k, k < 4 → parseFieldDescriptor (TJ0 k).2.2.1 = some (tyJ0 k) := by decide +kernel
abbrev cJ0_init_81219 : ByteArray := prog_30_method_53_code
def yJ0_init_81219 : MethodName := ⟨RJ0, "<init>", "(Ljava/lang/StringBuilder;)V"⟩
abbrev cJ0_length_8abf5 : ByteArray := prog_30_method_54_code
def yJ0_length_8abf5 : MethodName := ⟨RJ0, "length", "()I"⟩
abbrev cJ0_getBytes_840e7 : ByteArray := prog_30_method_147_code
def yJ0_getBytes_840e7 : MethodName := ⟨RJ0, "getBytes", "([BIB)V"⟩
abbrev cJ0_init_db425 : ByteArray := prog_30_method_150_code
def yJ0_init_db425 : MethodName := ⟨RJ0, "<init>", "(Ljava/lang/AbstractStringBuilder;Ljava/lang/Void;)V"⟩
abbrev cJ0_coder_7d493 : ByteArray := prog_30_method_152_code
def yJ0_coder_7d493 : MethodName := ⟨RJ0, "coder", "()B"⟩
abbrev cJ0_checkBoundsOffCount_cabcc : ByteArray := prog_30_method_157_code
def yJ0_checkBoundsOffCount_cabcc : MethodName := ⟨RJ0, "checkBoundsOffCount", "(III)I"⟩
abbrev cJ0_checkBoundsBeginEnd_23922 : ByteArray := prog_30_method_158_code
def yJ0_checkBoundsBeginEnd_23922 : MethodName := ⟨RJ0, "checkBoundsBeginEnd", "(III)V"⟩
def RJ4 : String := "java/lang/StringBuilder"
def TJ4 : u_T := fun k => match k with
  | 0 => ("java/lang/AbstractStringBuilder", "value", "[B", false)
  | 1 => ("java/lang/AbstractStringBuilder", "coder", "B", false)
  | 2 => ("java/lang/AbstractStringBuilder", "maybeLatin1", "Z", false)
  | _ => ("java/lang/AbstractStringBuilder", "count", "I", false)
def tyJ4 : Nat → FieldType := fun k => match k with
  | 0 => .array .byte
  | 1 => .byte
  | 2 => .boolean
  | _ => .int
abbrev wsJ40 : List Cond := u_ws RJ4 TJ4 4
theorem nmJ4 : ∀ a, a < 4 → ∀ b, b < 4 → a ≠ b → (TJ4 a).2.1 ≠ (TJ4 b).2.1 := by decide +kernel
theorem tyJ4_ok : ∀ k, k < 4 → parseFieldDescriptor (TJ4 k).2.2.1 = some (tyJ4 k) := by decide +kernel
abbrev cJ4_init_da8c8 : ByteArray := prog_31_method_1_code
def yJ4_init_da8c8 : MethodName := ⟨RJ4, "<init>", "()V"⟩
abbrev cJ4_append_15ec4 : ByteArray := prog_31_method_7_code
def yJ4_append_15ec4 : MethodName := ⟨RJ4, "append", "(Ljava/lang/String;)Ljava/lang/StringBuilder;"⟩
abbrev cJ4_append_bf812 : ByteArray := prog_31_method_15_code
def yJ4_append_bf812 : MethodName := ⟨RJ4, "append", "(I)Ljava/lang/StringBuilder;"⟩
abbrev cJ4_toString_0e30d : ByteArray := prog_31_method_42_code
def yJ4_toString_0e30d : MethodName := ⟨RJ4, "toString", "()Ljava/lang/String;"⟩
abbrev cJ4_length_8abf5 : ByteArray := prog_31_method_93_code
def yJ4_length_8abf5 : MethodName := ⟨RJ4, "length", "()I"⟩
def RJ1 : String := "java/lang/StringLatin1"
def TJ1 : u_T := fun k => match k with
  | _ => ("", "", "", false)
def tyJ1 : Nat → FieldType := fun k => match k with
  | _ => .int
abbrev wsJ10 : List Cond := u_ws RJ1 TJ1 0
theorem nmJ1 : ∀ a, a < 0 → ∀ b, b < 0 → a ≠ b → (TJ1 a).2.1 ≠ (TJ1 b).2.1 := by decide +kernel
theorem tyJ1_ok : ∀ k, k < 0 → parseFieldDescriptor (TJ1 k).2.2.1 = some (tyJ1 k) := by decide +kernel
abbrev cJ1_inflate_0e8fd : ByteArray := prog_32_method_50_code
def yJ1_inflate_0e8fd : MethodName := ⟨RJ1, "inflate", "([BI[BII)V"⟩
def RJ2 : String := "java/lang/StringUTF16"
def TJ2 : u_T := fun k => match k with
  | _ => ("", "", "", false)
def tyJ2 : Nat → FieldType := fun k => match k with
  | _ => .int
abbrev wsJ20 : List Cond := u_ws RJ2 TJ2 0
theorem nmJ2 : ∀ a, a < 0 → ∀ b, b < 0 → a ≠ b → (TJ2 a).2.1 ≠ (TJ2 b).2.1 := by decide +kernel
theorem tyJ2_ok : ∀ k, k < 0 → parseFieldDescriptor (TJ2 k).2.2.1 = some (tyJ2 k) := by decide +kernel
abbrev cJ2_newBytesFor_77867 : ByteArray := prog_33_method_2_code
def yJ2_newBytesFor_77867 : MethodName := ⟨RJ2, "newBytesFor", "(I)[B"⟩
abbrev cJ2_newBytesLength_0f7a4 : ByteArray := prog_33_method_3_code
def yJ2_newBytesLength_0f7a4 : MethodName := ⟨RJ2, "newBytesLength", "(I)I"⟩
abbrev cJ2_putChar_b72d1 : ByteArray := prog_33_method_4_code
def yJ2_putChar_b72d1 : MethodName := ⟨RJ2, "putChar", "([BII)V"⟩
abbrev cJ2_getChar_3b067 : ByteArray := prog_33_method_5_code
def yJ2_getChar_3b067 : MethodName := ⟨RJ2, "getChar", "([BI)C"⟩
abbrev cJ2_length_9d52b : ByteArray := prog_33_method_6_code
def yJ2_length_9d52b : MethodName := ⟨RJ2, "length", "([B)I"⟩
abbrev cJ2_coderFromArrayLen_85cad : ByteArray := prog_33_method_15_code
def yJ2_coderFromArrayLen_85cad : MethodName := ⟨RJ2, "coderFromArrayLen", "([BI)B"⟩
abbrev cJ2_compress_39247 : ByteArray := prog_33_method_17_code
def yJ2_compress_39247 : MethodName := ⟨RJ2, "compress", "([BII)[B"⟩
abbrev cJ2_compress_5af95 : ByteArray := prog_33_method_22_code
def yJ2_compress_5af95 : MethodName := ⟨RJ2, "compress", "([BI[BII)I"⟩
abbrev cJ2_getChars_46870 : ByteArray := prog_33_method_77_code
def yJ2_getChars_46870 : MethodName := ⟨RJ2, "getChars", "(III[B)I"⟩
abbrev cJ2_putCharsAt_cd4e5 : ByteArray := prog_33_method_81_code
def yJ2_putCharsAt_cd4e5 : MethodName := ⟨RJ2, "putCharsAt", "([BICCCC)I"⟩
abbrev cJ2_inflate_0e8fd : ByteArray := prog_33_method_86_code
def yJ2_inflate_0e8fd : MethodName := ⟨RJ2, "inflate", "([BI[BII)V"⟩
abbrev cJ2_getChars_ba4f3 : ByteArray := prog_33_method_89_code
def yJ2_getChars_ba4f3 : MethodName := ⟨RJ2, "getChars", "(II[B)I"⟩
abbrev cJ2_checkBoundsBeginEnd_d044e : ByteArray := prog_33_method_93_code
def yJ2_checkBoundsBeginEnd_d044e : MethodName := ⟨RJ2, "checkBoundsBeginEnd", "(II[B)V"⟩
abbrev cJ2_checkBoundsOffCount_d044e : ByteArray := prog_33_method_94_code
def yJ2_checkBoundsOffCount_d044e : MethodName := ⟨RJ2, "checkBoundsOffCount", "(II[B)V"⟩
def RJ10 : String := "java/lang/System"
def TJ10 : u_T := fun k => match k with
  | _ => ("", "", "", false)
def tyJ10 : Nat → FieldType := fun k => match k with
  | _ => .int
abbrev wsJ100 : List Cond := u_ws RJ10 TJ10 0
theorem nmJ10 : ∀ a, a < 0 → ∀ b, b < 0 → a ≠ b → (TJ10 a).2.1 ≠ (TJ10 b).2.1 := by decide +kernel
theorem tyJ10_ok : ∀ k, k < 0 → parseFieldDescriptor (TJ10 k).2.2.1 = some (tyJ10 k) := by decide +kernel
def RJxfd54e : String := "java/lang/constant/Constable"
def TJxfd54e : u_T := fun k => match k with
  | _ => ("", "", "", false)
def tyJxfd54e : Nat → FieldType := fun k => match k with
  | _ => .int
abbrev wsJxfd54e0 : List Cond := u_ws RJxfd54e TJxfd54e 0
theorem nmJxfd54e : ∀ a, a < 0 → ∀ b, b < 0 → a ≠ b → (TJxfd54e a).2.1 ≠ (TJxfd54e b).2.1 := by decide +kernel
theorem tyJxfd54e_ok : ∀ k, k < 0 → parseFieldDescriptor (TJxfd54e k).2.2.1 = some (tyJxfd54e k) := by decide +kernel
def RJx3cf43 : String := "java/lang/constant/ConstantDesc"
def TJx3cf43 : u_T := fun k => match k with
  | _ => ("", "", "", false)
def tyJx3cf43 : Nat → FieldType := fun k => match k with
  | _ => .int
abbrev wsJx3cf430 : List Cond := u_ws RJx3cf43 TJx3cf43 0
theorem nmJx3cf43 : ∀ a, a < 0 → ∀ b, b < 0 → a ≠ b → (TJx3cf43 a).2.1 ≠ (TJx3cf43 b).2.1 := by decide +kernel
theorem tyJx3cf43_ok : ∀ k, k < 0 → parseFieldDescriptor (TJx3cf43 k).2.2.1 = some (tyJx3cf43 k) := by decide +kernel
def RJxa1e45 : String := "java/util/AbstractCollection"
def TJxa1e45 : u_T := fun k => match k with
  | _ => ("", "", "", false)
def tyJxa1e45 : Nat → FieldType := fun k => match k with
  | _ => .int
abbrev wsJxa1e450 : List Cond := u_ws RJxa1e45 TJxa1e45 0
theorem nmJxa1e45 : ∀ a, a < 0 → ∀ b, b < 0 → a ≠ b → (TJxa1e45 a).2.1 ≠ (TJxa1e45 b).2.1 := by decide +kernel
theorem tyJxa1e45_ok : ∀ k, k < 0 → parseFieldDescriptor (TJxa1e45 k).2.2.1 = some (tyJxa1e45 k) := by decide +kernel
abbrev cJxa1e45_init_da8c8 : ByteArray := prog_38_method_1_code
def yJxa1e45_init_da8c8 : MethodName := ⟨RJxa1e45, "<init>", "()V"⟩
def RJxc12de : String := "java/util/AbstractList"
def TJxc12de : u_T := fun k => match k with
  | _ => ("", "", "", false)
def tyJxc12de : Nat → FieldType := fun k => match k with
  | _ => .int
abbrev wsJxc12de0 : List Cond := u_ws RJxc12de TJxc12de 0
theorem nmJxc12de : ∀ a, a < 0 → ∀ b, b < 0 → a ≠ b → (TJxc12de a).2.1 ≠ (TJxc12de b).2.1 := by decide +kernel
theorem tyJxc12de_ok : ∀ k, k < 0 → parseFieldDescriptor (TJxc12de k).2.2.1 = some (tyJxc12de k) := by decide +kernel
abbrev cJxc12de_init_da8c8 : ByteArray := prog_39_method_1_code
def yJxc12de_init_da8c8 : MethodName := ⟨RJxc12de, "<init>", "()V"⟩
def RJx4a65c : String := "java/util/ArrayList"
def TJx4a65c : u_T := fun k => match k with
  | 0 => ("java/util/AbstractList", "modCount", "I", false)
  | 1 => ("java/util/ArrayList", "elementData", "[Ljava/lang/Object;", false)
  | _ => ("java/util/ArrayList", "size", "I", false)
def tyJx4a65c : Nat → FieldType := fun k => match k with
  | 0 => .int
  | 1 => .array (.object "java/lang/Object")
  | _ => .int
abbrev wsJx4a65c0 : List Cond := u_ws RJx4a65c TJx4a65c 3
theorem nmJx4a65c : ∀ a, a < 3 → ∀ b, b < 3 → a ≠ b → (TJx4a65c a).2.1 ≠ (TJx4a65c b).2.1 := by decide +kernel
theorem tyJx4a65c_ok : ∀ k, k < 3 → parseFieldDescriptor (TJx4a65c k).2.2.1 = some (tyJx4a65c k) := by decide +kernel
abbrev cJx4a65c_init_da8c8 : ByteArray := prog_40_method_2_code
def yJx4a65c_init_da8c8 : MethodName := ⟨RJx4a65c, "<init>", "()V"⟩
abbrev cJx4a65c_grow_92f84 : ByteArray := prog_40_method_6_code
def yJx4a65c_grow_92f84 : MethodName := ⟨RJx4a65c, "grow", "(I)[Ljava/lang/Object;"⟩
abbrev cJx4a65c_grow_d5877 : ByteArray := prog_40_method_7_code
def yJx4a65c_grow_d5877 : MethodName := ⟨RJx4a65c, "grow", "()[Ljava/lang/Object;"⟩
abbrev cJx4a65c_size_8abf5 : ByteArray := prog_40_method_8_code
def yJx4a65c_size_8abf5 : MethodName := ⟨RJx4a65c, "size", "()I"⟩
abbrev cJx4a65c_elementData_915e3 : ByteArray := prog_40_method_18_code
def yJx4a65c_elementData_915e3 : MethodName := ⟨RJx4a65c, "elementData", "(I)Ljava/lang/Object;"⟩
abbrev cJx4a65c_get_915e3 : ByteArray := prog_40_method_20_code
def yJx4a65c_get_915e3 : MethodName := ⟨RJx4a65c, "get", "(I)Ljava/lang/Object;"⟩
abbrev cJx4a65c_add_72be8 : ByteArray := prog_40_method_24_code
def yJx4a65c_add_72be8 : MethodName := ⟨RJx4a65c, "add", "(Ljava/lang/Object;[Ljava/lang/Object;I)V"⟩
abbrev cJx4a65c_add_9ea2d : ByteArray := prog_40_method_25_code
def yJx4a65c_add_9ea2d : MethodName := ⟨RJx4a65c, "add", "(Ljava/lang/Object;)Z"⟩
abbrev cJx4a65c_add_7a177 : ByteArray := prog_40_method_26_code
def yJx4a65c_add_7a177 : MethodName := ⟨RJx4a65c, "add", "(ILjava/lang/Object;)V"⟩
abbrev cJx4a65c_rangeCheckForAdd_d00df : ByteArray := prog_40_method_45_code
def yJx4a65c_rangeCheckForAdd_d00df : MethodName := ⟨RJx4a65c, "rangeCheckForAdd", "(I)V"⟩
abbrev cJx4a65c_outOfBoundsMsg_b52d3 : ByteArray := prog_40_method_46_code
def yJx4a65c_outOfBoundsMsg_b52d3 : MethodName := ⟨RJx4a65c, "outOfBoundsMsg", "(I)Ljava/lang/String;"⟩
def RJ7 : String := "java/util/Arrays"
def TJ7 : u_T := fun k => match k with
  | _ => ("", "", "", false)
def tyJ7 : Nat → FieldType := fun k => match k with
  | _ => .int
abbrev wsJ70 : List Cond := u_ws RJ7 TJ7 0
theorem nmJ7 : ∀ a, a < 0 → ∀ b, b < 0 → a ≠ b → (TJ7 a).2.1 ≠ (TJ7 b).2.1 := by decide +kernel
theorem tyJ7_ok : ∀ k, k < 0 → parseFieldDescriptor (TJ7 k).2.2.1 = some (tyJ7 k) := by decide +kernel
abbrev cJ7_copyOf_1904c : ByteArray := prog_41_method_119_code
def yJ7_copyOf_1904c : MethodName := ⟨RJ7, "copyOf", "([Ljava/lang/Object;I)[Ljava/lang/Object;"⟩
abbrev cJ7_copyOf_6403c : ByteArray := prog_41_method_120_code
def yJ7_copyOf_6403c : MethodName := ⟨RJ7, "copyOf", "([Ljava/lang/Object;ILjava/lang/Class;)[Ljava/lang/Object;"⟩
abbrev cJ7_copyOf_9075b : ByteArray := prog_41_method_121_code
def yJ7_copyOf_9075b : MethodName := ⟨RJ7, "copyOf", "([BI)[B"⟩
abbrev cJ7_checkLength_df160 : ByteArray := prog_41_method_131_code
def yJ7_checkLength_df160 : MethodName := ⟨RJ7, "checkLength", "(II)V"⟩
abbrev cJ7_copyOfRange_39247 : ByteArray := prog_41_method_132_code
def yJ7_copyOfRange_39247 : MethodName := ⟨RJ7, "copyOfRange", "([BII)[B"⟩
abbrev cJ7_copyOfRangeByte_39247 : ByteArray := prog_41_method_133_code
def yJ7_copyOfRangeByte_39247 : MethodName := ⟨RJ7, "copyOfRangeByte", "([BII)[B"⟩
def RJx5ef63 : String := "java/util/Collection"
def TJx5ef63 : u_T := fun k => match k with
  | _ => ("", "", "", false)
def tyJx5ef63 : Nat → FieldType := fun k => match k with
  | _ => .int
abbrev wsJx5ef630 : List Cond := u_ws RJx5ef63 TJx5ef63 0
theorem nmJx5ef63 : ∀ a, a < 0 → ∀ b, b < 0 → a ≠ b → (TJx5ef63 a).2.1 ≠ (TJx5ef63 b).2.1 := by decide +kernel
theorem tyJx5ef63_ok : ∀ k, k < 0 → parseFieldDescriptor (TJx5ef63 k).2.2.1 = some (tyJx5ef63 k) := by decide +kernel
def RJxbd725 : String := "java/util/List"
def TJxbd725 : u_T := fun k => match k with
  | _ => ("", "", "", false)
def tyJxbd725 : Nat → FieldType := fun k => match k with
  | _ => .int
abbrev wsJxbd7250 : List Cond := u_ws RJxbd725 TJxbd725 0
theorem nmJxbd725 : ∀ a, a < 0 → ∀ b, b < 0 → a ≠ b → (TJxbd725 a).2.1 ≠ (TJxbd725 b).2.1 := by decide +kernel
theorem tyJxbd725_ok : ∀ k, k < 0 → parseFieldDescriptor (TJxbd725 k).2.2.1 = some (tyJxbd725 k) := by decide +kernel
def RJ15 : String := "java/util/Objects"
def TJ15 : u_T := fun k => match k with
  | _ => ("", "", "", false)
def tyJ15 : Nat → FieldType := fun k => match k with
  | _ => .int
abbrev wsJ150 : List Cond := u_ws RJ15 TJ15 0
theorem nmJ15 : ∀ a, a < 0 → ∀ b, b < 0 → a ≠ b → (TJ15 a).2.1 ≠ (TJ15 b).2.1 := by decide +kernel
theorem tyJ15_ok : ∀ k, k < 0 → parseFieldDescriptor (TJ15 k).2.2.1 = some (tyJ15 k) := by decide +kernel
abbrev cJ15_checkIndex_7cf53 : ByteArray := prog_44_method_17_code
def yJ15_checkIndex_7cf53 : MethodName := ⟨RJ15, "checkIndex", "(II)I"⟩
def RJxf0a74 : String := "java/util/RandomAccess"
def TJxf0a74 : u_T := fun k => match k with
  | _ => ("", "", "", false)
def tyJxf0a74 : Nat → FieldType := fun k => match k with
  | _ => .int
abbrev wsJxf0a740 : List Cond := u_ws RJxf0a74 TJxf0a74 0
theorem nmJxf0a74 : ∀ a, a < 0 → ∀ b, b < 0 → a ≠ b → (TJxf0a74 a).2.1 ≠ (TJxf0a74 b).2.1 := by decide +kernel
theorem tyJxf0a74_ok : ∀ k, k < 0 → parseFieldDescriptor (TJxf0a74 k).2.2.1 = some (tyJxf0a74 k) := by decide +kernel
def RJxa66e6 : String := "java/util/SequencedCollection"
def TJxa66e6 : u_T := fun k => match k with
  | _ => ("", "", "", false)
def tyJxa66e6 : Nat → FieldType := fun k => match k with
  | _ => .int
abbrev wsJxa66e60 : List Cond := u_ws RJxa66e6 TJxa66e6 0
theorem nmJxa66e6 : ∀ a, a < 0 → ∀ b, b < 0 → a ≠ b → (TJxa66e6 a).2.1 ≠ (TJxa66e6 b).2.1 := by decide +kernel
theorem tyJxa66e6_ok : ∀ k, k < 0 → parseFieldDescriptor (TJxa66e6 k).2.2.1 = some (tyJxa66e6 k) := by decide +kernel
def RJ8 : String := "jdk/internal/util/ArraysSupport"
def TJ8 : u_T := fun k => match k with
  | _ => ("", "", "", false)
def tyJ8 : Nat → FieldType := fun k => match k with
  | _ => .int
abbrev wsJ80 : List Cond := u_ws RJ8 TJ8 0
theorem nmJ8 : ∀ a, a < 0 → ∀ b, b < 0 → a ≠ b → (TJ8 a).2.1 ≠ (TJ8 b).2.1 := by decide +kernel
theorem tyJ8_ok : ∀ k, k < 0 → parseFieldDescriptor (TJ8 k).2.2.1 = some (tyJ8 k) := by decide +kernel
abbrev cJ8_newLength_cabcc : ByteArray := prog_47_method_27_code
def yJ8_newLength_cabcc : MethodName := ⟨RJ8, "newLength", "(III)I"⟩
abbrev cJ8_hugeLength_7cf53 : ByteArray := prog_47_method_28_code
def yJ8_hugeLength_7cf53 : MethodName := ⟨RJ8, "hugeLength", "(II)I"⟩
def RJ3 : String := "jdk/internal/util/Preconditions"
def TJ3 : u_T := fun k => match k with
  | _ => ("", "", "", false)
def tyJ3 : Nat → FieldType := fun k => match k with
  | _ => .int
abbrev wsJ30 : List Cond := u_ws RJ3 TJ3 0
theorem nmJ3 : ∀ a, a < 0 → ∀ b, b < 0 → a ≠ b → (TJ3 a).2.1 ≠ (TJ3 b).2.1 := by decide +kernel
theorem tyJ3_ok : ∀ k, k < 0 → parseFieldDescriptor (TJ3 k).2.2.1 = some (tyJ3 k) := by decide +kernel
abbrev cJ3_checkIndex_8e157 : ByteArray := prog_48_method_11_code
def yJ3_checkIndex_8e157 : MethodName := ⟨RJ3, "checkIndex", "(IILjava/util/function/BiFunction;)I"⟩
abbrev cJ3_checkFromToIndex_8c36e : ByteArray := prog_48_method_12_code
def yJ3_checkFromToIndex_8c36e : MethodName := ⟨RJ3, "checkFromToIndex", "(IIILjava/util/function/BiFunction;)I"⟩
abbrev cJ3_checkFromIndexSize_8c36e : ByteArray := prog_48_method_13_code
def yJ3_checkFromIndexSize_8c36e : MethodName := ⟨RJ3, "checkFromIndexSize", "(IIILjava/util/function/BiFunction;)I"⟩
def RL : String := "WeavewordLaw"
abbrev cL_macros : ByteArray := method_2_code
def yL_macros : MethodName := ⟨RL, "macros", "(J)I"⟩
abbrev cL_macro : ByteArray := method_3_code
def yL_macro : MethodName := ⟨RL, "macro", "(JI)I"⟩
abbrev cL_present : ByteArray := method_4_code
def yL_present : MethodName := ⟨RL, "present", "([I[I[II)I"⟩
abbrev cL_way : ByteArray := method_5_code
def yL_way : MethodName := ⟨RL, "way", "([I[I[I[J[II)I"⟩
abbrev cL_members : ByteArray := method_6_code
def yL_members : MethodName := ⟨RL, "members", "([II)I"⟩
abbrev cL_many : ByteArray := method_7_code
def yL_many : MethodName := ⟨RL, "many", "(I)I"⟩
abbrev cL_comes : ByteArray := method_8_code
def yL_comes : MethodName := ⟨RL, "comes", "([IJI)J"⟩
abbrev cL_gives : ByteArray := method_9_code
def yL_gives : MethodName := ⟨RL, "gives", "([I[I[I[I[IJIII)J"⟩
abbrev cL_renders : ByteArray := method_10_code
def yL_renders : MethodName := ⟨RL, "renders", "([I[I[I[J[I[II)J"⟩
abbrev cL_sets : ByteArray := method_11_code
def yL_sets : MethodName := ⟨RL, "sets", "([I[I[III)V"⟩
abbrev cL_rendered : ByteArray := method_12_code
def yL_rendered : MethodName := ⟨RL, "rendered", "([I[I[I[J[I[J[I[II)V"⟩
abbrev cL_isStale : ByteArray := method_13_code
def yL_isStale : MethodName := ⟨RL, "isStale", "([I[I[I[II)Z"⟩
abbrev cL_next : ByteArray := method_14_code
def yL_next : MethodName := ⟨RL, "next", "([I[I[I[I)I"⟩
abbrev cL_settles : ByteArray := method_15_code
def yL_settles : MethodName := ⟨RL, "settles", "([I[I[I[I[I)V"⟩
abbrev cL_adds : ByteArray := method_16_code
def yL_adds : MethodName := ⟨RL, "adds", "([I[I[JIIJ)I"⟩
abbrev cL_does : ByteArray := method_17_code
def yL_does : MethodName := ⟨RL, "does", "(LWeaveword;IIII)I"⟩
abbrev cL_code : ByteArray := method_18_code
def yL_code : MethodName := ⟨RL, "code", "(II)I"⟩
abbrev cL_drafts : ByteArray := method_19_code
def yL_drafts : MethodName := ⟨RL, "drafts", "(LWeaveword;J)Z"⟩
abbrev cL_isText : ByteArray := method_20_code
def yL_isText : MethodName := ⟨RL, "isText", "(J)Z"⟩
abbrev cL_sections : ByteArray := method_21_code
def yL_sections : MethodName := ⟨RL, "sections", "(J)I"⟩
abbrev cL_section : ByteArray := method_22_code
def yL_section : MethodName := ⟨RL, "section", "(JI)J"⟩
abbrev cL_behind : ByteArray := method_23_code
def yL_behind : MethodName := ⟨RL, "behind", "(JJ)J"⟩
abbrev cL_with : ByteArray := method_24_code
def yL_with : MethodName := ⟨RL, "with", "(JIJ)J"⟩
abbrev cL_merged : ByteArray := method_25_code
def yL_merged : MethodName := ⟨RL, "merged", "(JJJ)J"⟩
abbrev cL_undone : ByteArray := method_26_code
def yL_undone : MethodName := ⟨RL, "undone", "(JJJ)J"⟩
abbrev cL_drawn : ByteArray := method_27_code
def yL_drawn : MethodName := ⟨RL, "drawn", "(I)J"⟩
abbrev cL_versionOf : ByteArray := method_28_code
def yL_versionOf : MethodName := ⟨RL, "versionOf", "([I[I[III)I"⟩
abbrev cL_digest : ByteArray := method_29_code
def yL_digest : MethodName := ⟨RL, "digest", "(LWeaveword;II)J"⟩
abbrev cL_isAnew : ByteArray := method_30_code
def yL_isAnew : MethodName := ⟨RL, "isAnew", "(LWeaveword;[I[I[I[J[I[III)Z"⟩
abbrev cL_isWiki : ByteArray := method_31_code
def yL_isWiki : MethodName := ⟨RL, "isWiki", "(LWeaveword;[I[I[I[J[I[I[J[I[II)Z"⟩
abbrev cL_law : ByteArray := code
def yL_law : MethodName := ⟨RL, "law", "([I)Z"⟩
abbrev cL_isMoved : ByteArray := method_33_code
def yL_isMoved : MethodName := ⟨RL, "isMoved", "(LWeaveword;[I[I[I[J[I[I[I[II)Z"⟩
abbrev vwCl : List vw_C := [(RJ0, TJ0, 4), (RJ4, TJ4, 4), (RJx4a65c, TJx4a65c, 3), (RX0, TX0, 3), (RX1, TX1, 15), (RX2, TX2, 7), (RX3, TX3, 3), (RX4, TX4, 8), (RX5, TX5, 3), (RX6, TX6, 4), (RX7, TX7, 3), (RX8, TX8, 3), (RX9, TX9, 6), (RX10, TX10, 3), (RX11, TX11, 10)]
