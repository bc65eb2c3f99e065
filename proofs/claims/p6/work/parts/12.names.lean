noncomputable section KV12_names
/-! NAMES of the claim, out of its printed names (by wip/ev/pf2.py). -/
def RX0 : String := "TextShell$Expander"
def TX0 : u_T := fun k => match k with
  | 0 => ("TextShell$Expander", "memory", "LTextShell$Memory;", true)
  | 1 => ("TextShell$Expander", "reader", "LTextShell$Reader;", true)
  | 2 => ("TextShell$Expander", "shell", "LTextShell$Shell;", true)
  | 3 => ("TextShell$Expander", "sum", "LTextShell$Sum;", true)
  | 4 => ("TextShell$Expander", "items", "[I", false)
  | 5 => ("TextShell$Expander", "top", "I", false)
  | 6 => ("TextShell$Expander", "signs", "I", false)
  | 7 => ("TextShell$Expander", "fields", "[LTextShell$Row;", false)
  | 8 => ("TextShell$Expander", "fieldTop", "I", false)
  | 9 => ("TextShell$Expander", "separators", "[I", true)
  | 10 => ("TextShell$Expander", "separatorsOf", "LTextShell$Row;", false)
  | 11 => ("TextShell$Expander", "scratch", "LTextShell$Row;", true)
  | 12 => ("TextShell$Expander", "pattern", "[I", false)
  | 13 => ("TextShell$Expander", "elements", "[I", false)
  | 14 => ("TextShell$Expander", "elementCount", "I", false)
  | 15 => ("TextShell$Expander", "reached", "[I", false)
  | 16 => ("TextShell$Expander", "shortest", "I", false)
  | 17 => ("TextShell$Expander", "longest", "I", false)
  | 18 => ("TextShell$Expander", "paths", "[LTextShell$Row;", false)
  | 19 => ("TextShell$Expander", "nodes", "[LTextShell$Node;", false)
  | 20 => ("TextShell$Expander", "pathCount", "I", false)
  | _ => ("TextShell$Expander", "part", "I", false)
def tyX0 : Nat → FieldType := fun k => match k with
  | 0 => .object "TextShell$Memory"
  | 1 => .object "TextShell$Reader"
  | 2 => .object "TextShell$Shell"
  | 3 => .object "TextShell$Sum"
  | 4 => .array .int
  | 5 => .int
  | 6 => .int
  | 7 => .array (.object "TextShell$Row")
  | 8 => .int
  | 9 => .array .int
  | 10 => .object "TextShell$Row"
  | 11 => .object "TextShell$Row"
  | 12 => .array .int
  | 13 => .array .int
  | 14 => .int
  | 15 => .array .int
  | 16 => .int
  | 17 => .int
  | 18 => .array (.object "TextShell$Row")
  | 19 => .array (.object "TextShell$Node")
  | 20 => .int
  | _ => .int
theorem nmX0 : ∀ a, a < 22 → ∀ b, b < 22 → a ≠ b → (TX0 a).2.1 ≠ (TX0 b).2.1 := by decide +kernel
theorem tyX0_ok : ∀ k, k < 22 → parseFieldDescriptor (TX0 k).2.2.1 = some (tyX0 k) := by decide +kernel
abbrev cX0_init : ByteArray := prog_2_method_1_code
def yX0_init : MethodName := ⟨RX0, "<init>", "(LTextShell$Memory;LTextShell$Reader;LTextShell$Shell;)V"⟩
def RX1 : String := "TextShell$Frame"
def TX1 : u_T := fun k => match k with
  | 0 => ("TextShell$Frame", "kind", "I", false)
  | 1 => ("TextShell$Frame", "state", "I", false)
  | 2 => ("TextShell$Frame", "section", "I", false)
  | 3 => ("TextShell$Frame", "line", "I", false)
  | 4 => ("TextShell$Frame", "flags", "I", false)
  | 5 => ("TextShell$Frame", "source", "LTextShell$Stream;", false)
  | 6 => ("TextShell$Frame", "script", "LTextShell$Frame;", false)
  | 7 => ("TextShell$Frame", "command", "LTextShell$Tree;", false)
  | 8 => ("TextShell$Frame", "clause", "LTextShell$Tree;", false)
  | 9 => ("TextShell$Frame", "first", "LTextShell$Tree;", false)
  | 10 => ("TextShell$Frame", "last", "LTextShell$Tree;", false)
  | 11 => ("TextShell$Frame", "start", "LTextShell$Tree;", false)
  | 12 => ("TextShell$Frame", "tail", "LTextShell$Tree;", false)
  | 13 => ("TextShell$Frame", "waiting", "LTextShell$Tree;", false)
  | 14 => ("TextShell$Frame", "number", "I", false)
  | 15 => ("TextShell$Frame", "operator", "I", false)
  | 16 => ("TextShell$Frame", "back", "I", false)
  | 17 => ("TextShell$Frame", "from", "I", false)
  | _ => ("TextShell$Frame", "mark", "I", false)
def tyX1 : Nat → FieldType := fun k => match k with
  | 0 => .int
  | 1 => .int
  | 2 => .int
  | 3 => .int
  | 4 => .int
  | 5 => .object "TextShell$Stream"
  | 6 => .object "TextShell$Frame"
  | 7 => .object "TextShell$Tree"
  | 8 => .object "TextShell$Tree"
  | 9 => .object "TextShell$Tree"
  | 10 => .object "TextShell$Tree"
  | 11 => .object "TextShell$Tree"
  | 12 => .object "TextShell$Tree"
  | 13 => .object "TextShell$Tree"
  | 14 => .int
  | 15 => .int
  | 16 => .int
  | 17 => .int
  | _ => .int
theorem nmX1 : ∀ a, a < 19 → ∀ b, b < 19 → a ≠ b → (TX1 a).2.1 ≠ (TX1 b).2.1 := by decide +kernel
theorem tyX1_ok : ∀ k, k < 19 → parseFieldDescriptor (TX1 k).2.2.1 = some (tyX1 k) := by decide +kernel
abbrev cX1_init : ByteArray := prog_3_method_1_code
def yX1_init : MethodName := ⟨RX1, "<init>", "()V"⟩
abbrev cX1_set : ByteArray := prog_3_method_2_code
def yX1_set : MethodName := ⟨RX1, "set", "(IILTextShell$Frame;)V"⟩
abbrev cX1_has : ByteArray := prog_3_method_3_code
def yX1_has : MethodName := ⟨RX1, "has", "(I)Z"⟩
def RX2 : String := "TextShell$Memory"
def TX2 : u_T := fun k => match k with
  | 0 => ("TextShell$Memory", "buckets", "[LTextShell$Name;", true)
  | 1 => ("TextShell$Memory", "bucket", "I", false)
  | 2 => ("TextShell$Memory", "names", "[LTextShell$Name;", false)
  | 3 => ("TextShell$Memory", "size", "I", false)
  | 4 => ("TextShell$Memory", "log", "[LTextShell$Name;", false)
  | 5 => ("TextShell$Memory", "logged", "I", false)
  | 6 => ("TextShell$Memory", "subshells", "I", false)
  | 7 => ("TextShell$Memory", "saves", "[I", true)
  | 8 => ("TextShell$Memory", "places", "[LTextShell$Node;", true)
  | 9 => ("TextShell$Memory", "pool", "[LTextShell$Row;", false)
  | 10 => ("TextShell$Memory", "base", "I", false)
  | 11 => ("TextShell$Memory", "parameters", "I", false)
  | 12 => ("TextShell$Memory", "floor", "I", false)
  | 13 => ("TextShell$Memory", "options", "I", false)
  | 14 => ("TextShell$Memory", "loops", "I", false)
  | 15 => ("TextShell$Memory", "calls", "I", false)
  | 16 => ("TextShell$Memory", "root", "LTextShell$Node;", true)
  | 17 => ("TextShell$Memory", "here", "LTextShell$Node;", false)
  | 18 => ("TextShell$Memory", "separators", "LTextShell$Name;", true)
  | 19 => ("TextShell$Memory", "home", "LTextShell$Name;", true)
  | _ => ("TextShell$Memory", "nothing", "LTextShell$Row;", true)
def tyX2 : Nat → FieldType := fun k => match k with
  | 0 => .array (.object "TextShell$Name")
  | 1 => .int
  | 2 => .array (.object "TextShell$Name")
  | 3 => .int
  | 4 => .array (.object "TextShell$Name")
  | 5 => .int
  | 6 => .int
  | 7 => .array .int
  | 8 => .array (.object "TextShell$Node")
  | 9 => .array (.object "TextShell$Row")
  | 10 => .int
  | 11 => .int
  | 12 => .int
  | 13 => .int
  | 14 => .int
  | 15 => .int
  | 16 => .object "TextShell$Node"
  | 17 => .object "TextShell$Node"
  | 18 => .object "TextShell$Name"
  | 19 => .object "TextShell$Name"
  | _ => .object "TextShell$Row"
theorem nmX2 : ∀ a, a < 21 → ∀ b, b < 21 → a ≠ b → (TX2 a).2.1 ≠ (TX2 b).2.1 := by decide +kernel
theorem tyX2_ok : ∀ k, k < 21 → parseFieldDescriptor (TX2 k).2.2.1 = some (tyX2 k) := by decide +kernel
abbrev cX2_init : ByteArray := prog_4_method_1_code
def yX2_init : MethodName := ⟨RX2, "<init>", "()V"⟩
abbrev cX2_row : ByteArray := prog_4_method_2_code
def yX2_row : MethodName := ⟨RX2, "row", "(Ljava/lang/String;)LTextShell$Row;"⟩
abbrev cX2_reserve : ByteArray := prog_4_method_3_code
def yX2_reserve : MethodName := ⟨RX2, "reserve", "(Ljava/lang/String;I)V"⟩
abbrev cX2_tellReserved : ByteArray := prog_4_method_4_code
def yX2_tellReserved : MethodName := ⟨RX2, "tellReserved", "()V"⟩
abbrev cX2_command : ByteArray := prog_4_method_5_code
def yX2_command : MethodName := ⟨RX2, "command", "(Ljava/lang/String;I)V"⟩
abbrev cX2_tellCommands : ByteArray := prog_4_method_6_code
def yX2_tellCommands : MethodName := ⟨RX2, "tellCommands", "()V"⟩
abbrev cX2_find : ByteArray := prog_4_method_7_code
def yX2_find : MethodName := ⟨RX2, "find", "(LTextShell$Row;)LTextShell$Name;"⟩
abbrev cX2_name : ByteArray := prog_4_method_8_code
def yX2_name : MethodName := ⟨RX2, "name", "(LTextShell$Row;)LTextShell$Name;"⟩
def RX3 : String := "TextShell$Name"
def TX3 : u_T := fun k => match k with
  | 0 => ("TextShell$Name", "text", "LTextShell$Row;", true)
  | 1 => ("TextShell$Name", "index", "I", true)
  | 2 => ("TextShell$Name", "of", "LTextShell$Name;", false)
  | 3 => ("TextShell$Name", "next", "LTextShell$Name;", false)
  | 4 => ("TextShell$Name", "value", "LTextShell$Row;", false)
  | 5 => ("TextShell$Name", "readOnly", "Z", false)
  | 6 => ("TextShell$Name", "function", "LTextShell$Tree;", false)
  | 7 => ("TextShell$Name", "alias", "LTextShell$Row;", false)
  | 8 => ("TextShell$Name", "command", "I", false)
  | _ => ("TextShell$Name", "reserved", "I", false)
def tyX3 : Nat → FieldType := fun k => match k with
  | 0 => .object "TextShell$Row"
  | 1 => .int
  | 2 => .object "TextShell$Name"
  | 3 => .object "TextShell$Name"
  | 4 => .object "TextShell$Row"
  | 5 => .boolean
  | 6 => .object "TextShell$Tree"
  | 7 => .object "TextShell$Row"
  | 8 => .int
  | _ => .int
theorem nmX3 : ∀ a, a < 10 → ∀ b, b < 10 → a ≠ b → (TX3 a).2.1 ≠ (TX3 b).2.1 := by decide +kernel
theorem tyX3_ok : ∀ k, k < 10 → parseFieldDescriptor (TX3 k).2.2.1 = some (tyX3 k) := by decide +kernel
abbrev cX3_init : ByteArray := prog_5_method_1_code
def yX3_init : MethodName := ⟨RX3, "<init>", "(LTextShell$Row;I)V"⟩
def RX4 : String := "TextShell$Node"
def TX4 : u_T := fun k => match k with
  | 0 => ("TextShell$Node", "name", "LTextShell$Row;", false)
  | 1 => ("TextShell$Node", "parent", "LTextShell$Node;", false)
  | 2 => ("TextShell$Node", "next", "LTextShell$Node;", false)
  | 3 => ("TextShell$Node", "first", "LTextShell$Node;", false)
  | 4 => ("TextShell$Node", "root", "LTextShell$Node;", true)
  | 5 => ("TextShell$Node", "data", "LTextShell$Row;", true)
  | 6 => ("TextShell$Node", "gone", "Z", false)
  | 7 => ("TextShell$Node", "part", "I", false)
  | 8 => ("TextShell$Node", "fits", "Z", false)
  | 9 => ("TextShell$Node", "files", "I", false)
  | 10 => ("TextShell$Node", "directories", "I", false)
  | _ => ("TextShell$Node", "bytes", "I", false)
def tyX4 : Nat → FieldType := fun k => match k with
  | 0 => .object "TextShell$Row"
  | 1 => .object "TextShell$Node"
  | 2 => .object "TextShell$Node"
  | 3 => .object "TextShell$Node"
  | 4 => .object "TextShell$Node"
  | 5 => .object "TextShell$Row"
  | 6 => .boolean
  | 7 => .int
  | 8 => .boolean
  | 9 => .int
  | 10 => .int
  | _ => .int
theorem nmX4 : ∀ a, a < 12 → ∀ b, b < 12 → a ≠ b → (TX4 a).2.1 ≠ (TX4 b).2.1 := by decide +kernel
theorem tyX4_ok : ∀ k, k < 12 → parseFieldDescriptor (TX4 k).2.2.1 = some (tyX4 k) := by decide +kernel
abbrev cX4_init : ByteArray := prog_6_method_1_code
def yX4_init : MethodName := ⟨RX4, "<init>", "(LTextShell$Row;LTextShell$Node;Z)V"⟩
def RX5 : String := "TextShell$Reader"
def TX5 : u_T := fun k => match k with
  | 0 => ("TextShell$Reader", "memory", "LTextShell$Memory;", true)
  | 1 => ("TextShell$Reader", "frames", "[LTextShell$Frame;", false)
  | 2 => ("TextShell$Reader", "depth", "I", false)
  | 3 => ("TextShell$Reader", "in", "LTextShell$Stream;", false)
  | 4 => ("TextShell$Reader", "code", "[I", false)
  | 5 => ("TextShell$Reader", "codes", "I", false)
  | 6 => ("TextShell$Reader", "scripts", "[LTextShell$Tree;", false)
  | 7 => ("TextShell$Reader", "scriptCount", "I", false)
  | 8 => ("TextShell$Reader", "spelled", "LTextShell$Row;", true)
  | 9 => ("TextShell$Reader", "fault", "I", false)
  | 10 => ("TextShell$Reader", "faultLine", "I", false)
  | 11 => ("TextShell$Reader", "nested", "I", false)
  | 12 => ("TextShell$Reader", "inner", "I", false)
  | 13 => ("TextShell$Reader", "commands", "I", false)
  | 14 => ("TextShell$Reader", "source", "I", false)
  | 15 => ("TextShell$Reader", "due", "I", false)
  | 16 => ("TextShell$Reader", "token", "I", false)
  | 17 => ("TextShell$Reader", "tokenLine", "I", false)
  | 18 => ("TextShell$Reader", "tokenFollows", "Z", false)
  | 19 => ("TextShell$Reader", "reserved", "I", false)
  | 20 => ("TextShell$Reader", "word", "LTextShell$Tree;", false)
  | _ => ("TextShell$Reader", "script", "LTextShell$Tree;", false)
def tyX5 : Nat → FieldType := fun k => match k with
  | 0 => .object "TextShell$Memory"
  | 1 => .array (.object "TextShell$Frame")
  | 2 => .int
  | 3 => .object "TextShell$Stream"
  | 4 => .array .int
  | 5 => .int
  | 6 => .array (.object "TextShell$Tree")
  | 7 => .int
  | 8 => .object "TextShell$Row"
  | 9 => .int
  | 10 => .int
  | 11 => .int
  | 12 => .int
  | 13 => .int
  | 14 => .int
  | 15 => .int
  | 16 => .int
  | 17 => .int
  | 18 => .boolean
  | 19 => .int
  | 20 => .object "TextShell$Tree"
  | _ => .object "TextShell$Tree"
theorem nmX5 : ∀ a, a < 22 → ∀ b, b < 22 → a ≠ b → (TX5 a).2.1 ≠ (TX5 b).2.1 := by decide +kernel
theorem tyX5_ok : ∀ k, k < 22 → parseFieldDescriptor (TX5 k).2.2.1 = some (tyX5 k) := by decide +kernel
abbrev cX5_init : ByteArray := prog_7_method_1_code
def yX5_init : MethodName := ⟨RX5, "<init>", "(LTextShell$Memory;)V"⟩
abbrev cX5_parse : ByteArray := prog_7_method_2_code
def yX5_parse : MethodName := ⟨RX5, "parse", "(LTextShell$Row;)Z"⟩
abbrev cX5_begins : ByteArray := prog_7_method_6_code
def yX5_begins : MethodName := ⟨RX5, "begins", "(I)Z"⟩
abbrev cX5_enter : ByteArray := prog_7_method_8_code
def yX5_enter : MethodName := ⟨RX5, "enter", "(IILTextShell$Frame;)LTextShell$Frame;"⟩
abbrev cX5_top : ByteArray := prog_7_method_9_code
def yX5_top : MethodName := ⟨RX5, "top", "()LTextShell$Frame;"⟩
abbrev cX5_openText : ByteArray := prog_7_method_10_code
def yX5_openText : MethodName := ⟨RX5, "openText", "(LTextShell$Row;ILTextShell$Stream;)LTextShell$Frame;"⟩
abbrev cX5_look : ByteArray := prog_7_method_11_code
def yX5_look : MethodName := ⟨RX5, "look", "()I"⟩
abbrev cX5_pass : ByteArray := prog_7_method_13_code
def yX5_pass : MethodName := ⟨RX5, "pass", "(I)V"⟩
abbrev cX5_told : ByteArray := prog_7_method_14_code
def yX5_told : MethodName := ⟨RX5, "told", "(IIZ)LTextShell$Row;"⟩
abbrev cX5_emit : ByteArray := prog_7_method_15_code
def yX5_emit : MethodName := ⟨RX5, "emit", "(I)V"⟩
abbrev cX5_cutCode : ByteArray := prog_7_method_17_code
def yX5_cutCode : MethodName := ⟨RX5, "cutCode", "(I)[I"⟩
abbrev cX5_nextToken : ByteArray := prog_7_method_18_code
def yX5_nextToken : MethodName := ⟨RX5, "nextToken", "(LTextShell$Frame;)V"⟩
abbrev cX5_skipBlanks : ByteArray := prog_7_method_19_code
def yX5_skipBlanks : MethodName := ⟨RX5, "skipBlanks", "(LTextShell$Frame;)Z"⟩
abbrev cX5_endsWord : ByteArray := prog_7_method_20_code
def yX5_endsWord : MethodName := ⟨RX5, "endsWord", "(I)Z"⟩
abbrev cX5_operator : ByteArray := prog_7_method_21_code
def yX5_operator : MethodName := ⟨RX5, "operator", "(I)I"⟩
abbrev cX5_endWord : ByteArray := prog_7_method_23_code
def yX5_endWord : MethodName := ⟨RX5, "endWord", "(LTextShell$Frame;)V"⟩
abbrev cX5_isPlain : ByteArray := prog_7_method_24_code
def yX5_isPlain : MethodName := ⟨RX5, "isPlain", "(LTextShell$Tree;)Z"⟩
abbrev cX5_reservedAs : ByteArray := prog_7_method_26_code
def yX5_reservedAs : MethodName := ⟨RX5, "reservedAs", "(LTextShell$Tree;)I"⟩
abbrev cX5_replaced : ByteArray := prog_7_method_27_code
def yX5_replaced : MethodName := ⟨RX5, "replaced", "(Z)Z"⟩
abbrev cX5_accept : ByteArray := prog_7_method_29_code
def yX5_accept : MethodName := ⟨RX5, "accept", "(LTextShell$Frame;)V"⟩
abbrev cX5_isRedirection : ByteArray := prog_7_method_30_code
def yX5_isRedirection : MethodName := ⟨RX5, "isRedirection", "(I)Z"⟩
abbrev cX5_atBegin : ByteArray := prog_7_method_31_code
def yX5_atBegin : MethodName := ⟨RX5, "atBegin", "(LTextShell$Frame;)V"⟩
abbrev cX5_closeByToken : ByteArray := prog_7_method_52_code
def yX5_closeByToken : MethodName := ⟨RX5, "closeByToken", "(LTextShell$Frame;)V"⟩
abbrev cX5_endText : ByteArray := prog_7_method_57_code
def yX5_endText : MethodName := ⟨RX5, "endText", "(LTextShell$Frame;)V"⟩
abbrev cX5_newline : ByteArray := prog_7_method_62_code
def yX5_newline : MethodName := ⟨RX5, "newline", "(LTextShell$Frame;)V"⟩
abbrev cX5_bareSign : ByteArray := prog_7_method_70_code
def yX5_bareSign : MethodName := ⟨RX5, "bareSign", "(LTextShell$Frame;)V"⟩
def RX6 : String := "TextShell$Row"
def TX6 : u_T := fun k => match k with
  | 0 => ("TextShell$Row", "signs", "[C", false)
  | _ => ("TextShell$Row", "length", "I", false)
def tyX6 : Nat → FieldType := fun k => match k with
  | 0 => .array .char
  | _ => .int
theorem nmX6 : ∀ a, a < 2 → ∀ b, b < 2 → a ≠ b → (TX6 a).2.1 ≠ (TX6 b).2.1 := by decide +kernel
theorem tyX6_ok : ∀ k, k < 2 → parseFieldDescriptor (TX6 k).2.2.1 = some (tyX6 k) := by decide +kernel
abbrev cX6_init : ByteArray := prog_8_method_1_code
def yX6_init : MethodName := ⟨RX6, "<init>", "(I)V"⟩
abbrev cX6_at : ByteArray := prog_8_method_2_code
def yX6_at : MethodName := ⟨RX6, "at", "(I)I"⟩
abbrev cX6_add : ByteArray := prog_8_method_4_code
def yX6_add : MethodName := ⟨RX6, "add", "(I)V"⟩
abbrev cX6_addText : ByteArray := prog_8_method_7_code
def yX6_addText : MethodName := ⟨RX6, "addText", "(Ljava/lang/String;)V"⟩
abbrev cX6_part : ByteArray := prog_8_method_9_code
def yX6_part : MethodName := ⟨RX6, "part", "(II)LTextShell$Row;"⟩
abbrev cX6_same : ByteArray := prog_8_method_11_code
def yX6_same : MethodName := ⟨RX6, "same", "(LTextShell$Row;)Z"⟩
abbrev cX6_place : ByteArray := prog_8_method_15_code
def yX6_place : MethodName := ⟨RX6, "place", "(III)I"⟩
abbrev cX6_isName : ByteArray := prog_8_method_16_code
def yX6_isName : MethodName := ⟨RX6, "isName", "()Z"⟩
abbrev cX6_isNameUpTo : ByteArray := prog_8_method_17_code
def yX6_isNameUpTo : MethodName := ⟨RX6, "isNameUpTo", "(I)Z"⟩
abbrev cX6_isText : ByteArray := prog_8_method_18_code
def yX6_isText : MethodName := ⟨RX6, "isText", "()Z"⟩
abbrev cX6_isAliasText : ByteArray := prog_8_method_19_code
def yX6_isAliasText : MethodName := ⟨RX6, "isAliasText", "()Z"⟩
def RX7 : String := "TextShell$Shell"
def TX7 : u_T := fun k => match k with
  | 0 => ("TextShell$Shell", "memory", "LTextShell$Memory;", true)
  | 1 => ("TextShell$Shell", "reader", "LTextShell$Reader;", true)
  | 2 => ("TextShell$Shell", "expander", "LTextShell$Expander;", false)
  | 3 => ("TextShell$Shell", "tools", "LTextShell$Tools;", false)
  | 4 => ("TextShell$Shell", "base", "[LTextShell$Stream;", true)
  | 5 => ("TextShell$Shell", "open", "[LTextShell$Stream;", true)
  | 6 => ("TextShell$Shell", "closed", "LTextShell$Stream;", true)
  | 7 => ("TextShell$Shell", "savedStreams", "[LTextShell$Stream;", false)
  | 8 => ("TextShell$Shell", "savedNumbers", "[I", false)
  | 9 => ("TextShell$Shell", "redirected", "I", false)
  | 10 => ("TextShell$Shell", "lentNames", "[LTextShell$Name;", false)
  | 11 => ("TextShell$Shell", "lentValues", "[LTextShell$Row;", false)
  | 12 => ("TextShell$Shell", "lent", "I", false)
  | 13 => ("TextShell$Shell", "status", "I", false)
  | 14 => ("TextShell$Shell", "signal", "I", false)
  | 15 => ("TextShell$Shell", "leaving", "I", false)
  | 16 => ("TextShell$Shell", "level", "I", false)
  | 17 => ("TextShell$Shell", "shields", "I", false)
  | 18 => ("TextShell$Shell", "work", "I", false)
  | 19 => ("TextShell$Shell", "simples", "I", false)
  | 20 => ("TextShell$Shell", "most", "I", false)
  | 21 => ("TextShell$Shell", "halted", "I", false)
  | 22 => ("TextShell$Shell", "substituted", "I", false)
  | _ => ("TextShell$Shell", "captures", "[LTextShell$Stream;", true)
def tyX7 : Nat → FieldType := fun k => match k with
  | 0 => .object "TextShell$Memory"
  | 1 => .object "TextShell$Reader"
  | 2 => .object "TextShell$Expander"
  | 3 => .object "TextShell$Tools"
  | 4 => .array (.object "TextShell$Stream")
  | 5 => .array (.object "TextShell$Stream")
  | 6 => .object "TextShell$Stream"
  | 7 => .array (.object "TextShell$Stream")
  | 8 => .array .int
  | 9 => .int
  | 10 => .array (.object "TextShell$Name")
  | 11 => .array (.object "TextShell$Row")
  | 12 => .int
  | 13 => .int
  | 14 => .int
  | 15 => .int
  | 16 => .int
  | 17 => .int
  | 18 => .int
  | 19 => .int
  | 20 => .int
  | 21 => .int
  | 22 => .int
  | _ => .array (.object "TextShell$Stream")
theorem nmX7 : ∀ a, a < 24 → ∀ b, b < 24 → a ≠ b → (TX7 a).2.1 ≠ (TX7 b).2.1 := by decide +kernel
theorem tyX7_ok : ∀ k, k < 24 → parseFieldDescriptor (TX7 k).2.2.1 = some (tyX7 k) := by decide +kernel
abbrev cX7_init : ByteArray := prog_9_method_1_code
def yX7_init : MethodName := ⟨RX7, "<init>", "(LTextShell$Memory;LTextShell$Reader;)V"⟩
def RX8 : String := "TextShell$Stream"
def TX8 : u_T := fun k => match k with
  | 0 => ("TextShell$Stream", "data", "LTextShell$Row;", true)
  | 1 => ("TextShell$Stream", "file", "LTextShell$Node;", true)
  | 2 => ("TextShell$Stream", "reading", "Z", true)
  | 3 => ("TextShell$Stream", "most", "I", true)
  | 4 => ("TextShell$Stream", "at", "I", false)
  | 5 => ("TextShell$Stream", "line", "I", false)
  | 6 => ("TextShell$Stream", "under", "LTextShell$Stream;", false)
  | 7 => ("TextShell$Stream", "alias", "LTextShell$Name;", false)
  | _ => ("TextShell$Stream", "aliases", "I", false)
def tyX8 : Nat → FieldType := fun k => match k with
  | 0 => .object "TextShell$Row"
  | 1 => .object "TextShell$Node"
  | 2 => .boolean
  | 3 => .int
  | 4 => .int
  | 5 => .int
  | 6 => .object "TextShell$Stream"
  | 7 => .object "TextShell$Name"
  | _ => .int
theorem nmX8 : ∀ a, a < 9 → ∀ b, b < 9 → a ≠ b → (TX8 a).2.1 ≠ (TX8 b).2.1 := by decide +kernel
theorem tyX8_ok : ∀ k, k < 9 → parseFieldDescriptor (TX8 k).2.2.1 = some (tyX8 k) := by decide +kernel
abbrev cX8_init : ByteArray := prog_10_method_1_code
def yX8_init : MethodName := ⟨RX8, "<init>", "(LTextShell$Row;LTextShell$Node;ZI)V"⟩
abbrev cX8_text : ByteArray := prog_10_method_2_code
def yX8_text : MethodName := ⟨RX8, "text", "(LTextShell$Row;ILTextShell$Stream;LTextShell$Name;)LTextShell$Stream;"⟩
def RX9 : String := "TextShell$Sum"
def TX9 : u_T := fun k => match k with
  | 0 => ("TextShell$Sum", "memory", "LTextShell$Memory;", true)
  | 1 => ("TextShell$Sum", "numbers", "[J", true)
  | 2 => ("TextShell$Sum", "numberTop", "I", false)
  | 3 => ("TextShell$Sum", "entries", "[I", true)
  | 4 => ("TextShell$Sum", "entryTop", "I", false)
  | 5 => ("TextShell$Sum", "text", "LTextShell$Row;", false)
  | 6 => ("TextShell$Sum", "at", "I", false)
  | 7 => ("TextShell$Sum", "spelled", "LTextShell$Row;", true)
  | 8 => ("TextShell$Sum", "live", "Z", false)
  | 9 => ("TextShell$Sum", "nested", "I", false)
  | _ => ("TextShell$Sum", "wrong", "Z", false)
def tyX9 : Nat → FieldType := fun k => match k with
  | 0 => .object "TextShell$Memory"
  | 1 => .array .long
  | 2 => .int
  | 3 => .array .int
  | 4 => .int
  | 5 => .object "TextShell$Row"
  | 6 => .int
  | 7 => .object "TextShell$Row"
  | 8 => .boolean
  | 9 => .int
  | _ => .boolean
theorem nmX9 : ∀ a, a < 11 → ∀ b, b < 11 → a ≠ b → (TX9 a).2.1 ≠ (TX9 b).2.1 := by decide +kernel
theorem tyX9_ok : ∀ k, k < 11 → parseFieldDescriptor (TX9 k).2.2.1 = some (tyX9 k) := by decide +kernel
abbrev cX9_init : ByteArray := prog_11_method_1_code
def yX9_init : MethodName := ⟨RX9, "<init>", "(LTextShell$Memory;)V"⟩
def RX10 : String := "TextShell$Tools"
def TX10 : u_T := fun k => match k with
  | 0 => ("TextShell$Tools", "memory", "LTextShell$Memory;", true)
  | 1 => ("TextShell$Tools", "shell", "LTextShell$Shell;", true)
  | 2 => ("TextShell$Tools", "expander", "LTextShell$Expander;", true)
  | 3 => ("TextShell$Tools", "text", "LTextShell$Row;", true)
  | 4 => ("TextShell$Tools", "made", "LTextShell$Row;", true)
  | 5 => ("TextShell$Tools", "lines", "[I", false)
  | 6 => ("TextShell$Tools", "order", "[I", false)
  | 7 => ("TextShell$Tools", "spare", "[I", false)
  | 8 => ("TextShell$Tools", "lineCount", "I", false)
  | 9 => ("TextShell$Tools", "from", "LTextShell$Row;", true)
  | 10 => ("TextShell$Tools", "table", "[I", true)
  | 11 => ("TextShell$Tools", "known", "[Z", true)
  | 12 => ("TextShell$Tools", "walkA", "[I", true)
  | 13 => ("TextShell$Tools", "walkB", "[I", true)
  | 14 => ("TextShell$Tools", "first", "I", false)
  | 15 => ("TextShell$Tools", "words", "I", false)
  | 16 => ("TextShell$Tools", "numeric", "Z", false)
  | _ => ("TextShell$Tools", "reverse", "Z", false)
def tyX10 : Nat → FieldType := fun k => match k with
  | 0 => .object "TextShell$Memory"
  | 1 => .object "TextShell$Shell"
  | 2 => .object "TextShell$Expander"
  | 3 => .object "TextShell$Row"
  | 4 => .object "TextShell$Row"
  | 5 => .array .int
  | 6 => .array .int
  | 7 => .array .int
  | 8 => .int
  | 9 => .object "TextShell$Row"
  | 10 => .array .int
  | 11 => .array .boolean
  | 12 => .array .int
  | 13 => .array .int
  | 14 => .int
  | 15 => .int
  | 16 => .boolean
  | _ => .boolean
theorem nmX10 : ∀ a, a < 18 → ∀ b, b < 18 → a ≠ b → (TX10 a).2.1 ≠ (TX10 b).2.1 := by decide +kernel
theorem tyX10_ok : ∀ k, k < 18 → parseFieldDescriptor (TX10 k).2.2.1 = some (tyX10 k) := by decide +kernel
abbrev cX10_init : ByteArray := prog_12_method_1_code
def yX10_init : MethodName := ⟨RX10, "<init>", "(LTextShell$Memory;LTextShell$Shell;LTextShell$Expander;)V"⟩
def RX11 : String := "TextShell$Tree"
def TX11 : u_T := fun k => match k with
  | 0 => ("TextShell$Tree", "kind", "I", false)
  | 1 => ("TextShell$Tree", "next", "LTextShell$Tree;", false)
  | 2 => ("TextShell$Tree", "link", "I", false)
  | 3 => ("TextShell$Tree", "not", "Z", false)
  | 4 => ("TextShell$Tree", "background", "Z", false)
  | 5 => ("TextShell$Tree", "in", "Z", false)
  | 6 => ("TextShell$Tree", "number", "I", false)
  | 7 => ("TextShell$Tree", "words", "LTextShell$Tree;", false)
  | 8 => ("TextShell$Tree", "head", "LTextShell$Tree;", false)
  | 9 => ("TextShell$Tree", "test", "LTextShell$Tree;", false)
  | 10 => ("TextShell$Tree", "body", "LTextShell$Tree;", false)
  | 11 => ("TextShell$Tree", "rest", "LTextShell$Tree;", false)
  | 12 => ("TextShell$Tree", "name", "LTextShell$Name;", false)
  | 13 => ("TextShell$Tree", "code", "[I", false)
  | _ => ("TextShell$Tree", "told", "LTextShell$Row;", false)
def tyX11 : Nat → FieldType := fun k => match k with
  | 0 => .int
  | 1 => .object "TextShell$Tree"
  | 2 => .int
  | 3 => .boolean
  | 4 => .boolean
  | 5 => .boolean
  | 6 => .int
  | 7 => .object "TextShell$Tree"
  | 8 => .object "TextShell$Tree"
  | 9 => .object "TextShell$Tree"
  | 10 => .object "TextShell$Tree"
  | 11 => .object "TextShell$Tree"
  | 12 => .object "TextShell$Name"
  | 13 => .array .int
  | _ => .object "TextShell$Row"
theorem nmX11 : ∀ a, a < 15 → ∀ b, b < 15 → a ≠ b → (TX11 a).2.1 ≠ (TX11 b).2.1 := by decide +kernel
theorem tyX11_ok : ∀ k, k < 15 → parseFieldDescriptor (TX11 k).2.2.1 = some (tyX11 k) := by decide +kernel
abbrev cX11_init : ByteArray := prog_13_method_1_code
def yX11_init : MethodName := ⟨RX11, "<init>", "(I)V"⟩
def RX12 : String := "TextShell"
def TX12 : u_T := fun k => match k with
  | 0 => ("TextShell", "tape", "LTextShell$Row;", true)
  | 1 => ("TextShell", "printed", "LTextShell$Row;", true)
  | 2 => ("TextShell", "answer", "LTextShell$Row;", true)
  | 3 => ("TextShell", "memory", "LTextShell$Memory;", true)
  | 4 => ("TextShell", "reader", "LTextShell$Reader;", true)
  | 5 => ("TextShell", "shell", "LTextShell$Shell;", true)
  | 6 => ("TextShell", "script", "LTextShell$Tree;", false)
  | 7 => ("TextShell", "commands", "I", false)
  | 8 => ("TextShell", "hasPrint", "Z", false)
  | _ => ("TextShell", "hasAnswer", "Z", false)
def tyX12 : Nat → FieldType := fun k => match k with
  | 0 => .object "TextShell$Row"
  | 1 => .object "TextShell$Row"
  | 2 => .object "TextShell$Row"
  | 3 => .object "TextShell$Memory"
  | 4 => .object "TextShell$Reader"
  | 5 => .object "TextShell$Shell"
  | 6 => .object "TextShell$Tree"
  | 7 => .int
  | 8 => .boolean
  | _ => .boolean
theorem nmX12 : ∀ a, a < 10 → ∀ b, b < 10 → a ≠ b → (TX12 a).2.1 ≠ (TX12 b).2.1 := by decide +kernel
theorem tyX12_ok : ∀ k, k < 10 → parseFieldDescriptor (TX12 k).2.2.1 = some (tyX12 k) := by decide +kernel
abbrev cX12_init : ByteArray := prog_1_method_1_code
def yX12_init : MethodName := ⟨RX12, "<init>", "()V"⟩
abbrev cX12_feed : ByteArray := prog_1_method_2_code
def yX12_feed : MethodName := ⟨RX12, "feed", "(IIIII)I"⟩
abbrev cX12_feedFour : ByteArray := prog_1_method_3_code
def yX12_feedFour : MethodName := ⟨RX12, "feedFour", "(I)V"⟩
abbrev cX12_read : ByteArray := prog_1_method_4_code
def yX12_read : MethodName := ⟨RX12, "read", "(I)I"⟩
abbrev cX12_put : ByteArray := prog_1_method_8_code
def yX12_put : MethodName := ⟨RX12, "put", "(III)Z"⟩
abbrev cX12_putAlias : ByteArray := prog_1_method_9_code
def yX12_putAlias : MethodName := ⟨RX12, "putAlias", "(LTextShell$Row;LTextShell$Row;)Z"⟩
abbrev cX12_holds : ByteArray := prog_1_method_17_code
def yX12_holds : MethodName := ⟨RX12, "holds", "(II)Z"⟩
abbrev cX12_isTextSign : ByteArray := prog_1_method_18_code
def yX12_isTextSign : MethodName := ⟨RX12, "isTextSign", "(I)Z"⟩
abbrev cX12_isDigit : ByteArray := prog_1_method_19_code
def yX12_isDigit : MethodName := ⟨RX12, "isDigit", "(I)Z"⟩
abbrev cX12_beginsName : ByteArray := prog_1_method_20_code
def yX12_beginsName : MethodName := ⟨RX12, "beginsName", "(I)Z"⟩
def RX14 : String := "TextShellModel$Bytes"
def TX14 : u_T := fun k => match k with
  | 0 => ("TextShellModel$Bytes", "b", "[B", false)
  | _ => ("TextShellModel$Bytes", "n", "I", false)
def tyX14 : Nat → FieldType := fun k => match k with
  | 0 => .array .byte
  | _ => .int
theorem nmX14 : ∀ a, a < 2 → ∀ b, b < 2 → a ≠ b → (TX14 a).2.1 ≠ (TX14 b).2.1 := by decide +kernel
theorem tyX14_ok : ∀ k, k < 2 → parseFieldDescriptor (TX14 k).2.2.1 = some (tyX14 k) := by decide +kernel
abbrev cX14_init : ByteArray := prog_17_method_1_code
def yX14_init : MethodName := ⟨RX14, "<init>", "()V"⟩
abbrev cX14_add : ByteArray := prog_17_method_2_code
def yX14_add : MethodName := ⟨RX14, "add", "(I)V"⟩
def RX16 : String := "TextShellModel$Cmd"
def RX18 : String := "TextShellModel$Entry"
def TX18 : u_T := fun k => match k with
  | 0 => ("TextShellModel$Entry", "name", "[B", false)
  | 1 => ("TextShellModel$Entry", "value", "[B", false)
  | 2 => ("TextShellModel$Entry", "function", "LTextShellModel$Cmd;", false)
  | 3 => ("TextShellModel$Entry", "set", "Z", false)
  | 4 => ("TextShellModel$Entry", "fixed", "Z", false)
  | 5 => ("TextShellModel$Entry", "level", "I", false)
  | 6 => ("TextShellModel$Entry", "table", "LTextShellModel$Table;", false)
  | _ => ("TextShellModel$Entry", "next", "LTextShellModel$Entry;", false)
def tyX18 : Nat → FieldType := fun k => match k with
  | 0 => .array .byte
  | 1 => .array .byte
  | 2 => .object "TextShellModel$Cmd"
  | 3 => .boolean
  | 4 => .boolean
  | 5 => .int
  | 6 => .object "TextShellModel$Table"
  | _ => .object "TextShellModel$Entry"
theorem nmX18 : ∀ a, a < 8 → ∀ b, b < 8 → a ≠ b → (TX18 a).2.1 ≠ (TX18 b).2.1 := by decide +kernel
theorem tyX18_ok : ∀ k, k < 8 → parseFieldDescriptor (TX18 k).2.2.1 = some (tyX18 k) := by decide +kernel
abbrev cX18_init : ByteArray := prog_21_method_1_code
def yX18_init : MethodName := ⟨RX18, "<init>", "()V"⟩
def RX19 : String := "TextShellModel$Input"
def TX19 : u_T := fun k => match k with
  | 0 => ("TextShellModel$Input", "b", "[B", false)
  | 1 => ("TextShellModel$Input", "n", "I", false)
  | 2 => ("TextShellModel$Input", "pos", "I", false)
  | 3 => ("TextShellModel$Input", "line", "I", false)
  | 4 => ("TextShellModel$Input", "lines", "[I", false)
  | 5 => ("TextShellModel$Input", "alias", "LTextShellModel$Entry;", false)
  | 6 => ("TextShellModel$Input", "below", "LTextShellModel$Input;", false)
  | _ => ("TextShellModel$Input", "up", "LTextShellModel$Input;", false)
def tyX19 : Nat → FieldType := fun k => match k with
  | 0 => .array .byte
  | 1 => .int
  | 2 => .int
  | 3 => .int
  | 4 => .array .int
  | 5 => .object "TextShellModel$Entry"
  | 6 => .object "TextShellModel$Input"
  | _ => .object "TextShellModel$Input"
theorem nmX19 : ∀ a, a < 8 → ∀ b, b < 8 → a ≠ b → (TX19 a).2.1 ≠ (TX19 b).2.1 := by decide +kernel
theorem tyX19_ok : ∀ k, k < 8 → parseFieldDescriptor (TX19 k).2.2.1 = some (tyX19 k) := by decide +kernel
abbrev cX19_init : ByteArray := prog_22_method_1_code
def yX19_init : MethodName := ⟨RX19, "<init>", "()V"⟩
def RX21 : String := "TextShellModel$Node"
def TX21 : u_T := fun k => match k with
  | 0 => ("TextShellModel$Node", "name", "[B", false)
  | 1 => ("TextShellModel$Node", "above", "LTextShellModel$Node;", false)
  | 2 => ("TextShellModel$Node", "first", "LTextShellModel$Node;", false)
  | 3 => ("TextShellModel$Node", "next", "LTextShellModel$Node;", false)
  | 4 => ("TextShellModel$Node", "directory", "Z", false)
  | 5 => ("TextShellModel$Node", "gone", "Z", false)
  | _ => ("TextShellModel$Node", "data", "LTextShellModel$Bytes;", true)
def tyX21 : Nat → FieldType := fun k => match k with
  | 0 => .array .byte
  | 1 => .object "TextShellModel$Node"
  | 2 => .object "TextShellModel$Node"
  | 3 => .object "TextShellModel$Node"
  | 4 => .boolean
  | 5 => .boolean
  | _ => .object "TextShellModel$Bytes"
theorem nmX21 : ∀ a, a < 7 → ∀ b, b < 7 → a ≠ b → (TX21 a).2.1 ≠ (TX21 b).2.1 := by decide +kernel
theorem tyX21_ok : ∀ k, k < 7 → parseFieldDescriptor (TX21 k).2.2.1 = some (tyX21 k) := by decide +kernel
abbrev cX21_init : ByteArray := prog_24_method_1_code
def yX21_init : MethodName := ⟨RX21, "<init>", "([BZ)V"⟩
def RX22 : String := "TextShellModel$Open"
def TX22 : u_T := fun k => match k with
  | 0 => ("TextShellModel$Open", "kind", "I", false)
  | 1 => ("TextShellModel$Open", "pos", "I", false)
  | 2 => ("TextShellModel$Open", "limit", "I", false)
  | 3 => ("TextShellModel$Open", "bytes", "LTextShellModel$Bytes;", false)
  | _ => ("TextShellModel$Open", "file", "LTextShellModel$Node;", false)
def tyX22 : Nat → FieldType := fun k => match k with
  | 0 => .int
  | 1 => .int
  | 2 => .int
  | 3 => .object "TextShellModel$Bytes"
  | _ => .object "TextShellModel$Node"
theorem nmX22 : ∀ a, a < 5 → ∀ b, b < 5 → a ≠ b → (TX22 a).2.1 ≠ (TX22 b).2.1 := by decide +kernel
theorem tyX22_ok : ∀ k, k < 5 → parseFieldDescriptor (TX22 k).2.2.1 = some (tyX22 k) := by decide +kernel
abbrev cX22_init : ByteArray := prog_25_method_1_code
def yX22_init : MethodName := ⟨RX22, "<init>", "()V"⟩
def RX23 : String := "TextShellModel$Part"
def TX23 : u_T := fun k => match k with
  | 0 => ("TextShellModel$Part", "kind", "I", false)
  | 1 => ("TextShellModel$Part", "text", "[B", false)
  | 2 => ("TextShellModel$Part", "parts", "LTextShellModel$Part;", false)
  | 3 => ("TextShellModel$Part", "next", "LTextShellModel$Part;", false)
  | 4 => ("TextShellModel$Part", "sign", "I", false)
  | 5 => ("TextShellModel$Part", "colon", "Z", false)
  | _ => ("TextShellModel$Part", "script", "LTextShellModel$AndOr;", false)
def tyX23 : Nat → FieldType := fun k => match k with
  | 0 => .int
  | 1 => .array .byte
  | 2 => .object "TextShellModel$Part"
  | 3 => .object "TextShellModel$Part"
  | 4 => .int
  | 5 => .boolean
  | _ => .object "TextShellModel$AndOr"
theorem nmX23 : ∀ a, a < 7 → ∀ b, b < 7 → a ≠ b → (TX23 a).2.1 ≠ (TX23 b).2.1 := by decide +kernel
theorem tyX23_ok : ∀ k, k < 7 → parseFieldDescriptor (TX23 k).2.2.1 = some (tyX23 k) := by decide +kernel
abbrev cX23_init : ByteArray := prog_26_method_1_code
def yX23_init : MethodName := ⟨RX23, "<init>", "()V"⟩
def RX25 : String := "TextShellModel$Reader"
def TX25 : u_T := fun k => match k with
  | 0 => ("TextShellModel$Reader", "house", "LTextShellModel;", true)
  | 1 => ("TextShellModel$Reader", "in", "LTextShellModel$Input;", false)
  | 2 => ("TextShellModel$Reader", "limit", "LTextShellModel$Input;", false)
  | 3 => ("TextShellModel$Reader", "token", "I", false)
  | 4 => ("TextShellModel$Reader", "tokenLine", "I", false)
  | 5 => ("TextShellModel$Reader", "digit", "I", false)
  | 6 => ("TextShellModel$Reader", "word", "LTextShellModel$Word;", false)
  | 7 => ("TextShellModel$Reader", "tokenIn", "LTextShellModel$Input;", false)
  | 8 => ("TextShellModel$Reader", "follows", "Z", false)
  | 9 => ("TextShellModel$Reader", "first", "LTextShellModel$Doc;", false)
  | 10 => ("TextShellModel$Reader", "last", "LTextShellModel$Doc;", false)
  | 11 => ("TextShellModel$Reader", "depth", "I", false)
  | 12 => ("TextShellModel$Reader", "inner", "I", false)
  | 13 => ("TextShellModel$Reader", "commands", "I", false)
  | 14 => ("TextShellModel$Reader", "tells", "Z", false)
  | 15 => ("TextShellModel$Reader", "rawDepth", "I", false)
  | _ => ("TextShellModel$Reader", "rawIn", "LTextShellModel$Input;", false)
def tyX25 : Nat → FieldType := fun k => match k with
  | 0 => .object "TextShellModel"
  | 1 => .object "TextShellModel$Input"
  | 2 => .object "TextShellModel$Input"
  | 3 => .int
  | 4 => .int
  | 5 => .int
  | 6 => .object "TextShellModel$Word"
  | 7 => .object "TextShellModel$Input"
  | 8 => .boolean
  | 9 => .object "TextShellModel$Doc"
  | 10 => .object "TextShellModel$Doc"
  | 11 => .int
  | 12 => .int
  | 13 => .int
  | 14 => .boolean
  | 15 => .int
  | _ => .object "TextShellModel$Input"
theorem nmX25 : ∀ a, a < 17 → ∀ b, b < 17 → a ≠ b → (TX25 a).2.1 ≠ (TX25 b).2.1 := by decide +kernel
theorem tyX25_ok : ∀ k, k < 17 → parseFieldDescriptor (TX25 k).2.2.1 = some (tyX25 k) := by decide +kernel
abbrev cX25_init : ByteArray := prog_28_method_1_code
def yX25_init : MethodName := ⟨RX25, "<init>", "(LTextShellModel;[BIIILTextShellModel$Input;)V"⟩
abbrev cX25_line : ByteArray := prog_28_method_2_code
def yX25_line : MethodName := ⟨RX25, "line", "()I"⟩
abbrev cX25_look : ByteArray := prog_28_method_3_code
def yX25_look : MethodName := ⟨RX25, "look", "()I"⟩
abbrev cX25_take : ByteArray := prog_28_method_4_code
def yX25_take : MethodName := ⟨RX25, "take", "()I"⟩
abbrev cX25_made : ByteArray := prog_28_method_7_code
def yX25_made : MethodName := ⟨RX25, "made", "(I)LTextShellModel$Part;"⟩
abbrev cX25_parts : ByteArray := prog_28_method_8_code
def yX25_parts : MethodName := ⟨RX25, "parts", "(I)LTextShellModel$Part;"⟩
abbrev cX25_linked : ByteArray := prog_28_method_9_code
def yX25_linked : MethodName := ⟨RX25, "linked", "(LTextShellModel$Part;LTextShellModel$Part;)LTextShellModel$Part;"⟩
abbrev cX25_ends : ByteArray := prog_28_method_10_code
def yX25_ends : MethodName := ⟨RX25, "ends", "(I)Z"⟩
abbrev cX25_flushed : ByteArray := prog_28_method_11_code
def yX25_flushed : MethodName := ⟨RX25, "flushed", "(II)LTextShellModel$Part;"⟩
abbrev cX25_isBlank : ByteArray := prog_28_method_23_code
def yX25_isBlank : MethodName := ⟨RX25, "isBlank", "(I)Z"⟩
abbrev cX25_next : ByteArray := prog_28_method_24_code
def yX25_next : MethodName := ⟨RX25, "next", "()V"⟩
abbrev cX25_aWord : ByteArray := prog_28_method_29_code
def yX25_aWord : MethodName := ⟨RX25, "aWord", "()V"⟩
abbrev cX25_plain : ByteArray := prog_28_method_30_code
def yX25_plain : MethodName := ⟨RX25, "plain", "()[B"⟩
abbrev cX25_isReserved : ByteArray := prog_28_method_32_code
def yX25_isReserved : MethodName := ⟨RX25, "isReserved", "()Z"⟩
abbrev cX25_begins : ByteArray := prog_28_method_33_code
def yX25_begins : MethodName := ⟨RX25, "begins", "([B)Z"⟩
abbrev cX25_closes : ByteArray := prog_28_method_34_code
def yX25_closes : MethodName := ⟨RX25, "closes", "([B)Z"⟩
abbrev cX25_aliases : ByteArray := prog_28_method_36_code
def yX25_aliases : MethodName := ⟨RX25, "aliases", "(ZZ)V"⟩
abbrev cX25_isFree : ByteArray := prog_28_method_37_code
def yX25_isFree : MethodName := ⟨RX25, "isFree", "(LTextShellModel$Entry;)Z"⟩
abbrev cX25_settle : ByteArray := prog_28_method_46_code
def yX25_settle : MethodName := ⟨RX25, "settle", "()V"⟩
abbrev cX25_script : ByteArray := prog_28_method_50_code
def yX25_script : MethodName := ⟨RX25, "script", "()LTextShellModel$AndOr;"⟩
def RX26 : String := "TextShellModel$Table"
def TX26 : u_T := fun k => match k with
  | 0 => ("TextShellModel$Table", "all", "Ljava/util/ArrayList;", true)
  | 1 => ("TextShellModel$Table", "heads", "[LTextShellModel$Entry;", true)
  | 2 => ("TextShellModel$Table", "many", "I", false)
  | _ => ("TextShellModel$Table", "fixed", "I", false)
def tyX26 : Nat → FieldType := fun k => match k with
  | 0 => .object "java/util/ArrayList"
  | 1 => .array (.object "TextShellModel$Entry")
  | 2 => .int
  | _ => .int
theorem nmX26 : ∀ a, a < 4 → ∀ b, b < 4 → a ≠ b → (TX26 a).2.1 ≠ (TX26 b).2.1 := by decide +kernel
theorem tyX26_ok : ∀ k, k < 4 → parseFieldDescriptor (TX26 k).2.2.1 = some (tyX26 k) := by decide +kernel
abbrev cX26_init : ByteArray := prog_29_method_1_code
def yX26_init : MethodName := ⟨RX26, "<init>", "()V"⟩
abbrev cX26_chain : ByteArray := prog_29_method_2_code
def yX26_chain : MethodName := ⟨RX26, "chain", "([B)I"⟩
abbrev cX26_find : ByteArray := prog_29_method_3_code
def yX26_find : MethodName := ⟨RX26, "find", "([BZ)LTextShellModel$Entry;"⟩
abbrev cX26_clear : ByteArray := prog_29_method_4_code
def yX26_clear : MethodName := ⟨RX26, "clear", "()V"⟩
def RX27 : String := "TextShellModel$Word"
def TX27 : u_T := fun k => match k with
  | 0 => ("TextShellModel$Word", "role", "I", false)
  | 1 => ("TextShellModel$Word", "number", "I", false)
  | 2 => ("TextShellModel$Word", "op", "I", false)
  | 3 => ("TextShellModel$Word", "line", "I", false)
  | 4 => ("TextShellModel$Word", "first", "LTextShellModel$Part;", false)
  | 5 => ("TextShellModel$Word", "raw", "[B", false)
  | 6 => ("TextShellModel$Word", "name", "[B", false)
  | 7 => ("TextShellModel$Word", "doc", "LTextShellModel$Doc;", false)
  | _ => ("TextShellModel$Word", "next", "LTextShellModel$Word;", false)
def tyX27 : Nat → FieldType := fun k => match k with
  | 0 => .int
  | 1 => .int
  | 2 => .int
  | 3 => .int
  | 4 => .object "TextShellModel$Part"
  | 5 => .array .byte
  | 6 => .array .byte
  | 7 => .object "TextShellModel$Doc"
  | _ => .object "TextShellModel$Word"
theorem nmX27 : ∀ a, a < 9 → ∀ b, b < 9 → a ≠ b → (TX27 a).2.1 ≠ (TX27 b).2.1 := by decide +kernel
theorem tyX27_ok : ∀ k, k < 9 → parseFieldDescriptor (TX27 k).2.2.1 = some (tyX27 k) := by decide +kernel
abbrev cX27_init : ByteArray := prog_30_method_1_code
def yX27_init : MethodName := ⟨RX27, "<init>", "()V"⟩
def RX28 : String := "TextShellModel"
def TX28 : u_T := fun k => match k with
  | 0 => ("TextShellModel", "small", "[[B", true)
  | 1 => ("TextShellModel", "emptyRow", "[B", true)
  | 2 => ("TextShellModel", "singles", "[[B", true)
  | 3 => ("TextShellModel", "stop", "Ljava/lang/IllegalStateException;", true)
  | 4 => ("TextShellModel", "fault", "I", false)
  | 5 => ("TextShellModel", "raw", "LTextShellModel$Bytes;", true)
  | 6 => ("TextShellModel", "run", "LTextShellModel$Bytes;", true)
  | 7 => ("TextShellModel", "rows", "[I", false)
  | 8 => ("TextShellModel", "source", "J", false)
  | 9 => ("TextShellModel", "readCommands", "I", false)
  | 10 => ("TextShellModel", "found", "LTextShellModel$AndOr;", false)
  | 11 => ("TextShellModel", "out", "LTextShellModel$Bytes;", false)
  | 12 => ("TextShellModel", "waiting", "LTextShellModel$Doc;", false)
  | 13 => ("TextShellModel", "latest", "LTextShellModel$Doc;", false)
  | 14 => ("TextShellModel", "root", "LTextShellModel$Node;", false)
  | 15 => ("TextShellModel", "here", "LTextShellModel$Node;", false)
  | 16 => ("TextShellModel", "files", "I", false)
  | 17 => ("TextShellModel", "directories", "I", false)
  | 18 => ("TextShellModel", "filled", "I", false)
  | 19 => ("TextShellModel", "placeIn", "LTextShellModel$Node;", false)
  | 20 => ("TextShellModel", "placeName", "[B", false)
  | 21 => ("TextShellModel", "listed", "Ljava/util/ArrayList;", true)
  | 22 => ("TextShellModel", "open", "[LTextShellModel$Open;", true)
  | 23 => ("TextShellModel", "work", "J", false)
  | 24 => ("TextShellModel", "variables", "LTextShellModel$Table;", true)
  | 25 => ("TextShellModel", "functions", "LTextShellModel$Table;", true)
  | 26 => ("TextShellModel", "aliases", "LTextShellModel$Table;", true)
  | 27 => ("TextShellModel", "parameters", "[[B", false)
  | 28 => ("TextShellModel", "firstParameter", "I", false)
  | 29 => ("TextShellModel", "manyParameters", "I", false)
  | 30 => ("TextShellModel", "optionE", "Z", false)
  | 31 => ("TextShellModel", "optionF", "Z", false)
  | 32 => ("TextShellModel", "optionU", "Z", false)
  | 33 => ("TextShellModel", "status", "I", false)
  | 34 => ("TextShellModel", "flow", "I", false)
  | 35 => ("TextShellModel", "loops", "I", false)
  | 36 => ("TextShellModel", "outOf", "I", false)
  | 37 => ("TextShellModel", "functionsAround", "I", false)
  | 38 => ("TextShellModel", "nest", "I", false)
  | 39 => ("TextShellModel", "quiet", "I", false)
  | 40 => ("TextShellModel", "most", "I", false)
  | 41 => ("TextShellModel", "simples", "I", false)
  | 42 => ("TextShellModel", "level", "I", false)
  | 43 => ("TextShellModel", "subStatus", "I", false)
  | 44 => ("TextShellModel", "stoppedByMost", "Z", false)
  | 45 => ("TextShellModel", "changed", "Ljava/util/ArrayList;", true)
  | 46 => ("TextShellModel", "oldValues", "[[B", false)
  | 47 => ("TextShellModel", "oldFunctions", "[LTextShellModel$Cmd;", false)
  | 48 => ("TextShellModel", "oldOthers", "[I", false)
  | 49 => ("TextShellModel", "homeName", "[B", true)
  | 50 => ("TextShellModel", "ifsName", "[B", true)
  | 51 => ("TextShellModel", "cells", "[[I", false)
  | 52 => ("TextShellModel", "top", "I", false)
  | 53 => ("TextShellModel", "chars", "I", false)
  | 54 => ("TextShellModel", "shell", "[B", true)
  | 55 => ("TextShellModel", "options", "[[B", true)
  | 56 => ("TextShellModel", "ifs", "[B", false)
  | 57 => ("TextShellModel", "pathBytes", "[B", false)
  | 58 => ("TextShellModel", "moreBytes", "[B", false)
  | 59 => ("TextShellModel", "pathEnds", "[I", false)
  | 60 => ("TextShellModel", "moreEnds", "[I", false)
  | 61 => ("TextShellModel", "pathNodes", "[LTextShellModel$Node;", false)
  | 62 => ("TextShellModel", "moreNodes", "[LTextShellModel$Node;", false)
  | 63 => ("TextShellModel", "pathMany", "I", false)
  | 64 => ("TextShellModel", "moreMany", "I", false)
  | 65 => ("TextShellModel", "sorted", "Ljava/util/ArrayList;", true)
  | 66 => ("TextShellModel", "partName", "[B", false)
  | 67 => ("TextShellModel", "partLong", "I", false)
  | 68 => ("TextShellModel", "partWild", "Z", false)
  | 69 => ("TextShellModel", "pathWork", "I", false)
  | 70 => ("TextShellModel", "pathChars", "I", false)
  | 71 => ("TextShellModel", "signs", "[I", false)
  | 72 => ("TextShellModel", "sets", "[J", false)
  | 73 => ("TextShellModel", "many", "I", false)
  | 74 => ("TextShellModel", "manySets", "I", false)
  | 75 => ("TextShellModel", "at", "[Z", false)
  | 76 => ("TextShellModel", "then", "[Z", false)
  | 77 => ("TextShellModel", "leastAt", "I", false)
  | 78 => ("TextShellModel", "mostAt", "I", false)
  | 79 => ("TextShellModel", "sum", "[B", false)
  | 80 => ("TextShellModel", "place", "I", false)
  | 81 => ("TextShellModel", "within", "I", false)
  | 82 => ("TextShellModel", "bad", "Z", false)
  | 83 => ("TextShellModel", "number", "J", false)
  | 84 => ("TextShellModel", "keptOnes", "Ljava/util/ArrayList;", true)
  | 85 => ("TextShellModel", "value", "J", false)
  | 86 => ("TextShellModel", "begins", "[I", false)
  | 87 => ("TextShellModel", "manyLines", "I", false)
  | 88 => ("TextShellModel", "setAt", "I", false)
  | 89 => ("TextShellModel", "low", "I", false)
  | 90 => ("TextShellModel", "high", "I", false)
  | 91 => ("TextShellModel", "thrown", "I", false)
  | 92 => ("TextShellModel", "tape", "LTextShellModel$Bytes;", true)
  | 93 => ("TextShellModel", "script", "LTextShellModel$AndOr;", false)
  | 94 => ("TextShellModel", "isThere", "Z", false)
  | 95 => ("TextShellModel", "isPrinted", "Z", false)
  | 96 => ("TextShellModel", "isAnswered", "Z", false)
  | 97 => ("TextShellModel", "commands", "I", false)
  | 98 => ("TextShellModel", "answerLength", "I", false)
  | 99 => ("TextShellModel", "printed", "LTextShellModel$Bytes;", true)
  | 100 => ("TextShellModel", "output", "LTextShellModel$Bytes;", true)
  | 101 => ("TextShellModel", "errors", "LTextShellModel$Bytes;", true)
  | 102 => ("TextShellModel", "answer", "LTextShellModel$Bytes;", true)
  | _ => ("TextShellModel", "input", "LTextShellModel$Open;", false)
def tyX28 : Nat → FieldType := fun k => match k with
  | 0 => .array (.array .byte)
  | 1 => .array .byte
  | 2 => .array (.array .byte)
  | 3 => .object "java/lang/IllegalStateException"
  | 4 => .int
  | 5 => .object "TextShellModel$Bytes"
  | 6 => .object "TextShellModel$Bytes"
  | 7 => .array .int
  | 8 => .long
  | 9 => .int
  | 10 => .object "TextShellModel$AndOr"
  | 11 => .object "TextShellModel$Bytes"
  | 12 => .object "TextShellModel$Doc"
  | 13 => .object "TextShellModel$Doc"
  | 14 => .object "TextShellModel$Node"
  | 15 => .object "TextShellModel$Node"
  | 16 => .int
  | 17 => .int
  | 18 => .int
  | 19 => .object "TextShellModel$Node"
  | 20 => .array .byte
  | 21 => .object "java/util/ArrayList"
  | 22 => .array (.object "TextShellModel$Open")
  | 23 => .long
  | 24 => .object "TextShellModel$Table"
  | 25 => .object "TextShellModel$Table"
  | 26 => .object "TextShellModel$Table"
  | 27 => .array (.array .byte)
  | 28 => .int
  | 29 => .int
  | 30 => .boolean
  | 31 => .boolean
  | 32 => .boolean
  | 33 => .int
  | 34 => .int
  | 35 => .int
  | 36 => .int
  | 37 => .int
  | 38 => .int
  | 39 => .int
  | 40 => .int
  | 41 => .int
  | 42 => .int
  | 43 => .int
  | 44 => .boolean
  | 45 => .object "java/util/ArrayList"
  | 46 => .array (.array .byte)
  | 47 => .array (.object "TextShellModel$Cmd")
  | 48 => .array .int
  | 49 => .array .byte
  | 50 => .array .byte
  | 51 => .array (.array .int)
  | 52 => .int
  | 53 => .int
  | 54 => .array .byte
  | 55 => .array (.array .byte)
  | 56 => .array .byte
  | 57 => .array .byte
  | 58 => .array .byte
  | 59 => .array .int
  | 60 => .array .int
  | 61 => .array (.object "TextShellModel$Node")
  | 62 => .array (.object "TextShellModel$Node")
  | 63 => .int
  | 64 => .int
  | 65 => .object "java/util/ArrayList"
  | 66 => .array .byte
  | 67 => .int
  | 68 => .boolean
  | 69 => .int
  | 70 => .int
  | 71 => .array .int
  | 72 => .array .long
  | 73 => .int
  | 74 => .int
  | 75 => .array .boolean
  | 76 => .array .boolean
  | 77 => .int
  | 78 => .int
  | 79 => .array .byte
  | 80 => .int
  | 81 => .int
  | 82 => .boolean
  | 83 => .long
  | 84 => .object "java/util/ArrayList"
  | 85 => .long
  | 86 => .array .int
  | 87 => .int
  | 88 => .int
  | 89 => .int
  | 90 => .int
  | 91 => .int
  | 92 => .object "TextShellModel$Bytes"
  | 93 => .object "TextShellModel$AndOr"
  | 94 => .boolean
  | 95 => .boolean
  | 96 => .boolean
  | 97 => .int
  | 98 => .int
  | 99 => .object "TextShellModel$Bytes"
  | 100 => .object "TextShellModel$Bytes"
  | 101 => .object "TextShellModel$Bytes"
  | 102 => .object "TextShellModel$Bytes"
  | _ => .object "TextShellModel$Open"
theorem nmX28 : ∀ a, a < 104 → ∀ b, b < 104 → a ≠ b → (TX28 a).2.1 ≠ (TX28 b).2.1 := by decide +kernel
theorem tyX28_ok : ∀ k, k < 104 → parseFieldDescriptor (TX28 k).2.2.1 = some (tyX28 k) := by decide +kernel
abbrev cX28_part : ByteArray := prog_15_method_1_code
def yX28_part : MethodName := ⟨RX28, "part", "([BII)[B"⟩
abbrev cX28_same : ByteArray := prog_15_method_2_code
def yX28_same : MethodName := ⟨RX28, "same", "([B[B)Z"⟩
abbrev cX28_is : ByteArray := prog_15_method_3_code
def yX28_is : MethodName := ⟨RX28, "is", "([BLjava/lang/String;)Z"⟩
abbrev cX28_oneByte : ByteArray := prog_15_method_7_code
def yX28_oneByte : MethodName := ⟨RX28, "oneByte", "(I)[B"⟩
abbrev cX28_rowOf : ByteArray := prog_15_method_8_code
def yX28_rowOf : MethodName := ⟨RX28, "rowOf", "([BII)[B"⟩
abbrev cX28_isLetter : ByteArray := prog_15_method_9_code
def yX28_isLetter : MethodName := ⟨RX28, "isLetter", "(I)Z"⟩
abbrev cX28_isDigit : ByteArray := prog_15_method_10_code
def yX28_isDigit : MethodName := ⟨RX28, "isDigit", "(I)Z"⟩
abbrev cX28_isName : ByteArray := prog_15_method_11_code
def yX28_isName : MethodName := ⟨RX28, "isName", "([B)Z"⟩
abbrev cX28_nameEnd : ByteArray := prog_15_method_12_code
def yX28_nameEnd : MethodName := ⟨RX28, "nameEnd", "([BI)I"⟩
abbrev cX28_isText : ByteArray := prog_15_method_13_code
def yX28_isText : MethodName := ⟨RX28, "isText", "([B)Z"⟩
abbrev cX28_isTextByte : ByteArray := prog_15_method_14_code
def yX28_isTextByte : MethodName := ⟨RX28, "isTextByte", "(I)Z"⟩
abbrev cX28_room : ByteArray := prog_15_method_16_code
def yX28_room : MethodName := ⟨RX28, "room", "(I)V"⟩
abbrev cX28_scriptOf : ByteArray := prog_15_method_17_code
def yX28_scriptOf : MethodName := ⟨RX28, "scriptOf", "([BIILTextShellModel$Input;)LTextShellModel$AndOr;"⟩
abbrev cX28_reads : ByteArray := prog_15_method_18_code
def yX28_reads : MethodName := ⟨RX28, "reads", "([B)Z"⟩
abbrev cX28_opened : ByteArray := prog_15_method_47_code
def yX28_opened : MethodName := ⟨RX28, "opened", "(ILTextShellModel$Bytes;ILTextShellModel$Node;)LTextShellModel$Open;"⟩
abbrev cX28_touch : ByteArray := prog_15_method_54_code
def yX28_touch : MethodName := ⟨RX28, "touch", "(LTextShellModel$Entry;)V"⟩
abbrev cX28_setTo : ByteArray := prog_15_method_57_code
def yX28_setTo : MethodName := ⟨RX28, "setTo", "(LTextShellModel$Entry;ZZ)V"⟩
abbrev cX28_change : ByteArray := prog_15_method_59_code
def yX28_change : MethodName := ⟨RX28, "change", "(LTextShellModel$Entry;[BZ)V"⟩
abbrev cX28_isAliasText : ByteArray := prog_15_method_177_code
def yX28_isAliasText : MethodName := ⟨RX28, "isAliasText", "([B)Z"⟩
abbrev cX28_init : ByteArray := prog_15_method_202_code
def yX28_init : MethodName := ⟨RX28, "<init>", "()V"⟩
abbrev cX28_fails : ByteArray := prog_15_method_204_code
def yX28_fails : MethodName := ⟨RX28, "fails", "(ZZ)Z"⟩
abbrev cX28_begin0 : ByteArray := prog_15_method_205_code
def yX28_begin0 : MethodName := ⟨RX28, "begin0", "()V"⟩
abbrev cX28_feed : ByteArray := prog_15_method_206_code
def yX28_feed : MethodName := ⟨RX28, "feed", "(IIIII)I"⟩
abbrev cX28_five : ByteArray := prog_15_method_207_code
def yX28_five : MethodName := ⟨RX28, "five", "(I)V"⟩
abbrev cX28_taken : ByteArray := prog_15_method_208_code
def yX28_taken : MethodName := ⟨RX28, "taken", "(I)[B"⟩
abbrev cX28_has_ : ByteArray := prog_15_method_209_code
def yX28_has_ : MethodName := ⟨RX28, "has", "(J)Z"⟩
abbrev cX28_read_ : ByteArray := prog_15_method_210_code
def yX28_read_ : MethodName := ⟨RX28, "read", "(I)I"⟩
abbrev cX28_put_ : ByteArray := prog_15_method_214_code
def yX28_put_ : MethodName := ⟨RX28, "put", "(III)Z"⟩
def RJxb5711 : String := "java/lang/IllegalStateException"
def TJxb5711 : u_T := fun k => match k with
  | _ => ("", "", "", false)
def RJ9 : String := "java/lang/Math"
abbrev cJ9_max_7cf53 : ByteArray := prog_43_method_65_code
def yJ9_max_7cf53 : MethodName := ⟨RJ9, "max", "(II)I"⟩
def RJ0 : String := "java/lang/String"
abbrev cJ0_length_8abf5 : ByteArray := prog_46_method_54_code
def yJ0_length_8abf5 : MethodName := ⟨RJ0, "length", "()I"⟩
abbrev cJ0_charAt_5068e : ByteArray := prog_46_method_56_code
def yJ0_charAt_5068e : MethodName := ⟨RJ0, "charAt", "(I)C"⟩
abbrev cJ0_coder_7d493 : ByteArray := prog_46_method_152_code
def yJ0_coder_7d493 : MethodName := ⟨RJ0, "coder", "()B"⟩
abbrev cJ0_isLatin1_aae02 : ByteArray := prog_46_method_154_code
def yJ0_isLatin1_aae02 : MethodName := ⟨RJ0, "isLatin1", "()Z"⟩
abbrev cJ0_checkIndex_df160 : ByteArray := prog_46_method_155_code
def yJ0_checkIndex_df160 : MethodName := ⟨RJ0, "checkIndex", "(II)V"⟩
def RJ1 : String := "java/lang/StringLatin1"
abbrev cJ1_charAt_3b067 : ByteArray := prog_48_method_2_code
def yJ1_charAt_3b067 : MethodName := ⟨RJ1, "charAt", "([BI)C"⟩
def RJxa1e45 : String := "java/util/AbstractCollection"
abbrev cJxa1e45_init_da8c8 : ByteArray := prog_54_method_1_code
def yJxa1e45_init_da8c8 : MethodName := ⟨RJxa1e45, "<init>", "()V"⟩
def RJxc12de : String := "java/util/AbstractList"
abbrev cJxc12de_init_da8c8 : ByteArray := prog_55_method_1_code
def yJxc12de_init_da8c8 : MethodName := ⟨RJxc12de, "<init>", "()V"⟩
def RJx4a65c : String := "java/util/ArrayList"
def TJx4a65c : u_T := fun k => match k with
  | 0 => ("java/util/AbstractList", "modCount", "I", false)
  | 1 => ("java/util/ArrayList", "elementData", "[Ljava/lang/Object;", false)
  | _ => ("java/util/ArrayList", "size", "I", false)
def tyJx4a65c : Nat → FieldType := fun k => match k with
  | 0 => .int
  | 1 => .array (.object "java/lang/Object")
  | _ => .int
theorem nmJx4a65c : ∀ a, a < 3 → ∀ b, b < 3 → a ≠ b → (TJx4a65c a).2.1 ≠ (TJx4a65c b).2.1 := by decide +kernel
theorem tyJx4a65c_ok : ∀ k, k < 3 → parseFieldDescriptor (TJx4a65c k).2.2.1 = some (tyJx4a65c k) := by decide +kernel
abbrev cJx4a65c_init_da8c8 : ByteArray := prog_56_method_2_code
def yJx4a65c_init_da8c8 : MethodName := ⟨RJx4a65c, "<init>", "()V"⟩
def RJ3 : String := "jdk/internal/util/Preconditions"
abbrev cJ3_checkIndex_8e157 : ByteArray := prog_64_method_11_code
def yJ3_checkIndex_8e157 : MethodName := ⟨RJ3, "checkIndex", "(IILjava/util/function/BiFunction;)I"⟩
def RL : String := "TextShellLaw"
abbrev cL_read : ByteArray := method_3_code
def yL_read : MethodName := ⟨RL, "read", "(LTextShell;I[J)I"⟩
abbrev cL_put : ByteArray := method_7_code
def yL_put : MethodName := ⟨RL, "put", "(LTextShell;III[J)I"⟩
abbrev cL_law : ByteArray := code
def yL_law : MethodName := ⟨RL, "law", "([I)Z"⟩
theorem dX0_init_0 : decode cX0_init 0 = .ok (.aload_n 0, 1) := by decide +kernel
theorem dX0_init_1 : decode cX0_init 1 = .ok (.invokespecial 3, 3) := by decide +kernel
theorem dX0_init_4 : decode cX0_init 4 = .ok (.aload_n 0, 1) := by decide +kernel
theorem dX0_init_5 : decode cX0_init 5 = .ok (.sipush 256, 3) := by decide +kernel
theorem dX0_init_8 : decode cX0_init 8 = .ok (.newarray .int, 2) := by decide +kernel
theorem dX0_init_10 : decode cX0_init 10 = .ok (.putfield 9, 3) := by decide +kernel
theorem dX0_init_13 : decode cX0_init 13 = .ok (.aload_n 0, 1) := by decide +kernel
theorem dX0_init_14 : decode cX0_init 14 = .ok (.bipush 64, 2) := by decide +kernel
theorem dX0_init_16 : decode cX0_init 16 = .ok (.anewarray 15, 3) := by decide +kernel
theorem dX0_init_19 : decode cX0_init 19 = .ok (.putfield 17, 3) := by decide +kernel
theorem dX0_init_22 : decode cX0_init 22 = .ok (.aload_n 0, 1) := by decide +kernel
theorem dX0_init_23 : decode cX0_init 23 = .ok (.sipush 256, 3) := by decide +kernel
theorem dX0_init_26 : decode cX0_init 26 = .ok (.newarray .int, 2) := by decide +kernel
theorem dX0_init_28 : decode cX0_init 28 = .ok (.putfield 21, 3) := by decide +kernel
theorem dX0_init_31 : decode cX0_init 31 = .ok (.aload_n 0, 1) := by decide +kernel
theorem dX0_init_32 : decode cX0_init 32 = .ok (.new 15, 3) := by decide +kernel
theorem dX0_init_35 : decode cX0_init 35 = .ok (.dup, 1) := by decide +kernel
theorem dX0_init_36 : decode cX0_init 36 = .ok (.bipush 32, 2) := by decide +kernel
theorem dX0_init_38 : decode cX0_init 38 = .ok (.invokespecial 24, 3) := by decide +kernel
theorem dX0_init_41 : decode cX0_init 41 = .ok (.putfield 27, 3) := by decide +kernel
theorem dX0_init_44 : decode cX0_init 44 = .ok (.aload_n 0, 1) := by decide +kernel
theorem dX0_init_45 : decode cX0_init 45 = .ok (.bipush 64, 2) := by decide +kernel
theorem dX0_init_47 : decode cX0_init 47 = .ok (.newarray .int, 2) := by decide +kernel
theorem dX0_init_49 : decode cX0_init 49 = .ok (.putfield 31, 3) := by decide +kernel
theorem dX0_init_52 : decode cX0_init 52 = .ok (.aload_n 0, 1) := by decide +kernel
theorem dX0_init_53 : decode cX0_init 53 = .ok (.bipush 64, 2) := by decide +kernel
theorem dX0_init_55 : decode cX0_init 55 = .ok (.newarray .int, 2) := by decide +kernel
theorem dX0_init_57 : decode cX0_init 57 = .ok (.putfield 34, 3) := by decide +kernel
theorem dX0_init_60 : decode cX0_init 60 = .ok (.aload_n 0, 1) := by decide +kernel
theorem dX0_init_61 : decode cX0_init 61 = .ok (.bipush 64, 2) := by decide +kernel
theorem dX0_init_63 : decode cX0_init 63 = .ok (.newarray .int, 2) := by decide +kernel
theorem dX0_init_65 : decode cX0_init 65 = .ok (.putfield 37, 3) := by decide +kernel
theorem dX0_init_68 : decode cX0_init 68 = .ok (.aload_n 0, 1) := by decide +kernel
theorem dX0_init_69 : decode cX0_init 69 = .ok (.bipush 64, 2) := by decide +kernel
theorem dX0_init_71 : decode cX0_init 71 = .ok (.anewarray 15, 3) := by decide +kernel
theorem dX0_init_74 : decode cX0_init 74 = .ok (.putfield 40, 3) := by decide +kernel
theorem dX0_init_77 : decode cX0_init 77 = .ok (.aload_n 0, 1) := by decide +kernel
theorem dX0_init_78 : decode cX0_init 78 = .ok (.bipush 64, 2) := by decide +kernel
theorem dX0_init_80 : decode cX0_init 80 = .ok (.anewarray 43, 3) := by decide +kernel
theorem dX0_init_83 : decode cX0_init 83 = .ok (.putfield 45, 3) := by decide +kernel
theorem dX0_init_86 : decode cX0_init 86 = .ok (.aload_n 0, 1) := by decide +kernel
theorem dX0_init_87 : decode cX0_init 87 = .ok (.aload_n 1, 1) := by decide +kernel
theorem dX0_init_88 : decode cX0_init 88 = .ok (.putfield 49, 3) := by decide +kernel
theorem dX0_init_91 : decode cX0_init 91 = .ok (.aload_n 0, 1) := by decide +kernel
theorem dX0_init_92 : decode cX0_init 92 = .ok (.aload_n 2, 1) := by decide +kernel
theorem dX0_init_93 : decode cX0_init 93 = .ok (.putfield 53, 3) := by decide +kernel
theorem dX0_init_96 : decode cX0_init 96 = .ok (.aload_n 0, 1) := by decide +kernel
theorem dX0_init_97 : decode cX0_init 97 = .ok (.aload_n 3, 1) := by decide +kernel
theorem dX0_init_98 : decode cX0_init 98 = .ok (.putfield 57, 3) := by decide +kernel
theorem dX0_init_101 : decode cX0_init 101 = .ok (.aload_n 0, 1) := by decide +kernel
theorem dX0_init_102 : decode cX0_init 102 = .ok (.new 61, 3) := by decide +kernel
theorem dX0_init_105 : decode cX0_init 105 = .ok (.dup, 1) := by decide +kernel
theorem dX0_init_106 : decode cX0_init 106 = .ok (.aload_n 1, 1) := by decide +kernel
theorem dX0_init_107 : decode cX0_init 107 = .ok (.invokespecial 63, 3) := by decide +kernel
theorem dX0_init_110 : decode cX0_init 110 = .ok (.putfield 66, 3) := by decide +kernel
theorem dX0_init_113 : decode cX0_init 113 = .ok (.aload_n 0, 1) := by decide +kernel
theorem dX0_init_114 : decode cX0_init 114 = .ok (.getfield 21, 3) := by decide +kernel
theorem dX0_init_117 : decode cX0_init 117 = .ok (.bipush 32, 2) := by decide +kernel
theorem dX0_init_119 : decode cX0_init 119 = .ok (.iconst 1, 1) := by decide +kernel
theorem dX0_init_120 : decode cX0_init 120 = .ok (.iastore, 1) := by decide +kernel
theorem dX0_init_121 : decode cX0_init 121 = .ok (.aload_n 0, 1) := by decide +kernel
theorem dX0_init_122 : decode cX0_init 122 = .ok (.getfield 21, 3) := by decide +kernel
theorem dX0_init_125 : decode cX0_init 125 = .ok (.bipush 9, 2) := by decide +kernel
theorem dX0_init_127 : decode cX0_init 127 = .ok (.iconst 1, 1) := by decide +kernel
theorem dX0_init_128 : decode cX0_init 128 = .ok (.iastore, 1) := by decide +kernel
theorem dX0_init_129 : decode cX0_init 129 = .ok (.aload_n 0, 1) := by decide +kernel
theorem dX0_init_130 : decode cX0_init 130 = .ok (.getfield 21, 3) := by decide +kernel
theorem dX0_init_133 : decode cX0_init 133 = .ok (.bipush 10, 2) := by decide +kernel
theorem dX0_init_135 : decode cX0_init 135 = .ok (.iconst 1, 1) := by decide +kernel
theorem dX0_init_136 : decode cX0_init 136 = .ok (.iastore, 1) := by decide +kernel
theorem dX0_init_137 : decode cX0_init 137 = .ok (.return_, 1) := by decide +kernel
theorem dX1_init_0 : decode cX1_init 0 = .ok (.aload_n 0, 1) := by decide +kernel
theorem dX1_init_1 : decode cX1_init 1 = .ok (.invokespecial 3, 3) := by decide +kernel
theorem dX1_init_4 : decode cX1_init 4 = .ok (.return_, 1) := by decide +kernel
theorem dX1_set_0 : decode cX1_set 0 = .ok (.aload_n 0, 1) := by decide +kernel
theorem dX1_set_1 : decode cX1_set 1 = .ok (.iload_n 1, 1) := by decide +kernel
theorem dX1_set_2 : decode cX1_set 2 = .ok (.putfield 9, 3) := by decide +kernel
theorem dX1_set_5 : decode cX1_set 5 = .ok (.aload_n 0, 1) := by decide +kernel
theorem dX1_set_6 : decode cX1_set 6 = .ok (.iload_n 2, 1) := by decide +kernel
theorem dX1_set_7 : decode cX1_set 7 = .ok (.putfield 15, 3) := by decide +kernel
theorem dX1_set_10 : decode cX1_set 10 = .ok (.aload_n 0, 1) := by decide +kernel
theorem dX1_set_11 : decode cX1_set 11 = .ok (.aload_n 3, 1) := by decide +kernel
theorem dX1_set_12 : decode cX1_set 12 = .ok (.putfield 18, 3) := by decide +kernel
theorem dX1_set_15 : decode cX1_set 15 = .ok (.aload_n 0, 1) := by decide +kernel
theorem dX1_set_16 : decode cX1_set 16 = .ok (.iconst 0, 1) := by decide +kernel
theorem dX1_set_17 : decode cX1_set 17 = .ok (.putfield 22, 3) := by decide +kernel
theorem dX1_set_20 : decode cX1_set 20 = .ok (.aload_n 0, 1) := by decide +kernel
theorem dX1_set_21 : decode cX1_set 21 = .ok (.iconst 0, 1) := by decide +kernel
theorem dX1_set_22 : decode cX1_set 22 = .ok (.putfield 25, 3) := by decide +kernel
theorem dX1_set_25 : decode cX1_set 25 = .ok (.aload_n 0, 1) := by decide +kernel
theorem dX1_set_26 : decode cX1_set 26 = .ok (.iconst 0, 1) := by decide +kernel
theorem dX1_set_27 : decode cX1_set 27 = .ok (.putfield 28, 3) := by decide +kernel
theorem dX1_set_30 : decode cX1_set 30 = .ok (.aload_n 0, 1) := by decide +kernel
theorem dX1_set_31 : decode cX1_set 31 = .ok (.aconst_null, 1) := by decide +kernel
theorem dX1_set_32 : decode cX1_set 32 = .ok (.putfield 31, 3) := by decide +kernel
theorem dX1_set_35 : decode cX1_set 35 = .ok (.aload_n 0, 1) := by decide +kernel
theorem dX1_set_36 : decode cX1_set 36 = .ok (.aconst_null, 1) := by decide +kernel
theorem dX1_set_37 : decode cX1_set 37 = .ok (.putfield 35, 3) := by decide +kernel
theorem dX1_set_40 : decode cX1_set 40 = .ok (.aload_n 0, 1) := by decide +kernel
theorem dX1_set_41 : decode cX1_set 41 = .ok (.aconst_null, 1) := by decide +kernel
theorem dX1_set_42 : decode cX1_set 42 = .ok (.putfield 39, 3) := by decide +kernel
theorem dX1_set_45 : decode cX1_set 45 = .ok (.aload_n 0, 1) := by decide +kernel
theorem dX1_set_46 : decode cX1_set 46 = .ok (.aconst_null, 1) := by decide +kernel
theorem dX1_set_47 : decode cX1_set 47 = .ok (.putfield 42, 3) := by decide +kernel
theorem dX1_set_50 : decode cX1_set 50 = .ok (.aload_n 0, 1) := by decide +kernel
theorem dX1_set_51 : decode cX1_set 51 = .ok (.aconst_null, 1) := by decide +kernel
theorem dX1_set_52 : decode cX1_set 52 = .ok (.putfield 45, 3) := by decide +kernel
theorem dX1_set_55 : decode cX1_set 55 = .ok (.aload_n 0, 1) := by decide +kernel
theorem dX1_set_56 : decode cX1_set 56 = .ok (.aconst_null, 1) := by decide +kernel
theorem dX1_set_57 : decode cX1_set 57 = .ok (.putfield 48, 3) := by decide +kernel
theorem dX1_set_60 : decode cX1_set 60 = .ok (.aload_n 0, 1) := by decide +kernel
theorem dX1_set_61 : decode cX1_set 61 = .ok (.aconst_null, 1) := by decide +kernel
theorem dX1_set_62 : decode cX1_set 62 = .ok (.putfield 51, 3) := by decide +kernel
theorem dX1_set_65 : decode cX1_set 65 = .ok (.aload_n 0, 1) := by decide +kernel
theorem dX1_set_66 : decode cX1_set 66 = .ok (.aconst_null, 1) := by decide +kernel
theorem dX1_set_67 : decode cX1_set 67 = .ok (.putfield 54, 3) := by decide +kernel
theorem dX1_set_70 : decode cX1_set 70 = .ok (.aload_n 0, 1) := by decide +kernel
theorem dX1_set_71 : decode cX1_set 71 = .ok (.iconst (-1), 1) := by decide +kernel
theorem dX1_set_72 : decode cX1_set 72 = .ok (.putfield 57, 3) := by decide +kernel
theorem dX1_set_75 : decode cX1_set 75 = .ok (.aload_n 0, 1) := by decide +kernel
theorem dX1_set_76 : decode cX1_set 76 = .ok (.iconst 0, 1) := by decide +kernel
theorem dX1_set_77 : decode cX1_set 77 = .ok (.putfield 60, 3) := by decide +kernel
theorem dX1_set_80 : decode cX1_set 80 = .ok (.aload_n 0, 1) := by decide +kernel
theorem dX1_set_81 : decode cX1_set 81 = .ok (.iconst 0, 1) := by decide +kernel
theorem dX1_set_82 : decode cX1_set 82 = .ok (.putfield 63, 3) := by decide +kernel
theorem dX1_set_85 : decode cX1_set 85 = .ok (.aload_n 0, 1) := by decide +kernel
theorem dX1_set_86 : decode cX1_set 86 = .ok (.iconst 0, 1) := by decide +kernel
theorem dX1_set_87 : decode cX1_set 87 = .ok (.putfield 66, 3) := by decide +kernel
theorem dX1_set_90 : decode cX1_set 90 = .ok (.aload_n 0, 1) := by decide +kernel
theorem dX1_set_91 : decode cX1_set 91 = .ok (.iconst 0, 1) := by decide +kernel
theorem dX1_set_92 : decode cX1_set 92 = .ok (.putfield 69, 3) := by decide +kernel
theorem dX1_set_95 : decode cX1_set 95 = .ok (.return_, 1) := by decide +kernel
theorem dX1_has_0 : decode cX1_has 0 = .ok (.aload_n 0, 1) := by decide +kernel
theorem dX1_has_1 : decode cX1_has 1 = .ok (.getfield 28, 3) := by decide +kernel
theorem dX1_has_4 : decode cX1_has 4 = .ok (.iload_n 1, 1) := by decide +kernel
theorem dX1_has_5 : decode cX1_has 5 = .ok (.iand, 1) := by decide +kernel
theorem dX1_has_6 : decode cX1_has 6 = .ok (.ifCond .eq 7, 3) := by decide +kernel
theorem dX1_has_9 : decode cX1_has 9 = .ok (.iconst 1, 1) := by decide +kernel
theorem dX1_has_10 : decode cX1_has 10 = .ok (.goto 4, 3) := by decide +kernel
theorem dX1_has_13 : decode cX1_has 13 = .ok (.iconst 0, 1) := by decide +kernel
theorem dX1_has_14 : decode cX1_has 14 = .ok (.ireturn, 1) := by decide +kernel
theorem dX2_init_0 : decode cX2_init 0 = .ok (.aload_n 0, 1) := by decide +kernel
theorem dX2_init_1 : decode cX2_init 1 = .ok (.invokespecial 3, 3) := by decide +kernel
theorem dX2_init_4 : decode cX2_init 4 = .ok (.aload_n 0, 1) := by decide +kernel
theorem dX2_init_5 : decode cX2_init 5 = .ok (.sipush 256, 3) := by decide +kernel
theorem dX2_init_8 : decode cX2_init 8 = .ok (.anewarray 11, 3) := by decide +kernel
theorem dX2_init_11 : decode cX2_init 11 = .ok (.putfield 13, 3) := by decide +kernel
theorem dX2_init_14 : decode cX2_init 14 = .ok (.aload_n 0, 1) := by decide +kernel
theorem dX2_init_15 : decode cX2_init 15 = .ok (.sipush 128, 3) := by decide +kernel
theorem dX2_init_18 : decode cX2_init 18 = .ok (.anewarray 11, 3) := by decide +kernel
theorem dX2_init_21 : decode cX2_init 21 = .ok (.putfield 17, 3) := by decide +kernel
theorem dX2_init_24 : decode cX2_init 24 = .ok (.aload_n 0, 1) := by decide +kernel
theorem dX2_init_25 : decode cX2_init 25 = .ok (.bipush 16, 2) := by decide +kernel
theorem dX2_init_27 : decode cX2_init 27 = .ok (.anewarray 11, 3) := by decide +kernel
theorem dX2_init_30 : decode cX2_init 30 = .ok (.putfield 20, 3) := by decide +kernel
theorem dX2_init_33 : decode cX2_init 33 = .ok (.aload_n 0, 1) := by decide +kernel
theorem dX2_init_34 : decode cX2_init 34 = .ok (.sipush 512, 3) := by decide +kernel
theorem dX2_init_37 : decode cX2_init 37 = .ok (.newarray .int, 2) := by decide +kernel
theorem dX2_init_39 : decode cX2_init 39 = .ok (.putfield 23, 3) := by decide +kernel
theorem dX2_init_42 : decode cX2_init 42 = .ok (.aload_n 0, 1) := by decide +kernel
theorem dX2_init_43 : decode cX2_init 43 = .ok (.bipush 64, 2) := by decide +kernel
theorem dX2_init_45 : decode cX2_init 45 = .ok (.anewarray 27, 3) := by decide +kernel
theorem dX2_init_48 : decode cX2_init 48 = .ok (.putfield 29, 3) := by decide +kernel
theorem dX2_init_51 : decode cX2_init 51 = .ok (.aload_n 0, 1) := by decide +kernel
theorem dX2_init_52 : decode cX2_init 52 = .ok (.bipush 16, 2) := by decide +kernel
theorem dX2_init_54 : decode cX2_init 54 = .ok (.anewarray 33, 3) := by decide +kernel
theorem dX2_init_57 : decode cX2_init 57 = .ok (.putfield 35, 3) := by decide +kernel
theorem dX2_init_60 : decode cX2_init 60 = .ok (.aload_n 0, 1) := by decide +kernel
theorem dX2_init_61 : decode cX2_init 61 = .ok (.new 27, 3) := by decide +kernel
theorem dX2_init_64 : decode cX2_init 64 = .ok (.dup, 1) := by decide +kernel
theorem dX2_init_65 : decode cX2_init 65 = .ok (.new 33, 3) := by decide +kernel
theorem dX2_init_68 : decode cX2_init 68 = .ok (.dup, 1) := by decide +kernel
theorem dX2_init_69 : decode cX2_init 69 = .ok (.iconst 1, 1) := by decide +kernel
theorem dX2_init_70 : decode cX2_init 70 = .ok (.invokespecial 39, 3) := by decide +kernel
theorem dX2_init_73 : decode cX2_init 73 = .ok (.aconst_null, 1) := by decide +kernel
theorem dX2_init_74 : decode cX2_init 74 = .ok (.iconst 1, 1) := by decide +kernel
theorem dX2_init_75 : decode cX2_init 75 = .ok (.invokespecial 42, 3) := by decide +kernel
theorem dX2_init_78 : decode cX2_init 78 = .ok (.putfield 45, 3) := by decide +kernel
theorem dX2_init_81 : decode cX2_init 81 = .ok (.aload_n 0, 1) := by decide +kernel
theorem dX2_init_82 : decode cX2_init 82 = .ok (.aload_n 0, 1) := by decide +kernel
theorem dX2_init_83 : decode cX2_init 83 = .ok (.getfield 45, 3) := by decide +kernel
theorem dX2_init_86 : decode cX2_init 86 = .ok (.putfield 49, 3) := by decide +kernel
theorem dX2_init_89 : decode cX2_init 89 = .ok (.aload_n 0, 1) := by decide +kernel
theorem dX2_init_90 : decode cX2_init 90 = .ok (.new 33, 3) := by decide +kernel
theorem dX2_init_93 : decode cX2_init 93 = .ok (.dup, 1) := by decide +kernel
theorem dX2_init_94 : decode cX2_init 94 = .ok (.iconst 0, 1) := by decide +kernel
theorem dX2_init_95 : decode cX2_init 95 = .ok (.invokespecial 39, 3) := by decide +kernel
theorem dX2_init_98 : decode cX2_init 98 = .ok (.putfield 52, 3) := by decide +kernel
theorem dX2_init_101 : decode cX2_init 101 = .ok (.aload_n 0, 1) := by decide +kernel
theorem dX2_init_102 : decode cX2_init 102 = .ok (.aload_n 0, 1) := by decide +kernel
theorem dX2_init_103 : decode cX2_init 103 = .ok (.ldc 56, 2) := by decide +kernel
theorem dX2_init_105 : decode cX2_init 105 = .ok (.invokestatic 58, 3) := by decide +kernel
theorem dX2_init_108 : decode cX2_init 108 = .ok (.invokevirtual 62, 3) := by decide +kernel
theorem dX2_init_111 : decode cX2_init 111 = .ok (.putfield 66, 3) := by decide +kernel
theorem dX2_init_114 : decode cX2_init 114 = .ok (.aload_n 0, 1) := by decide +kernel
theorem dX2_init_115 : decode cX2_init 115 = .ok (.aload_n 0, 1) := by decide +kernel
theorem dX2_init_116 : decode cX2_init 116 = .ok (.ldc 70, 2) := by decide +kernel
theorem dX2_init_118 : decode cX2_init 118 = .ok (.invokestatic 58, 3) := by decide +kernel
theorem dX2_init_121 : decode cX2_init 121 = .ok (.invokevirtual 62, 3) := by decide +kernel
theorem dX2_init_124 : decode cX2_init 124 = .ok (.putfield 72, 3) := by decide +kernel
theorem dX2_init_127 : decode cX2_init 127 = .ok (.aload_n 0, 1) := by decide +kernel
theorem dX2_init_128 : decode cX2_init 128 = .ok (.invokevirtual 75, 3) := by decide +kernel
theorem dX2_init_131 : decode cX2_init 131 = .ok (.aload_n 0, 1) := by decide +kernel
theorem dX2_init_132 : decode cX2_init 132 = .ok (.invokevirtual 78, 3) := by decide +kernel
theorem dX2_init_135 : decode cX2_init 135 = .ok (.return_, 1) := by decide +kernel
theorem dX2_row_0 : decode cX2_row 0 = .ok (.new 33, 3) := by decide +kernel
theorem dX2_row_3 : decode cX2_row 3 = .ok (.dup, 1) := by decide +kernel
theorem dX2_row_4 : decode cX2_row 4 = .ok (.aload_n 0, 1) := by decide +kernel
theorem dX2_row_5 : decode cX2_row 5 = .ok (.invokevirtual 81, 3) := by decide +kernel
theorem dX2_row_8 : decode cX2_row 8 = .ok (.invokespecial 39, 3) := by decide +kernel
theorem dX2_row_11 : decode cX2_row 11 = .ok (.astore_n 1, 1) := by decide +kernel
theorem dX2_row_12 : decode cX2_row 12 = .ok (.aload_n 1, 1) := by decide +kernel
theorem dX2_row_13 : decode cX2_row 13 = .ok (.aload_n 0, 1) := by decide +kernel
theorem dX2_row_14 : decode cX2_row 14 = .ok (.invokevirtual 87, 3) := by decide +kernel
theorem dX2_row_17 : decode cX2_row 17 = .ok (.aload_n 1, 1) := by decide +kernel
theorem dX2_row_18 : decode cX2_row 18 = .ok (.areturn, 1) := by decide +kernel
theorem dX2_reserve_0 : decode cX2_reserve 0 = .ok (.aload_n 0, 1) := by decide +kernel
theorem dX2_reserve_1 : decode cX2_reserve 1 = .ok (.aload_n 1, 1) := by decide +kernel
theorem dX2_reserve_2 : decode cX2_reserve 2 = .ok (.invokestatic 58, 3) := by decide +kernel
theorem dX2_reserve_5 : decode cX2_reserve 5 = .ok (.invokevirtual 62, 3) := by decide +kernel
theorem dX2_reserve_8 : decode cX2_reserve 8 = .ok (.iload_n 2, 1) := by decide +kernel
theorem dX2_reserve_9 : decode cX2_reserve 9 = .ok (.putfield 91, 3) := by decide +kernel
theorem dX2_reserve_12 : decode cX2_reserve 12 = .ok (.return_, 1) := by decide +kernel
theorem dX2_tellReserved_0 : decode cX2_tellReserved 0 = .ok (.aload_n 0, 1) := by decide +kernel
theorem dX2_tellReserved_1 : decode cX2_tellReserved 1 = .ok (.ldc 95, 2) := by decide +kernel
theorem dX2_tellReserved_3 : decode cX2_tellReserved 3 = .ok (.iconst 1, 1) := by decide +kernel
theorem dX2_tellReserved_4 : decode cX2_tellReserved 4 = .ok (.invokevirtual 97, 3) := by decide +kernel
theorem dX2_tellReserved_7 : decode cX2_tellReserved 7 = .ok (.aload_n 0, 1) := by decide +kernel
theorem dX2_tellReserved_8 : decode cX2_tellReserved 8 = .ok (.ldc 101, 2) := by decide +kernel
theorem dX2_tellReserved_10 : decode cX2_tellReserved 10 = .ok (.iconst 2, 1) := by decide +kernel
theorem dX2_tellReserved_11 : decode cX2_tellReserved 11 = .ok (.invokevirtual 97, 3) := by decide +kernel
theorem dX2_tellReserved_14 : decode cX2_tellReserved 14 = .ok (.aload_n 0, 1) := by decide +kernel
theorem dX2_tellReserved_15 : decode cX2_tellReserved 15 = .ok (.ldc 103, 2) := by decide +kernel
theorem dX2_tellReserved_17 : decode cX2_tellReserved 17 = .ok (.iconst 3, 1) := by decide +kernel
theorem dX2_tellReserved_18 : decode cX2_tellReserved 18 = .ok (.invokevirtual 97, 3) := by decide +kernel
theorem dX2_tellReserved_21 : decode cX2_tellReserved 21 = .ok (.aload_n 0, 1) := by decide +kernel
theorem dX2_tellReserved_22 : decode cX2_tellReserved 22 = .ok (.ldc 105, 2) := by decide +kernel
theorem dX2_tellReserved_24 : decode cX2_tellReserved 24 = .ok (.iconst 4, 1) := by decide +kernel
theorem dX2_tellReserved_25 : decode cX2_tellReserved 25 = .ok (.invokevirtual 97, 3) := by decide +kernel
theorem dX2_tellReserved_28 : decode cX2_tellReserved 28 = .ok (.aload_n 0, 1) := by decide +kernel
theorem dX2_tellReserved_29 : decode cX2_tellReserved 29 = .ok (.ldc 107, 2) := by decide +kernel
theorem dX2_tellReserved_31 : decode cX2_tellReserved 31 = .ok (.iconst 5, 1) := by decide +kernel
theorem dX2_tellReserved_32 : decode cX2_tellReserved 32 = .ok (.invokevirtual 97, 3) := by decide +kernel
theorem dX2_tellReserved_35 : decode cX2_tellReserved 35 = .ok (.aload_n 0, 1) := by decide +kernel
theorem dX2_tellReserved_36 : decode cX2_tellReserved 36 = .ok (.ldc 109, 2) := by decide +kernel
theorem dX2_tellReserved_38 : decode cX2_tellReserved 38 = .ok (.bipush 6, 2) := by decide +kernel
theorem dX2_tellReserved_40 : decode cX2_tellReserved 40 = .ok (.invokevirtual 97, 3) := by decide +kernel
theorem dX2_tellReserved_43 : decode cX2_tellReserved 43 = .ok (.aload_n 0, 1) := by decide +kernel
theorem dX2_tellReserved_44 : decode cX2_tellReserved 44 = .ok (.ldc 111, 2) := by decide +kernel
theorem dX2_tellReserved_46 : decode cX2_tellReserved 46 = .ok (.bipush 7, 2) := by decide +kernel
theorem dX2_tellReserved_48 : decode cX2_tellReserved 48 = .ok (.invokevirtual 97, 3) := by decide +kernel
theorem dX2_tellReserved_51 : decode cX2_tellReserved 51 = .ok (.aload_n 0, 1) := by decide +kernel
theorem dX2_tellReserved_52 : decode cX2_tellReserved 52 = .ok (.ldc 113, 2) := by decide +kernel
theorem dX2_tellReserved_54 : decode cX2_tellReserved 54 = .ok (.bipush 8, 2) := by decide +kernel
theorem dX2_tellReserved_56 : decode cX2_tellReserved 56 = .ok (.invokevirtual 97, 3) := by decide +kernel
theorem dX2_tellReserved_59 : decode cX2_tellReserved 59 = .ok (.aload_n 0, 1) := by decide +kernel
theorem dX2_tellReserved_60 : decode cX2_tellReserved 60 = .ok (.ldc 115, 2) := by decide +kernel
theorem dX2_tellReserved_62 : decode cX2_tellReserved 62 = .ok (.bipush 9, 2) := by decide +kernel
theorem dX2_tellReserved_64 : decode cX2_tellReserved 64 = .ok (.invokevirtual 97, 3) := by decide +kernel
theorem dX2_tellReserved_67 : decode cX2_tellReserved 67 = .ok (.aload_n 0, 1) := by decide +kernel
theorem dX2_tellReserved_68 : decode cX2_tellReserved 68 = .ok (.ldc 117, 2) := by decide +kernel
theorem dX2_tellReserved_70 : decode cX2_tellReserved 70 = .ok (.bipush 10, 2) := by decide +kernel
theorem dX2_tellReserved_72 : decode cX2_tellReserved 72 = .ok (.invokevirtual 97, 3) := by decide +kernel
theorem dX2_tellReserved_75 : decode cX2_tellReserved 75 = .ok (.aload_n 0, 1) := by decide +kernel
theorem dX2_tellReserved_76 : decode cX2_tellReserved 76 = .ok (.ldc 119, 2) := by decide +kernel
theorem dX2_tellReserved_78 : decode cX2_tellReserved 78 = .ok (.bipush 11, 2) := by decide +kernel
theorem dX2_tellReserved_80 : decode cX2_tellReserved 80 = .ok (.invokevirtual 97, 3) := by decide +kernel
theorem dX2_tellReserved_83 : decode cX2_tellReserved 83 = .ok (.aload_n 0, 1) := by decide +kernel
theorem dX2_tellReserved_84 : decode cX2_tellReserved 84 = .ok (.ldc 121, 2) := by decide +kernel
theorem dX2_tellReserved_86 : decode cX2_tellReserved 86 = .ok (.bipush 12, 2) := by decide +kernel
theorem dX2_tellReserved_88 : decode cX2_tellReserved 88 = .ok (.invokevirtual 97, 3) := by decide +kernel
theorem dX2_tellReserved_91 : decode cX2_tellReserved 91 = .ok (.aload_n 0, 1) := by decide +kernel
theorem dX2_tellReserved_92 : decode cX2_tellReserved 92 = .ok (.ldc 123, 2) := by decide +kernel
theorem dX2_tellReserved_94 : decode cX2_tellReserved 94 = .ok (.bipush 13, 2) := by decide +kernel
theorem dX2_tellReserved_96 : decode cX2_tellReserved 96 = .ok (.invokevirtual 97, 3) := by decide +kernel
theorem dX2_tellReserved_99 : decode cX2_tellReserved 99 = .ok (.aload_n 0, 1) := by decide +kernel
theorem dX2_tellReserved_100 : decode cX2_tellReserved 100 = .ok (.ldc 125, 2) := by decide +kernel
theorem dX2_tellReserved_102 : decode cX2_tellReserved 102 = .ok (.bipush 14, 2) := by decide +kernel
theorem dX2_tellReserved_104 : decode cX2_tellReserved 104 = .ok (.invokevirtual 97, 3) := by decide +kernel
theorem dX2_tellReserved_107 : decode cX2_tellReserved 107 = .ok (.aload_n 0, 1) := by decide +kernel
theorem dX2_tellReserved_108 : decode cX2_tellReserved 108 = .ok (.ldc 127, 2) := by decide +kernel
theorem dX2_tellReserved_110 : decode cX2_tellReserved 110 = .ok (.bipush 15, 2) := by decide +kernel
theorem dX2_tellReserved_112 : decode cX2_tellReserved 112 = .ok (.invokevirtual 97, 3) := by decide +kernel
theorem dX2_tellReserved_115 : decode cX2_tellReserved 115 = .ok (.aload_n 0, 1) := by decide +kernel
theorem dX2_tellReserved_116 : decode cX2_tellReserved 116 = .ok (.ldc 129, 2) := by decide +kernel
theorem dX2_tellReserved_118 : decode cX2_tellReserved 118 = .ok (.bipush 16, 2) := by decide +kernel
theorem dX2_tellReserved_120 : decode cX2_tellReserved 120 = .ok (.invokevirtual 97, 3) := by decide +kernel
theorem dX2_tellReserved_123 : decode cX2_tellReserved 123 = .ok (.return_, 1) := by decide +kernel
theorem dX2_command_0 : decode cX2_command 0 = .ok (.aload_n 0, 1) := by decide +kernel
theorem dX2_command_1 : decode cX2_command 1 = .ok (.aload_n 1, 1) := by decide +kernel
theorem dX2_command_2 : decode cX2_command 2 = .ok (.invokestatic 58, 3) := by decide +kernel
theorem dX2_command_5 : decode cX2_command 5 = .ok (.invokevirtual 62, 3) := by decide +kernel
theorem dX2_command_8 : decode cX2_command 8 = .ok (.iload_n 2, 1) := by decide +kernel
theorem dX2_command_9 : decode cX2_command 9 = .ok (.putfield 131, 3) := by decide +kernel
theorem dX2_command_12 : decode cX2_command 12 = .ok (.return_, 1) := by decide +kernel
theorem dX2_tellCommands_0 : decode cX2_tellCommands 0 = .ok (.aload_n 0, 1) := by decide +kernel
theorem dX2_tellCommands_1 : decode cX2_tellCommands 1 = .ok (.ldc 134, 2) := by decide +kernel
theorem dX2_tellCommands_3 : decode cX2_tellCommands 3 = .ok (.iconst 1, 1) := by decide +kernel
theorem dX2_tellCommands_4 : decode cX2_tellCommands 4 = .ok (.invokevirtual 136, 3) := by decide +kernel
theorem dX2_tellCommands_7 : decode cX2_tellCommands 7 = .ok (.aload_n 0, 1) := by decide +kernel
theorem dX2_tellCommands_8 : decode cX2_tellCommands 8 = .ok (.ldc 138, 2) := by decide +kernel
theorem dX2_tellCommands_10 : decode cX2_tellCommands 10 = .ok (.iconst 2, 1) := by decide +kernel
theorem dX2_tellCommands_11 : decode cX2_tellCommands 11 = .ok (.invokevirtual 136, 3) := by decide +kernel
theorem dX2_tellCommands_14 : decode cX2_tellCommands 14 = .ok (.aload_n 0, 1) := by decide +kernel
theorem dX2_tellCommands_15 : decode cX2_tellCommands 15 = .ok (.ldc 140, 2) := by decide +kernel
theorem dX2_tellCommands_17 : decode cX2_tellCommands 17 = .ok (.iconst 3, 1) := by decide +kernel
theorem dX2_tellCommands_18 : decode cX2_tellCommands 18 = .ok (.invokevirtual 136, 3) := by decide +kernel
theorem dX2_tellCommands_21 : decode cX2_tellCommands 21 = .ok (.aload_n 0, 1) := by decide +kernel
theorem dX2_tellCommands_22 : decode cX2_tellCommands 22 = .ok (.ldc 142, 2) := by decide +kernel
theorem dX2_tellCommands_24 : decode cX2_tellCommands 24 = .ok (.iconst 4, 1) := by decide +kernel
theorem dX2_tellCommands_25 : decode cX2_tellCommands 25 = .ok (.invokevirtual 136, 3) := by decide +kernel
theorem dX2_tellCommands_28 : decode cX2_tellCommands 28 = .ok (.aload_n 0, 1) := by decide +kernel
theorem dX2_tellCommands_29 : decode cX2_tellCommands 29 = .ok (.ldc 144, 2) := by decide +kernel
theorem dX2_tellCommands_31 : decode cX2_tellCommands 31 = .ok (.iconst 5, 1) := by decide +kernel
theorem dX2_tellCommands_32 : decode cX2_tellCommands 32 = .ok (.invokevirtual 136, 3) := by decide +kernel
theorem dX2_tellCommands_35 : decode cX2_tellCommands 35 = .ok (.aload_n 0, 1) := by decide +kernel
theorem dX2_tellCommands_36 : decode cX2_tellCommands 36 = .ok (.ldc 146, 2) := by decide +kernel
theorem dX2_tellCommands_38 : decode cX2_tellCommands 38 = .ok (.bipush 6, 2) := by decide +kernel
theorem dX2_tellCommands_40 : decode cX2_tellCommands 40 = .ok (.invokevirtual 136, 3) := by decide +kernel
theorem dX2_tellCommands_43 : decode cX2_tellCommands 43 = .ok (.aload_n 0, 1) := by decide +kernel
theorem dX2_tellCommands_44 : decode cX2_tellCommands 44 = .ok (.ldc 148, 2) := by decide +kernel
theorem dX2_tellCommands_46 : decode cX2_tellCommands 46 = .ok (.bipush 7, 2) := by decide +kernel
theorem dX2_tellCommands_48 : decode cX2_tellCommands 48 = .ok (.invokevirtual 136, 3) := by decide +kernel
theorem dX2_tellCommands_51 : decode cX2_tellCommands 51 = .ok (.aload_n 0, 1) := by decide +kernel
theorem dX2_tellCommands_52 : decode cX2_tellCommands 52 = .ok (.ldc 150, 2) := by decide +kernel
theorem dX2_tellCommands_54 : decode cX2_tellCommands 54 = .ok (.bipush 8, 2) := by decide +kernel
theorem dX2_tellCommands_56 : decode cX2_tellCommands 56 = .ok (.invokevirtual 136, 3) := by decide +kernel
theorem dX2_tellCommands_59 : decode cX2_tellCommands 59 = .ok (.aload_n 0, 1) := by decide +kernel
theorem dX2_tellCommands_60 : decode cX2_tellCommands 60 = .ok (.ldc 152, 2) := by decide +kernel
theorem dX2_tellCommands_62 : decode cX2_tellCommands 62 = .ok (.bipush 9, 2) := by decide +kernel
theorem dX2_tellCommands_64 : decode cX2_tellCommands 64 = .ok (.invokevirtual 136, 3) := by decide +kernel
theorem dX2_tellCommands_67 : decode cX2_tellCommands 67 = .ok (.aload_n 0, 1) := by decide +kernel
theorem dX2_tellCommands_68 : decode cX2_tellCommands 68 = .ok (.ldc 154, 2) := by decide +kernel
theorem dX2_tellCommands_70 : decode cX2_tellCommands 70 = .ok (.bipush 10, 2) := by decide +kernel
theorem dX2_tellCommands_72 : decode cX2_tellCommands 72 = .ok (.invokevirtual 136, 3) := by decide +kernel
theorem dX2_tellCommands_75 : decode cX2_tellCommands 75 = .ok (.aload_n 0, 1) := by decide +kernel
theorem dX2_tellCommands_76 : decode cX2_tellCommands 76 = .ok (.ldc 156, 2) := by decide +kernel
theorem dX2_tellCommands_78 : decode cX2_tellCommands 78 = .ok (.bipush 11, 2) := by decide +kernel
theorem dX2_tellCommands_80 : decode cX2_tellCommands 80 = .ok (.invokevirtual 136, 3) := by decide +kernel
theorem dX2_tellCommands_83 : decode cX2_tellCommands 83 = .ok (.aload_n 0, 1) := by decide +kernel
theorem dX2_tellCommands_84 : decode cX2_tellCommands 84 = .ok (.ldc 158, 2) := by decide +kernel
theorem dX2_tellCommands_86 : decode cX2_tellCommands 86 = .ok (.bipush 12, 2) := by decide +kernel
theorem dX2_tellCommands_88 : decode cX2_tellCommands 88 = .ok (.invokevirtual 136, 3) := by decide +kernel
theorem dX2_tellCommands_91 : decode cX2_tellCommands 91 = .ok (.aload_n 0, 1) := by decide +kernel
theorem dX2_tellCommands_92 : decode cX2_tellCommands 92 = .ok (.ldc 160, 2) := by decide +kernel
theorem dX2_tellCommands_94 : decode cX2_tellCommands 94 = .ok (.bipush 13, 2) := by decide +kernel
theorem dX2_tellCommands_96 : decode cX2_tellCommands 96 = .ok (.invokevirtual 136, 3) := by decide +kernel
theorem dX2_tellCommands_99 : decode cX2_tellCommands 99 = .ok (.aload_n 0, 1) := by decide +kernel
theorem dX2_tellCommands_100 : decode cX2_tellCommands 100 = .ok (.ldc 162, 2) := by decide +kernel
theorem dX2_tellCommands_102 : decode cX2_tellCommands 102 = .ok (.bipush 14, 2) := by decide +kernel
theorem dX2_tellCommands_104 : decode cX2_tellCommands 104 = .ok (.invokevirtual 136, 3) := by decide +kernel
theorem dX2_tellCommands_107 : decode cX2_tellCommands 107 = .ok (.aload_n 0, 1) := by decide +kernel
theorem dX2_tellCommands_108 : decode cX2_tellCommands 108 = .ok (.ldc 164, 2) := by decide +kernel
theorem dX2_tellCommands_110 : decode cX2_tellCommands 110 = .ok (.bipush 15, 2) := by decide +kernel
theorem dX2_tellCommands_112 : decode cX2_tellCommands 112 = .ok (.invokevirtual 136, 3) := by decide +kernel
theorem dX2_tellCommands_115 : decode cX2_tellCommands 115 = .ok (.aload_n 0, 1) := by decide +kernel
theorem dX2_tellCommands_116 : decode cX2_tellCommands 116 = .ok (.ldc 166, 2) := by decide +kernel
theorem dX2_tellCommands_118 : decode cX2_tellCommands 118 = .ok (.bipush 16, 2) := by decide +kernel
theorem dX2_tellCommands_120 : decode cX2_tellCommands 120 = .ok (.invokevirtual 136, 3) := by decide +kernel
theorem dX2_tellCommands_123 : decode cX2_tellCommands 123 = .ok (.aload_n 0, 1) := by decide +kernel
theorem dX2_tellCommands_124 : decode cX2_tellCommands 124 = .ok (.ldc 168, 2) := by decide +kernel
theorem dX2_tellCommands_126 : decode cX2_tellCommands 126 = .ok (.bipush 17, 2) := by decide +kernel
theorem dX2_tellCommands_128 : decode cX2_tellCommands 128 = .ok (.invokevirtual 136, 3) := by decide +kernel
theorem dX2_tellCommands_131 : decode cX2_tellCommands 131 = .ok (.aload_n 0, 1) := by decide +kernel
theorem dX2_tellCommands_132 : decode cX2_tellCommands 132 = .ok (.ldc 170, 2) := by decide +kernel
theorem dX2_tellCommands_134 : decode cX2_tellCommands 134 = .ok (.bipush 18, 2) := by decide +kernel
theorem dX2_tellCommands_136 : decode cX2_tellCommands 136 = .ok (.invokevirtual 136, 3) := by decide +kernel
theorem dX2_tellCommands_139 : decode cX2_tellCommands 139 = .ok (.aload_n 0, 1) := by decide +kernel
theorem dX2_tellCommands_140 : decode cX2_tellCommands 140 = .ok (.ldc 172, 2) := by decide +kernel
theorem dX2_tellCommands_142 : decode cX2_tellCommands 142 = .ok (.bipush 19, 2) := by decide +kernel
theorem dX2_tellCommands_144 : decode cX2_tellCommands 144 = .ok (.invokevirtual 136, 3) := by decide +kernel
theorem dX2_tellCommands_147 : decode cX2_tellCommands 147 = .ok (.aload_n 0, 1) := by decide +kernel
theorem dX2_tellCommands_148 : decode cX2_tellCommands 148 = .ok (.ldc 174, 2) := by decide +kernel
theorem dX2_tellCommands_150 : decode cX2_tellCommands 150 = .ok (.bipush 20, 2) := by decide +kernel
theorem dX2_tellCommands_152 : decode cX2_tellCommands 152 = .ok (.invokevirtual 136, 3) := by decide +kernel
theorem dX2_tellCommands_155 : decode cX2_tellCommands 155 = .ok (.aload_n 0, 1) := by decide +kernel
theorem dX2_tellCommands_156 : decode cX2_tellCommands 156 = .ok (.ldc 176, 2) := by decide +kernel
theorem dX2_tellCommands_158 : decode cX2_tellCommands 158 = .ok (.bipush 21, 2) := by decide +kernel
theorem dX2_tellCommands_160 : decode cX2_tellCommands 160 = .ok (.invokevirtual 136, 3) := by decide +kernel
theorem dX2_tellCommands_163 : decode cX2_tellCommands 163 = .ok (.aload_n 0, 1) := by decide +kernel
theorem dX2_tellCommands_164 : decode cX2_tellCommands 164 = .ok (.ldc 178, 2) := by decide +kernel
theorem dX2_tellCommands_166 : decode cX2_tellCommands 166 = .ok (.bipush 22, 2) := by decide +kernel
theorem dX2_tellCommands_168 : decode cX2_tellCommands 168 = .ok (.invokevirtual 136, 3) := by decide +kernel
theorem dX2_tellCommands_171 : decode cX2_tellCommands 171 = .ok (.aload_n 0, 1) := by decide +kernel
theorem dX2_tellCommands_172 : decode cX2_tellCommands 172 = .ok (.ldc 180, 2) := by decide +kernel
theorem dX2_tellCommands_174 : decode cX2_tellCommands 174 = .ok (.bipush 23, 2) := by decide +kernel
theorem dX2_tellCommands_176 : decode cX2_tellCommands 176 = .ok (.invokevirtual 136, 3) := by decide +kernel
theorem dX2_tellCommands_179 : decode cX2_tellCommands 179 = .ok (.aload_n 0, 1) := by decide +kernel
theorem dX2_tellCommands_180 : decode cX2_tellCommands 180 = .ok (.ldc 182, 2) := by decide +kernel
theorem dX2_tellCommands_182 : decode cX2_tellCommands 182 = .ok (.bipush 24, 2) := by decide +kernel
theorem dX2_tellCommands_184 : decode cX2_tellCommands 184 = .ok (.invokevirtual 136, 3) := by decide +kernel
theorem dX2_tellCommands_187 : decode cX2_tellCommands 187 = .ok (.aload_n 0, 1) := by decide +kernel
theorem dX2_tellCommands_188 : decode cX2_tellCommands 188 = .ok (.ldc 184, 2) := by decide +kernel
theorem dX2_tellCommands_190 : decode cX2_tellCommands 190 = .ok (.bipush 25, 2) := by decide +kernel
theorem dX2_tellCommands_192 : decode cX2_tellCommands 192 = .ok (.invokevirtual 136, 3) := by decide +kernel
theorem dX2_tellCommands_195 : decode cX2_tellCommands 195 = .ok (.aload_n 0, 1) := by decide +kernel
theorem dX2_tellCommands_196 : decode cX2_tellCommands 196 = .ok (.ldc 186, 2) := by decide +kernel
theorem dX2_tellCommands_198 : decode cX2_tellCommands 198 = .ok (.bipush 26, 2) := by decide +kernel
theorem dX2_tellCommands_200 : decode cX2_tellCommands 200 = .ok (.invokevirtual 136, 3) := by decide +kernel
theorem dX2_tellCommands_203 : decode cX2_tellCommands 203 = .ok (.aload_n 0, 1) := by decide +kernel
theorem dX2_tellCommands_204 : decode cX2_tellCommands 204 = .ok (.ldc 188, 2) := by decide +kernel
theorem dX2_tellCommands_206 : decode cX2_tellCommands 206 = .ok (.bipush 27, 2) := by decide +kernel
theorem dX2_tellCommands_208 : decode cX2_tellCommands 208 = .ok (.invokevirtual 136, 3) := by decide +kernel
theorem dX2_tellCommands_211 : decode cX2_tellCommands 211 = .ok (.aload_n 0, 1) := by decide +kernel
theorem dX2_tellCommands_212 : decode cX2_tellCommands 212 = .ok (.ldc 190, 2) := by decide +kernel
theorem dX2_tellCommands_214 : decode cX2_tellCommands 214 = .ok (.bipush 28, 2) := by decide +kernel
theorem dX2_tellCommands_216 : decode cX2_tellCommands 216 = .ok (.invokevirtual 136, 3) := by decide +kernel
theorem dX2_tellCommands_219 : decode cX2_tellCommands 219 = .ok (.aload_n 0, 1) := by decide +kernel
theorem dX2_tellCommands_220 : decode cX2_tellCommands 220 = .ok (.ldc 192, 2) := by decide +kernel
theorem dX2_tellCommands_222 : decode cX2_tellCommands 222 = .ok (.bipush 29, 2) := by decide +kernel
theorem dX2_tellCommands_224 : decode cX2_tellCommands 224 = .ok (.invokevirtual 136, 3) := by decide +kernel
theorem dX2_tellCommands_227 : decode cX2_tellCommands 227 = .ok (.aload_n 0, 1) := by decide +kernel
theorem dX2_tellCommands_228 : decode cX2_tellCommands 228 = .ok (.ldc 194, 2) := by decide +kernel
theorem dX2_tellCommands_230 : decode cX2_tellCommands 230 = .ok (.bipush 30, 2) := by decide +kernel
theorem dX2_tellCommands_232 : decode cX2_tellCommands 232 = .ok (.invokevirtual 136, 3) := by decide +kernel
theorem dX2_tellCommands_235 : decode cX2_tellCommands 235 = .ok (.aload_n 0, 1) := by decide +kernel
theorem dX2_tellCommands_236 : decode cX2_tellCommands 236 = .ok (.ldc 196, 2) := by decide +kernel
theorem dX2_tellCommands_238 : decode cX2_tellCommands 238 = .ok (.bipush 31, 2) := by decide +kernel
theorem dX2_tellCommands_240 : decode cX2_tellCommands 240 = .ok (.invokevirtual 136, 3) := by decide +kernel
theorem dX2_tellCommands_243 : decode cX2_tellCommands 243 = .ok (.aload_n 0, 1) := by decide +kernel
theorem dX2_tellCommands_244 : decode cX2_tellCommands 244 = .ok (.ldc 198, 2) := by decide +kernel
theorem dX2_tellCommands_246 : decode cX2_tellCommands 246 = .ok (.bipush 32, 2) := by decide +kernel
theorem dX2_tellCommands_248 : decode cX2_tellCommands 248 = .ok (.invokevirtual 136, 3) := by decide +kernel
theorem dX2_tellCommands_251 : decode cX2_tellCommands 251 = .ok (.aload_n 0, 1) := by decide +kernel
theorem dX2_tellCommands_252 : decode cX2_tellCommands 252 = .ok (.ldc 200, 2) := by decide +kernel
theorem dX2_tellCommands_254 : decode cX2_tellCommands 254 = .ok (.bipush 33, 2) := by decide +kernel
theorem dX2_tellCommands_256 : decode cX2_tellCommands 256 = .ok (.invokevirtual 136, 3) := by decide +kernel
theorem dX2_tellCommands_259 : decode cX2_tellCommands 259 = .ok (.aload_n 0, 1) := by decide +kernel
theorem dX2_tellCommands_260 : decode cX2_tellCommands 260 = .ok (.ldc 202, 2) := by decide +kernel
theorem dX2_tellCommands_262 : decode cX2_tellCommands 262 = .ok (.bipush 34, 2) := by decide +kernel
theorem dX2_tellCommands_264 : decode cX2_tellCommands 264 = .ok (.invokevirtual 136, 3) := by decide +kernel
theorem dX2_tellCommands_267 : decode cX2_tellCommands 267 = .ok (.aload_n 0, 1) := by decide +kernel
theorem dX2_tellCommands_268 : decode cX2_tellCommands 268 = .ok (.ldc 204, 2) := by decide +kernel
theorem dX2_tellCommands_270 : decode cX2_tellCommands 270 = .ok (.bipush 35, 2) := by decide +kernel
theorem dX2_tellCommands_272 : decode cX2_tellCommands 272 = .ok (.invokevirtual 136, 3) := by decide +kernel
theorem dX2_tellCommands_275 : decode cX2_tellCommands 275 = .ok (.aload_n 0, 1) := by decide +kernel
theorem dX2_tellCommands_276 : decode cX2_tellCommands 276 = .ok (.ldc 206, 2) := by decide +kernel
theorem dX2_tellCommands_278 : decode cX2_tellCommands 278 = .ok (.bipush 36, 2) := by decide +kernel
theorem dX2_tellCommands_280 : decode cX2_tellCommands 280 = .ok (.invokevirtual 136, 3) := by decide +kernel
theorem dX2_tellCommands_283 : decode cX2_tellCommands 283 = .ok (.aload_n 0, 1) := by decide +kernel
theorem dX2_tellCommands_284 : decode cX2_tellCommands 284 = .ok (.ldc 208, 2) := by decide +kernel
theorem dX2_tellCommands_286 : decode cX2_tellCommands 286 = .ok (.bipush 37, 2) := by decide +kernel
theorem dX2_tellCommands_288 : decode cX2_tellCommands 288 = .ok (.invokevirtual 136, 3) := by decide +kernel
theorem dX2_tellCommands_291 : decode cX2_tellCommands 291 = .ok (.aload_n 0, 1) := by decide +kernel
theorem dX2_tellCommands_292 : decode cX2_tellCommands 292 = .ok (.ldc 210, 2) := by decide +kernel
theorem dX2_tellCommands_294 : decode cX2_tellCommands 294 = .ok (.bipush 38, 2) := by decide +kernel
theorem dX2_tellCommands_296 : decode cX2_tellCommands 296 = .ok (.invokevirtual 136, 3) := by decide +kernel
theorem dX2_tellCommands_299 : decode cX2_tellCommands 299 = .ok (.aload_n 0, 1) := by decide +kernel
theorem dX2_tellCommands_300 : decode cX2_tellCommands 300 = .ok (.ldc 212, 2) := by decide +kernel
theorem dX2_tellCommands_302 : decode cX2_tellCommands 302 = .ok (.bipush 39, 2) := by decide +kernel
theorem dX2_tellCommands_304 : decode cX2_tellCommands 304 = .ok (.invokevirtual 136, 3) := by decide +kernel
theorem dX2_tellCommands_307 : decode cX2_tellCommands 307 = .ok (.return_, 1) := by decide +kernel
theorem dX2_find_0 : decode cX2_find 0 = .ok (.iconst 0, 1) := by decide +kernel
theorem dX2_find_1 : decode cX2_find 1 = .ok (.istore_n 2, 1) := by decide +kernel
theorem dX2_find_2 : decode cX2_find 2 = .ok (.iconst 0, 1) := by decide +kernel
theorem dX2_find_3 : decode cX2_find 3 = .ok (.istore_n 3, 1) := by decide +kernel
theorem dX2_find_4 : decode cX2_find 4 = .ok (.iload_n 3, 1) := by decide +kernel
theorem dX2_find_5 : decode cX2_find 5 = .ok (.aload_n 1, 1) := by decide +kernel
theorem dX2_find_6 : decode cX2_find 6 = .ok (.getfield 214, 3) := by decide +kernel
theorem dX2_find_9 : decode cX2_find 9 = .ok (.if_icmp .ge 30, 3) := by decide +kernel
theorem dX2_find_12 : decode cX2_find 12 = .ok (.iload_n 3, 1) := by decide +kernel
theorem dX2_find_13 : decode cX2_find 13 = .ok (.aload_n 1, 1) := by decide +kernel
theorem dX2_find_14 : decode cX2_find 14 = .ok (.getfield 216, 3) := by decide +kernel
theorem dX2_find_17 : decode cX2_find 17 = .ok (.arraylength, 1) := by decide +kernel
theorem dX2_find_18 : decode cX2_find 18 = .ok (.if_icmp .ge 21, 3) := by decide +kernel
theorem dX2_find_21 : decode cX2_find 21 = .ok (.iload_n 2, 1) := by decide +kernel
theorem dX2_find_22 : decode cX2_find 22 = .ok (.bipush 31, 2) := by decide +kernel
theorem dX2_find_24 : decode cX2_find 24 = .ok (.imul, 1) := by decide +kernel
theorem dX2_find_25 : decode cX2_find 25 = .ok (.aload_n 1, 1) := by decide +kernel
theorem dX2_find_26 : decode cX2_find 26 = .ok (.getfield 216, 3) := by decide +kernel
theorem dX2_find_29 : decode cX2_find 29 = .ok (.iload_n 3, 1) := by decide +kernel
theorem dX2_find_30 : decode cX2_find 30 = .ok (.caload, 1) := by decide +kernel
theorem dX2_find_31 : decode cX2_find 31 = .ok (.iadd, 1) := by decide +kernel
theorem dX2_find_32 : decode cX2_find 32 = .ok (.istore_n 2, 1) := by decide +kernel
theorem dX2_find_33 : decode cX2_find 33 = .ok (.iinc 3 1, 3) := by decide +kernel
theorem dX2_find_36 : decode cX2_find 36 = .ok (.goto (-32), 3) := by decide +kernel
theorem dX2_find_39 : decode cX2_find 39 = .ok (.aload_n 0, 1) := by decide +kernel
theorem dX2_find_40 : decode cX2_find 40 = .ok (.iload_n 2, 1) := by decide +kernel
theorem dX2_find_41 : decode cX2_find 41 = .ok (.sipush 255, 3) := by decide +kernel
theorem dX2_find_44 : decode cX2_find 44 = .ok (.iand, 1) := by decide +kernel
theorem dX2_find_45 : decode cX2_find 45 = .ok (.putfield 220, 3) := by decide +kernel
theorem dX2_find_48 : decode cX2_find 48 = .ok (.aload_n 0, 1) := by decide +kernel
theorem dX2_find_49 : decode cX2_find 49 = .ok (.getfield 13, 3) := by decide +kernel
theorem dX2_find_52 : decode cX2_find 52 = .ok (.aload_n 0, 1) := by decide +kernel
theorem dX2_find_53 : decode cX2_find 53 = .ok (.getfield 220, 3) := by decide +kernel
theorem dX2_find_56 : decode cX2_find 56 = .ok (.aaload, 1) := by decide +kernel
theorem dX2_find_57 : decode cX2_find 57 = .ok (.astore_n 3, 1) := by decide +kernel
theorem dX2_find_58 : decode cX2_find 58 = .ok (.aload_n 3, 1) := by decide +kernel
theorem dX2_find_59 : decode cX2_find 59 = .ok (.ifnull 24, 3) := by decide +kernel
theorem dX2_find_62 : decode cX2_find 62 = .ok (.aload_n 3, 1) := by decide +kernel
theorem dX2_find_63 : decode cX2_find 63 = .ok (.getfield 223, 3) := by decide +kernel
theorem dX2_find_66 : decode cX2_find 66 = .ok (.aload_n 1, 1) := by decide +kernel
theorem dX2_find_67 : decode cX2_find 67 = .ok (.invokevirtual 226, 3) := by decide +kernel
theorem dX2_find_70 : decode cX2_find 70 = .ok (.ifCond .eq 5, 3) := by decide +kernel
theorem dX2_find_73 : decode cX2_find 73 = .ok (.aload_n 3, 1) := by decide +kernel
theorem dX2_find_74 : decode cX2_find 74 = .ok (.areturn, 1) := by decide +kernel
theorem dX2_find_75 : decode cX2_find 75 = .ok (.aload_n 3, 1) := by decide +kernel
theorem dX2_find_76 : decode cX2_find 76 = .ok (.getfield 230, 3) := by decide +kernel
theorem dX2_find_79 : decode cX2_find 79 = .ok (.astore_n 3, 1) := by decide +kernel
theorem dX2_find_80 : decode cX2_find 80 = .ok (.goto (-22), 3) := by decide +kernel
theorem dX2_find_83 : decode cX2_find 83 = .ok (.aconst_null, 1) := by decide +kernel
theorem dX2_find_84 : decode cX2_find 84 = .ok (.areturn, 1) := by decide +kernel
theorem dX2_name_0 : decode cX2_name 0 = .ok (.aload_n 0, 1) := by decide +kernel
theorem dX2_name_1 : decode cX2_name 1 = .ok (.aload_n 1, 1) := by decide +kernel
theorem dX2_name_2 : decode cX2_name 2 = .ok (.invokevirtual 233, 3) := by decide +kernel
theorem dX2_name_5 : decode cX2_name 5 = .ok (.astore_n 2, 1) := by decide +kernel
theorem dX2_name_6 : decode cX2_name 6 = .ok (.aload_n 2, 1) := by decide +kernel
theorem dX2_name_7 : decode cX2_name 7 = .ok (.ifnull 5, 3) := by decide +kernel
theorem dX2_name_12 : decode cX2_name 12 = .ok (.aload_n 0, 1) := by decide +kernel
theorem dX2_name_13 : decode cX2_name 13 = .ok (.getfield 236, 3) := by decide +kernel
theorem dX2_name_16 : decode cX2_name 16 = .ok (.aload_n 0, 1) := by decide +kernel
theorem dX2_name_17 : decode cX2_name 17 = .ok (.getfield 17, 3) := by decide +kernel
theorem dX2_name_20 : decode cX2_name 20 = .ok (.arraylength, 1) := by decide +kernel
theorem dX2_name_21 : decode cX2_name 21 = .ok (.if_icmp .lt 56, 3) := by decide +kernel
theorem dX2_name_77 : decode cX2_name 77 = .ok (.new 11, 3) := by decide +kernel
theorem dX2_name_80 : decode cX2_name 80 = .ok (.dup, 1) := by decide +kernel
theorem dX2_name_81 : decode cX2_name 81 = .ok (.aload_n 1, 1) := by decide +kernel
theorem dX2_name_82 : decode cX2_name 82 = .ok (.iconst 0, 1) := by decide +kernel
theorem dX2_name_83 : decode cX2_name 83 = .ok (.aload_n 1, 1) := by decide +kernel
theorem dX2_name_84 : decode cX2_name 84 = .ok (.getfield 214, 3) := by decide +kernel
theorem dX2_name_87 : decode cX2_name 87 = .ok (.invokevirtual 239, 3) := by decide +kernel
theorem dX2_name_90 : decode cX2_name 90 = .ok (.aload_n 0, 1) := by decide +kernel
theorem dX2_name_91 : decode cX2_name 91 = .ok (.getfield 236, 3) := by decide +kernel
theorem dX2_name_94 : decode cX2_name 94 = .ok (.invokespecial 243, 3) := by decide +kernel
theorem dX2_name_97 : decode cX2_name 97 = .ok (.astore_n 3, 1) := by decide +kernel
theorem dX2_name_98 : decode cX2_name 98 = .ok (.aload_n 3, 1) := by decide +kernel
theorem dX2_name_99 : decode cX2_name 99 = .ok (.aload_n 0, 1) := by decide +kernel
theorem dX2_name_100 : decode cX2_name 100 = .ok (.getfield 13, 3) := by decide +kernel
theorem dX2_name_103 : decode cX2_name 103 = .ok (.aload_n 0, 1) := by decide +kernel
theorem dX2_name_104 : decode cX2_name 104 = .ok (.getfield 220, 3) := by decide +kernel
theorem dX2_name_107 : decode cX2_name 107 = .ok (.aaload, 1) := by decide +kernel
theorem dX2_name_108 : decode cX2_name 108 = .ok (.putfield 230, 3) := by decide +kernel
theorem dX2_name_111 : decode cX2_name 111 = .ok (.aload_n 0, 1) := by decide +kernel
theorem dX2_name_112 : decode cX2_name 112 = .ok (.getfield 13, 3) := by decide +kernel
theorem dX2_name_115 : decode cX2_name 115 = .ok (.aload_n 0, 1) := by decide +kernel
theorem dX2_name_116 : decode cX2_name 116 = .ok (.getfield 220, 3) := by decide +kernel
theorem dX2_name_119 : decode cX2_name 119 = .ok (.aload_n 3, 1) := by decide +kernel
theorem dX2_name_120 : decode cX2_name 120 = .ok (.aastore, 1) := by decide +kernel
theorem dX2_name_121 : decode cX2_name 121 = .ok (.aload_n 0, 1) := by decide +kernel
theorem dX2_name_122 : decode cX2_name 122 = .ok (.getfield 17, 3) := by decide +kernel
theorem dX2_name_125 : decode cX2_name 125 = .ok (.aload_n 0, 1) := by decide +kernel
theorem dX2_name_126 : decode cX2_name 126 = .ok (.getfield 236, 3) := by decide +kernel
theorem dX2_name_129 : decode cX2_name 129 = .ok (.aload_n 3, 1) := by decide +kernel
theorem dX2_name_130 : decode cX2_name 130 = .ok (.aastore, 1) := by decide +kernel
theorem dX2_name_131 : decode cX2_name 131 = .ok (.aload_n 0, 1) := by decide +kernel
theorem dX2_name_132 : decode cX2_name 132 = .ok (.dup, 1) := by decide +kernel
theorem dX2_name_133 : decode cX2_name 133 = .ok (.getfield 236, 3) := by decide +kernel
theorem dX2_name_136 : decode cX2_name 136 = .ok (.iconst 1, 1) := by decide +kernel
theorem dX2_name_137 : decode cX2_name 137 = .ok (.iadd, 1) := by decide +kernel
theorem dX2_name_138 : decode cX2_name 138 = .ok (.putfield 236, 3) := by decide +kernel
theorem dX2_name_141 : decode cX2_name 141 = .ok (.aload_n 3, 1) := by decide +kernel
theorem dX2_name_142 : decode cX2_name 142 = .ok (.areturn, 1) := by decide +kernel
theorem dX3_init_0 : decode cX3_init 0 = .ok (.aload_n 0, 1) := by decide +kernel
theorem dX3_init_1 : decode cX3_init 1 = .ok (.invokespecial 1, 3) := by decide +kernel
theorem dX3_init_4 : decode cX3_init 4 = .ok (.aload_n 0, 1) := by decide +kernel
theorem dX3_init_5 : decode cX3_init 5 = .ok (.aload_n 1, 1) := by decide +kernel
theorem dX3_init_6 : decode cX3_init 6 = .ok (.putfield 7, 3) := by decide +kernel
theorem dX3_init_9 : decode cX3_init 9 = .ok (.aload_n 0, 1) := by decide +kernel
theorem dX3_init_10 : decode cX3_init 10 = .ok (.iload_n 2, 1) := by decide +kernel
theorem dX3_init_11 : decode cX3_init 11 = .ok (.putfield 13, 3) := by decide +kernel
theorem dX3_init_14 : decode cX3_init 14 = .ok (.return_, 1) := by decide +kernel
theorem dX4_init_0 : decode cX4_init 0 = .ok (.aload_n 0, 1) := by decide +kernel
theorem dX4_init_1 : decode cX4_init 1 = .ok (.invokespecial 3, 3) := by decide +kernel
theorem dX4_init_4 : decode cX4_init 4 = .ok (.aload_n 0, 1) := by decide +kernel
theorem dX4_init_5 : decode cX4_init 5 = .ok (.iconst 1, 1) := by decide +kernel
theorem dX4_init_6 : decode cX4_init 6 = .ok (.putfield 9, 3) := by decide +kernel
theorem dX4_init_9 : decode cX4_init 9 = .ok (.aload_n 0, 1) := by decide +kernel
theorem dX4_init_10 : decode cX4_init 10 = .ok (.aload_n 1, 1) := by decide +kernel
theorem dX4_init_11 : decode cX4_init 11 = .ok (.putfield 15, 3) := by decide +kernel
theorem dX4_init_14 : decode cX4_init 14 = .ok (.aload_n 0, 1) := by decide +kernel
theorem dX4_init_15 : decode cX4_init 15 = .ok (.aload_n 2, 1) := by decide +kernel
theorem dX4_init_16 : decode cX4_init 16 = .ok (.putfield 19, 3) := by decide +kernel
theorem dX4_init_19 : decode cX4_init 19 = .ok (.aload_n 0, 1) := by decide +kernel
theorem dX4_init_20 : decode cX4_init 20 = .ok (.aload_n 2, 1) := by decide +kernel
theorem dX4_init_21 : decode cX4_init 21 = .ok (.ifnonnull 7, 3) := by decide +kernel
theorem dX4_init_24 : decode cX4_init 24 = .ok (.aload_n 0, 1) := by decide +kernel
theorem dX4_init_25 : decode cX4_init 25 = .ok (.goto 7, 3) := by decide +kernel
theorem dX4_init_32 : decode cX4_init 32 = .ok (.putfield 23, 3) := by decide +kernel
theorem dX4_init_35 : decode cX4_init 35 = .ok (.aload_n 0, 1) := by decide +kernel
theorem dX4_init_36 : decode cX4_init 36 = .ok (.iload_n 3, 1) := by decide +kernel
theorem dX4_init_37 : decode cX4_init 37 = .ok (.ifCond .eq 7, 3) := by decide +kernel
theorem dX4_init_40 : decode cX4_init 40 = .ok (.aconst_null, 1) := by decide +kernel
theorem dX4_init_41 : decode cX4_init 41 = .ok (.goto 12, 3) := by decide +kernel
theorem dX4_init_53 : decode cX4_init 53 = .ok (.putfield 31, 3) := by decide +kernel
theorem dX4_init_56 : decode cX4_init 56 = .ok (.return_, 1) := by decide +kernel
theorem dX5_init_0 : decode cX5_init 0 = .ok (.aload_n 0, 1) := by decide +kernel
theorem dX5_init_1 : decode cX5_init 1 = .ok (.invokespecial 3, 3) := by decide +kernel
theorem dX5_init_4 : decode cX5_init 4 = .ok (.aload_n 0, 1) := by decide +kernel
theorem dX5_init_5 : decode cX5_init 5 = .ok (.bipush 64, 2) := by decide +kernel
theorem dX5_init_7 : decode cX5_init 7 = .ok (.anewarray 9, 3) := by decide +kernel
theorem dX5_init_10 : decode cX5_init 10 = .ok (.putfield 11, 3) := by decide +kernel
theorem dX5_init_13 : decode cX5_init 13 = .ok (.aload_n 0, 1) := by decide +kernel
theorem dX5_init_14 : decode cX5_init 14 = .ok (.bipush 64, 2) := by decide +kernel
theorem dX5_init_16 : decode cX5_init 16 = .ok (.newarray .int, 2) := by decide +kernel
theorem dX5_init_18 : decode cX5_init 18 = .ok (.putfield 17, 3) := by decide +kernel
theorem dX5_init_21 : decode cX5_init 21 = .ok (.aload_n 0, 1) := by decide +kernel
theorem dX5_init_22 : decode cX5_init 22 = .ok (.bipush 16, 2) := by decide +kernel
theorem dX5_init_24 : decode cX5_init 24 = .ok (.anewarray 21, 3) := by decide +kernel
theorem dX5_init_27 : decode cX5_init 27 = .ok (.putfield 23, 3) := by decide +kernel
theorem dX5_init_30 : decode cX5_init 30 = .ok (.aload_n 0, 1) := by decide +kernel
theorem dX5_init_31 : decode cX5_init 31 = .ok (.new 27, 3) := by decide +kernel
theorem dX5_init_34 : decode cX5_init 34 = .ok (.dup, 1) := by decide +kernel
theorem dX5_init_35 : decode cX5_init 35 = .ok (.bipush 16, 2) := by decide +kernel
theorem dX5_init_37 : decode cX5_init 37 = .ok (.invokespecial 29, 3) := by decide +kernel
theorem dX5_init_40 : decode cX5_init 40 = .ok (.putfield 32, 3) := by decide +kernel
theorem dX5_init_43 : decode cX5_init 43 = .ok (.aload_n 0, 1) := by decide +kernel
theorem dX5_init_44 : decode cX5_init 44 = .ok (.aload_n 1, 1) := by decide +kernel
theorem dX5_init_45 : decode cX5_init 45 = .ok (.putfield 36, 3) := by decide +kernel
theorem dX5_init_48 : decode cX5_init 48 = .ok (.return_, 1) := by decide +kernel
theorem dX5_parse_0 : decode cX5_parse 0 = .ok (.aload_n 0, 1) := by decide +kernel
theorem dX5_parse_1 : decode cX5_parse 1 = .ok (.iconst 0, 1) := by decide +kernel
theorem dX5_parse_2 : decode cX5_parse 2 = .ok (.putfield 40, 3) := by decide +kernel
theorem dX5_parse_5 : decode cX5_parse 5 = .ok (.aload_n 0, 1) := by decide +kernel
theorem dX5_parse_6 : decode cX5_parse 6 = .ok (.iconst 0, 1) := by decide +kernel
theorem dX5_parse_7 : decode cX5_parse 7 = .ok (.putfield 44, 3) := by decide +kernel
theorem dX5_parse_10 : decode cX5_parse 10 = .ok (.aload_n 0, 1) := by decide +kernel
theorem dX5_parse_11 : decode cX5_parse 11 = .ok (.iconst 0, 1) := by decide +kernel
theorem dX5_parse_12 : decode cX5_parse 12 = .ok (.putfield 47, 3) := by decide +kernel
theorem dX5_parse_15 : decode cX5_parse 15 = .ok (.aload_n 0, 1) := by decide +kernel
theorem dX5_parse_16 : decode cX5_parse 16 = .ok (.iconst 0, 1) := by decide +kernel
theorem dX5_parse_17 : decode cX5_parse 17 = .ok (.putfield 50, 3) := by decide +kernel
theorem dX5_parse_20 : decode cX5_parse 20 = .ok (.aload_n 0, 1) := by decide +kernel
theorem dX5_parse_21 : decode cX5_parse 21 = .ok (.iconst 0, 1) := by decide +kernel
theorem dX5_parse_22 : decode cX5_parse 22 = .ok (.putfield 53, 3) := by decide +kernel
theorem dX5_parse_25 : decode cX5_parse 25 = .ok (.aload_n 0, 1) := by decide +kernel
theorem dX5_parse_26 : decode cX5_parse 26 = .ok (.iconst 0, 1) := by decide +kernel
theorem dX5_parse_27 : decode cX5_parse 27 = .ok (.putfield 56, 3) := by decide +kernel
theorem dX5_parse_30 : decode cX5_parse 30 = .ok (.aload_n 0, 1) := by decide +kernel
theorem dX5_parse_31 : decode cX5_parse 31 = .ok (.iconst 0, 1) := by decide +kernel
theorem dX5_parse_32 : decode cX5_parse 32 = .ok (.putfield 59, 3) := by decide +kernel
theorem dX5_parse_35 : decode cX5_parse 35 = .ok (.aload_n 0, 1) := by decide +kernel
theorem dX5_parse_36 : decode cX5_parse 36 = .ok (.aconst_null, 1) := by decide +kernel
theorem dX5_parse_37 : decode cX5_parse 37 = .ok (.putfield 62, 3) := by decide +kernel
theorem dX5_parse_40 : decode cX5_parse 40 = .ok (.aload_n 0, 1) := by decide +kernel
theorem dX5_parse_41 : decode cX5_parse 41 = .ok (.aload_n 1, 1) := by decide +kernel
theorem dX5_parse_42 : decode cX5_parse 42 = .ok (.getfield 66, 3) := by decide +kernel
theorem dX5_parse_45 : decode cX5_parse 45 = .ok (.invokevirtual 69, 3) := by decide +kernel
theorem dX5_parse_48 : decode cX5_parse 48 = .ok (.ifCond .eq 12, 3) := by decide +kernel
theorem dX5_parse_51 : decode cX5_parse 51 = .ok (.aload_n 0, 1) := by decide +kernel
theorem dX5_parse_52 : decode cX5_parse 52 = .ok (.aload_n 1, 1) := by decide +kernel
theorem dX5_parse_53 : decode cX5_parse 53 = .ok (.bipush 20, 2) := by decide +kernel
theorem dX5_parse_55 : decode cX5_parse 55 = .ok (.aconst_null, 1) := by decide +kernel
theorem dX5_parse_56 : decode cX5_parse 56 = .ok (.invokevirtual 73, 3) := by decide +kernel
theorem dX5_parse_59 : decode cX5_parse 59 = .ok (.pop, 1) := by decide +kernel
theorem dX5_parse_60 : decode cX5_parse 60 = .ok (.aload_n 0, 1) := by decide +kernel
theorem dX5_parse_61 : decode cX5_parse 61 = .ok (.iconst 0, 1) := by decide +kernel
theorem dX5_parse_62 : decode cX5_parse 62 = .ok (.putfield 77, 3) := by decide +kernel
theorem dX5_parse_65 : decode cX5_parse 65 = .ok (.iconst 0, 1) := by decide +kernel
theorem dX5_parse_66 : decode cX5_parse 66 = .ok (.istore_n 2, 1) := by decide +kernel
theorem dX5_parse_67 : decode cX5_parse 67 = .ok (.iload_n 2, 1) := by decide +kernel
theorem dX5_parse_68 : decode cX5_parse 68 = .ok (.ldc 80, 2) := by decide +kernel
theorem dX5_parse_70 : decode cX5_parse 70 = .ok (.if_icmp .ge 128, 3) := by decide +kernel
theorem dX5_parse_73 : decode cX5_parse 73 = .ok (.aload_n 0, 1) := by decide +kernel
theorem dX5_parse_74 : decode cX5_parse 74 = .ok (.getfield 40, 3) := by decide +kernel
theorem dX5_parse_77 : decode cX5_parse 77 = .ok (.ifCond .ne 121, 3) := by decide +kernel
theorem dX5_parse_80 : decode cX5_parse 80 = .ok (.aload_n 0, 1) := by decide +kernel
theorem dX5_parse_81 : decode cX5_parse 81 = .ok (.getfield 47, 3) := by decide +kernel
theorem dX5_parse_84 : decode cX5_parse 84 = .ok (.ifCond .le 114, 3) := by decide +kernel
theorem dX5_parse_87 : decode cX5_parse 87 = .ok (.aload_n 0, 1) := by decide +kernel
theorem dX5_parse_88 : decode cX5_parse 88 = .ok (.invokevirtual 81, 3) := by decide +kernel
theorem dX5_parse_91 : decode cX5_parse 91 = .ok (.astore_n 3, 1) := by decide +kernel
theorem dX5_parse_92 : decode cX5_parse 92 = .ok (.aload_n 0, 1) := by decide +kernel
theorem dX5_parse_93 : decode cX5_parse 93 = .ok (.getfield 77, 3) := by decide +kernel
theorem dX5_parse_96 : decode cX5_parse 96 = .ok (.istore 4, 2) := by decide +kernel
theorem dX5_parse_98 : decode cX5_parse 98 = .ok (.aload_n 0, 1) := by decide +kernel
theorem dX5_parse_99 : decode cX5_parse 99 = .ok (.iconst 0, 1) := by decide +kernel
theorem dX5_parse_100 : decode cX5_parse 100 = .ok (.putfield 77, 3) := by decide +kernel
theorem dX5_parse_103 : decode cX5_parse 103 = .ok (.iload 4, 2) := by decide +kernel
theorem dX5_parse_105 : decode cX5_parse 105 = .ok (.iconst 1, 1) := by decide +kernel
theorem dX5_parse_106 : decode cX5_parse 106 = .ok (.if_icmp .ne 11, 3) := by decide +kernel
theorem dX5_parse_109 : decode cX5_parse 109 = .ok (.aload_n 0, 1) := by decide +kernel
theorem dX5_parse_110 : decode cX5_parse 110 = .ok (.aload_n 3, 1) := by decide +kernel
theorem dX5_parse_111 : decode cX5_parse 111 = .ok (.invokevirtual 85, 3) := by decide +kernel
theorem dX5_parse_114 : decode cX5_parse 114 = .ok (.goto 78, 3) := by decide +kernel
theorem dX5_parse_117 : decode cX5_parse 117 = .ok (.iload 4, 2) := by decide +kernel
theorem dX5_parse_119 : decode cX5_parse 119 = .ok (.iconst 2, 1) := by decide +kernel
theorem dX5_parse_120 : decode cX5_parse 120 = .ok (.if_icmp .ne 16, 3) := by decide +kernel
theorem dX5_parse_136 : decode cX5_parse 136 = .ok (.aload_n 3, 1) := by decide +kernel
theorem dX5_parse_137 : decode cX5_parse 137 = .ok (.getfield 96, 3) := by decide +kernel
theorem dX5_parse_140 : decode cX5_parse 140 = .ok (.bipush 23, 2) := by decide +kernel
theorem dX5_parse_142 : decode cX5_parse 142 = .ok (.if_icmp .ge 11, 3) := by decide +kernel
theorem dX5_parse_145 : decode cX5_parse 145 = .ok (.aload_n 0, 1) := by decide +kernel
theorem dX5_parse_146 : decode cX5_parse 146 = .ok (.aload_n 3, 1) := by decide +kernel
theorem dX5_parse_147 : decode cX5_parse 147 = .ok (.invokevirtual 99, 3) := by decide +kernel
theorem dX5_parse_150 : decode cX5_parse 150 = .ok (.goto 42, 3) := by decide +kernel
theorem dX5_parse_153 : decode cX5_parse 153 = .ok (.aload_n 3, 1) := by decide +kernel
theorem dX5_parse_154 : decode cX5_parse 154 = .ok (.getfield 96, 3) := by decide +kernel
theorem dX5_parse_157 : decode cX5_parse 157 = .ok (.bipush 23, 2) := by decide +kernel
theorem dX5_parse_159 : decode cX5_parse 159 = .ok (.if_icmp .ne 11, 3) := by decide +kernel
theorem dX5_parse_170 : decode cX5_parse 170 = .ok (.aload_n 3, 1) := by decide +kernel
theorem dX5_parse_171 : decode cX5_parse 171 = .ok (.bipush 32, 2) := by decide +kernel
theorem dX5_parse_173 : decode cX5_parse 173 = .ok (.invokevirtual 89, 3) := by decide +kernel
theorem dX5_parse_176 : decode cX5_parse 176 = .ok (.ifCond .eq 11, 3) := by decide +kernel
theorem dX5_parse_187 : decode cX5_parse 187 = .ok (.aload_n 0, 1) := by decide +kernel
theorem dX5_parse_188 : decode cX5_parse 188 = .ok (.aload_n 3, 1) := by decide +kernel
theorem dX5_parse_189 : decode cX5_parse 189 = .ok (.invokevirtual 108, 3) := by decide +kernel
theorem dX5_parse_192 : decode cX5_parse 192 = .ok (.iinc 2 1, 3) := by decide +kernel
theorem dX5_parse_195 : decode cX5_parse 195 = .ok (.goto (-128), 3) := by decide +kernel
theorem dX5_parse_198 : decode cX5_parse 198 = .ok (.aload_n 0, 1) := by decide +kernel
theorem dX5_parse_199 : decode cX5_parse 199 = .ok (.getfield 40, 3) := by decide +kernel
theorem dX5_parse_202 : decode cX5_parse 202 = .ok (.ifCond .ne 14, 3) := by decide +kernel
theorem dX5_parse_205 : decode cX5_parse 205 = .ok (.aload_n 0, 1) := by decide +kernel
theorem dX5_parse_206 : decode cX5_parse 206 = .ok (.getfield 62, 3) := by decide +kernel
theorem dX5_parse_209 : decode cX5_parse 209 = .ok (.ifnull 7, 3) := by decide +kernel
theorem dX5_parse_212 : decode cX5_parse 212 = .ok (.iconst 1, 1) := by decide +kernel
theorem dX5_parse_213 : decode cX5_parse 213 = .ok (.goto 4, 3) := by decide +kernel
theorem dX5_parse_217 : decode cX5_parse 217 = .ok (.ireturn, 1) := by decide +kernel
theorem dX5_begins_0 : decode cX5_begins 0 = .ok (.aload_n 0, 1) := by decide +kernel
theorem dX5_begins_1 : decode cX5_begins 1 = .ok (.getfield 133, 3) := by decide +kernel
theorem dX5_begins_4 : decode cX5_begins 4 = .ok (.bipush 16, 2) := by decide +kernel
theorem dX5_begins_6 : decode cX5_begins 6 = .ok (.iadd, 1) := by decide +kernel
theorem dX5_begins_7 : decode cX5_begins 7 = .ok (.iload_n 1, 1) := by decide +kernel
theorem dX5_begins_8 : decode cX5_begins 8 = .ok (.iadd, 1) := by decide +kernel
theorem dX5_begins_9 : decode cX5_begins 9 = .ok (.ldc 136, 2) := by decide +kernel
theorem dX5_begins_11 : decode cX5_begins 11 = .ok (.if_icmp .le 12, 3) := by decide +kernel
theorem dX5_begins_23 : decode cX5_begins 23 = .ok (.aload_n 0, 1) := by decide +kernel
theorem dX5_begins_24 : decode cX5_begins 24 = .ok (.dup, 1) := by decide +kernel
theorem dX5_begins_25 : decode cX5_begins 25 = .ok (.getfield 133, 3) := by decide +kernel
theorem dX5_begins_28 : decode cX5_begins 28 = .ok (.bipush 16, 2) := by decide +kernel
theorem dX5_begins_30 : decode cX5_begins 30 = .ok (.iload_n 1, 1) := by decide +kernel
theorem dX5_begins_31 : decode cX5_begins 31 = .ok (.iadd, 1) := by decide +kernel
theorem dX5_begins_32 : decode cX5_begins 32 = .ok (.iadd, 1) := by decide +kernel
theorem dX5_begins_33 : decode cX5_begins 33 = .ok (.putfield 133, 3) := by decide +kernel
theorem dX5_begins_36 : decode cX5_begins 36 = .ok (.iconst 1, 1) := by decide +kernel
theorem dX5_begins_37 : decode cX5_begins 37 = .ok (.ireturn, 1) := by decide +kernel
theorem dX5_enter_0 : decode cX5_enter 0 = .ok (.aload_n 0, 1) := by decide +kernel
theorem dX5_enter_1 : decode cX5_enter 1 = .ok (.getfield 47, 3) := by decide +kernel
theorem dX5_enter_4 : decode cX5_enter 4 = .ok (.aload_n 0, 1) := by decide +kernel
theorem dX5_enter_5 : decode cX5_enter 5 = .ok (.getfield 11, 3) := by decide +kernel
theorem dX5_enter_8 : decode cX5_enter 8 = .ok (.arraylength, 1) := by decide +kernel
theorem dX5_enter_9 : decode cX5_enter 9 = .ok (.if_icmp .lt 60, 3) := by decide +kernel
theorem dX5_enter_69 : decode cX5_enter 69 = .ok (.aload_n 0, 1) := by decide +kernel
theorem dX5_enter_70 : decode cX5_enter 70 = .ok (.getfield 11, 3) := by decide +kernel
theorem dX5_enter_73 : decode cX5_enter 73 = .ok (.aload_n 0, 1) := by decide +kernel
theorem dX5_enter_74 : decode cX5_enter 74 = .ok (.getfield 47, 3) := by decide +kernel
theorem dX5_enter_77 : decode cX5_enter 77 = .ok (.aaload, 1) := by decide +kernel
theorem dX5_enter_78 : decode cX5_enter 78 = .ok (.astore 4, 2) := by decide +kernel
theorem dX5_enter_80 : decode cX5_enter 80 = .ok (.aload 4, 2) := by decide +kernel
theorem dX5_enter_82 : decode cX5_enter 82 = .ok (.ifnonnull 23, 3) := by decide +kernel
theorem dX5_enter_85 : decode cX5_enter 85 = .ok (.new 9, 3) := by decide +kernel
theorem dX5_enter_88 : decode cX5_enter 88 = .ok (.dup, 1) := by decide +kernel
theorem dX5_enter_89 : decode cX5_enter 89 = .ok (.invokespecial 137, 3) := by decide +kernel
theorem dX5_enter_92 : decode cX5_enter 92 = .ok (.astore 4, 2) := by decide +kernel
theorem dX5_enter_94 : decode cX5_enter 94 = .ok (.aload_n 0, 1) := by decide +kernel
theorem dX5_enter_95 : decode cX5_enter 95 = .ok (.getfield 11, 3) := by decide +kernel
theorem dX5_enter_98 : decode cX5_enter 98 = .ok (.aload_n 0, 1) := by decide +kernel
theorem dX5_enter_99 : decode cX5_enter 99 = .ok (.getfield 47, 3) := by decide +kernel
theorem dX5_enter_102 : decode cX5_enter 102 = .ok (.aload 4, 2) := by decide +kernel
theorem dX5_enter_104 : decode cX5_enter 104 = .ok (.aastore, 1) := by decide +kernel
theorem dX5_enter_105 : decode cX5_enter 105 = .ok (.aload_n 0, 1) := by decide +kernel
theorem dX5_enter_106 : decode cX5_enter 106 = .ok (.dup, 1) := by decide +kernel
theorem dX5_enter_107 : decode cX5_enter 107 = .ok (.getfield 47, 3) := by decide +kernel
theorem dX5_enter_110 : decode cX5_enter 110 = .ok (.iconst 1, 1) := by decide +kernel
theorem dX5_enter_111 : decode cX5_enter 111 = .ok (.iadd, 1) := by decide +kernel
theorem dX5_enter_112 : decode cX5_enter 112 = .ok (.putfield 47, 3) := by decide +kernel
theorem dX5_enter_115 : decode cX5_enter 115 = .ok (.aload 4, 2) := by decide +kernel
theorem dX5_enter_117 : decode cX5_enter 117 = .ok (.iload_n 1, 1) := by decide +kernel
theorem dX5_enter_118 : decode cX5_enter 118 = .ok (.iload_n 2, 1) := by decide +kernel
theorem dX5_enter_119 : decode cX5_enter 119 = .ok (.aload_n 3, 1) := by decide +kernel
theorem dX5_enter_120 : decode cX5_enter 120 = .ok (.ifnonnull 8, 3) := by decide +kernel
theorem dX5_enter_123 : decode cX5_enter 123 = .ok (.aload 4, 2) := by decide +kernel
theorem dX5_enter_125 : decode cX5_enter 125 = .ok (.goto 4, 3) := by decide +kernel
theorem dX5_enter_128 : decode cX5_enter 128 = .ok (.aload_n 3, 1) := by decide +kernel
theorem dX5_enter_129 : decode cX5_enter 129 = .ok (.invokevirtual 138, 3) := by decide +kernel
theorem dX5_enter_132 : decode cX5_enter 132 = .ok (.aload 4, 2) := by decide +kernel
theorem dX5_enter_134 : decode cX5_enter 134 = .ok (.areturn, 1) := by decide +kernel
theorem dX5_top_0 : decode cX5_top 0 = .ok (.aload_n 0, 1) := by decide +kernel
theorem dX5_top_1 : decode cX5_top 1 = .ok (.getfield 11, 3) := by decide +kernel
theorem dX5_top_4 : decode cX5_top 4 = .ok (.aload_n 0, 1) := by decide +kernel
theorem dX5_top_5 : decode cX5_top 5 = .ok (.getfield 47, 3) := by decide +kernel
theorem dX5_top_8 : decode cX5_top 8 = .ok (.ifCond .le 12, 3) := by decide +kernel
theorem dX5_top_11 : decode cX5_top 11 = .ok (.aload_n 0, 1) := by decide +kernel
theorem dX5_top_12 : decode cX5_top 12 = .ok (.getfield 47, 3) := by decide +kernel
theorem dX5_top_15 : decode cX5_top 15 = .ok (.iconst 1, 1) := by decide +kernel
theorem dX5_top_16 : decode cX5_top 16 = .ok (.isub, 1) := by decide +kernel
theorem dX5_top_17 : decode cX5_top 17 = .ok (.goto 4, 3) := by decide +kernel
theorem dX5_top_21 : decode cX5_top 21 = .ok (.aaload, 1) := by decide +kernel
theorem dX5_top_22 : decode cX5_top 22 = .ok (.areturn, 1) := by decide +kernel
theorem dX5_openText_0 : decode cX5_openText 0 = .ok (.aload_n 1, 1) := by decide +kernel
theorem dX5_openText_1 : decode cX5_openText 1 = .ok (.iconst 0, 1) := by decide +kernel
theorem dX5_openText_2 : decode cX5_openText 2 = .ok (.aload_n 1, 1) := by decide +kernel
theorem dX5_openText_3 : decode cX5_openText 3 = .ok (.getfield 66, 3) := by decide +kernel
theorem dX5_openText_6 : decode cX5_openText 6 = .ok (.invokevirtual 142, 3) := by decide +kernel
theorem dX5_openText_9 : decode cX5_openText 9 = .ok (.astore 4, 2) := by decide +kernel
theorem dX5_openText_11 : decode cX5_openText 11 = .ok (.aload 4, 2) := by decide +kernel
theorem dX5_openText_13 : decode cX5_openText 13 = .ok (.aload 4, 2) := by decide +kernel
theorem dX5_openText_15 : decode cX5_openText 15 = .ok (.getfield 66, 3) := by decide +kernel
theorem dX5_openText_18 : decode cX5_openText 18 = .ok (.iconst 1, 1) := by decide +kernel
theorem dX5_openText_19 : decode cX5_openText 19 = .ok (.isub, 1) := by decide +kernel
theorem dX5_openText_20 : decode cX5_openText 20 = .ok (.invokevirtual 146, 3) := by decide +kernel
theorem dX5_openText_23 : decode cX5_openText 23 = .ok (.bipush 10, 2) := by decide +kernel
theorem dX5_openText_25 : decode cX5_openText 25 = .ok (.if_icmp .eq 10, 3) := by decide +kernel
theorem dX5_openText_35 : decode cX5_openText 35 = .ok (.aload_n 0, 1) := by decide +kernel
theorem dX5_openText_36 : decode cX5_openText 36 = .ok (.aload 4, 2) := by decide +kernel
theorem dX5_openText_38 : decode cX5_openText 38 = .ok (.iconst 1, 1) := by decide +kernel
theorem dX5_openText_39 : decode cX5_openText 39 = .ok (.aload_n 3, 1) := by decide +kernel
theorem dX5_openText_40 : decode cX5_openText 40 = .ok (.aconst_null, 1) := by decide +kernel
theorem dX5_openText_41 : decode cX5_openText 41 = .ok (.invokestatic 153, 3) := by decide +kernel
theorem dX5_openText_44 : decode cX5_openText 44 = .ok (.putfield 117, 3) := by decide +kernel
theorem dX5_openText_47 : decode cX5_openText 47 = .ok (.aload_n 0, 1) := by decide +kernel
theorem dX5_openText_48 : decode cX5_openText 48 = .ok (.iload_n 2, 1) := by decide +kernel
theorem dX5_openText_49 : decode cX5_openText 49 = .ok (.iconst 0, 1) := by decide +kernel
theorem dX5_openText_50 : decode cX5_openText 50 = .ok (.aconst_null, 1) := by decide +kernel
theorem dX5_openText_51 : decode cX5_openText 51 = .ok (.invokevirtual 157, 3) := by decide +kernel
theorem dX5_openText_54 : decode cX5_openText 54 = .ok (.astore 5, 2) := by decide +kernel
theorem dX5_openText_56 : decode cX5_openText 56 = .ok (.aload 5, 2) := by decide +kernel
theorem dX5_openText_58 : decode cX5_openText 58 = .ok (.aload_n 0, 1) := by decide +kernel
theorem dX5_openText_59 : decode cX5_openText 59 = .ok (.getfield 117, 3) := by decide +kernel
theorem dX5_openText_62 : decode cX5_openText 62 = .ok (.putfield 161, 3) := by decide +kernel
theorem dX5_openText_65 : decode cX5_openText 65 = .ok (.aload 5, 2) := by decide +kernel
theorem dX5_openText_67 : decode cX5_openText 67 = .ok (.areturn, 1) := by decide +kernel
theorem dX5_look_0 : decode cX5_look 0 = .ok (.aload_n 0, 1) := by decide +kernel
theorem dX5_look_1 : decode cX5_look 1 = .ok (.getfield 117, 3) := by decide +kernel
theorem dX5_look_4 : decode cX5_look 4 = .ok (.getfield 163, 3) := by decide +kernel
theorem dX5_look_7 : decode cX5_look 7 = .ok (.astore_n 1, 1) := by decide +kernel
theorem dX5_look_8 : decode cX5_look 8 = .ok (.aload_n 0, 1) := by decide +kernel
theorem dX5_look_9 : decode cX5_look 9 = .ok (.getfield 117, 3) := by decide +kernel
theorem dX5_look_12 : decode cX5_look 12 = .ok (.getfield 166, 3) := by decide +kernel
theorem dX5_look_15 : decode cX5_look 15 = .ok (.aload_n 1, 1) := by decide +kernel
theorem dX5_look_16 : decode cX5_look 16 = .ok (.getfield 66, 3) := by decide +kernel
theorem dX5_look_19 : decode cX5_look 19 = .ok (.if_icmp .ge 86, 3) := by decide +kernel
theorem dX5_look_22 : decode cX5_look 22 = .ok (.aload_n 1, 1) := by decide +kernel
theorem dX5_look_23 : decode cX5_look 23 = .ok (.aload_n 0, 1) := by decide +kernel
theorem dX5_look_24 : decode cX5_look 24 = .ok (.getfield 117, 3) := by decide +kernel
theorem dX5_look_27 : decode cX5_look 27 = .ok (.getfield 166, 3) := by decide +kernel
theorem dX5_look_30 : decode cX5_look 30 = .ok (.invokevirtual 146, 3) := by decide +kernel
theorem dX5_look_33 : decode cX5_look 33 = .ok (.istore_n 2, 1) := by decide +kernel
theorem dX5_look_34 : decode cX5_look 34 = .ok (.iload_n 2, 1) := by decide +kernel
theorem dX5_look_35 : decode cX5_look 35 = .ok (.iconst 2, 1) := by decide +kernel
theorem dX5_look_36 : decode cX5_look 36 = .ok (.if_icmp .gt 11, 3) := by decide +kernel
theorem dX5_look_47 : decode cX5_look 47 = .ok (.iload_n 2, 1) := by decide +kernel
theorem dX5_look_48 : decode cX5_look 48 = .ok (.bipush 92, 2) := by decide +kernel
theorem dX5_look_50 : decode cX5_look 50 = .ok (.if_icmp .ne 50, 3) := by decide +kernel
theorem dX5_look_100 : decode cX5_look 100 = .ok (.iload_n 2, 1) := by decide +kernel
theorem dX5_look_101 : decode cX5_look 101 = .ok (.ireturn, 1) := by decide +kernel
theorem dX5_look_105 : decode cX5_look 105 = .ok (.iconst (-1), 1) := by decide +kernel
theorem dX5_look_106 : decode cX5_look 106 = .ok (.ireturn, 1) := by decide +kernel
theorem dX5_pass_0 : decode cX5_pass 0 = .ok (.aload_n 0, 1) := by decide +kernel
theorem dX5_pass_1 : decode cX5_pass 1 = .ok (.getfield 117, 3) := by decide +kernel
theorem dX5_pass_4 : decode cX5_pass 4 = .ok (.dup, 1) := by decide +kernel
theorem dX5_pass_5 : decode cX5_pass 5 = .ok (.getfield 166, 3) := by decide +kernel
theorem dX5_pass_8 : decode cX5_pass 8 = .ok (.iconst 1, 1) := by decide +kernel
theorem dX5_pass_9 : decode cX5_pass 9 = .ok (.iadd, 1) := by decide +kernel
theorem dX5_pass_10 : decode cX5_pass 10 = .ok (.putfield 166, 3) := by decide +kernel
theorem dX5_pass_13 : decode cX5_pass 13 = .ok (.iload_n 1, 1) := by decide +kernel
theorem dX5_pass_14 : decode cX5_pass 14 = .ok (.bipush 10, 2) := by decide +kernel
theorem dX5_pass_16 : decode cX5_pass 16 = .ok (.if_icmp .eq 8, 3) := by decide +kernel
theorem dX5_pass_19 : decode cX5_pass 19 = .ok (.iload_n 1, 1) := by decide +kernel
theorem dX5_pass_20 : decode cX5_pass 20 = .ok (.iconst 1, 1) := by decide +kernel
theorem dX5_pass_21 : decode cX5_pass 21 = .ok (.if_icmp .ne 16, 3) := by decide +kernel
theorem dX5_pass_24 : decode cX5_pass 24 = .ok (.aload_n 0, 1) := by decide +kernel
theorem dX5_pass_25 : decode cX5_pass 25 = .ok (.getfield 117, 3) := by decide +kernel
theorem dX5_pass_28 : decode cX5_pass 28 = .ok (.dup, 1) := by decide +kernel
theorem dX5_pass_29 : decode cX5_pass 29 = .ok (.getfield 121, 3) := by decide +kernel
theorem dX5_pass_32 : decode cX5_pass 32 = .ok (.iconst 1, 1) := by decide +kernel
theorem dX5_pass_33 : decode cX5_pass 33 = .ok (.iadd, 1) := by decide +kernel
theorem dX5_pass_34 : decode cX5_pass 34 = .ok (.putfield 121, 3) := by decide +kernel
theorem dX5_pass_37 : decode cX5_pass 37 = .ok (.return_, 1) := by decide +kernel
theorem dX5_told_0 : decode cX5_told 0 = .ok (.iload_n 3, 1) := by decide +kernel
theorem dX5_told_1 : decode cX5_told 1 = .ok (.ifCond .eq 7, 3) := by decide +kernel
theorem dX5_told_4 : decode cX5_told 4 = .ok (.iconst 2, 1) := by decide +kernel
theorem dX5_told_5 : decode cX5_told 5 = .ok (.goto 4, 3) := by decide +kernel
theorem dX5_told_9 : decode cX5_told 9 = .ok (.istore 4, 2) := by decide +kernel
theorem dX5_told_11 : decode cX5_told 11 = .ok (.iconst 0, 1) := by decide +kernel
theorem dX5_told_12 : decode cX5_told 12 = .ok (.istore 5, 2) := by decide +kernel
theorem dX5_told_14 : decode cX5_told 14 = .ok (.iload_n 1, 1) := by decide +kernel
theorem dX5_told_15 : decode cX5_told 15 = .ok (.istore 6, 2) := by decide +kernel
theorem dX5_told_17 : decode cX5_told 17 = .ok (.iload 6, 2) := by decide +kernel
theorem dX5_told_19 : decode cX5_told 19 = .ok (.iload_n 2, 1) := by decide +kernel
theorem dX5_told_20 : decode cX5_told 20 = .ok (.if_icmp .ge 36, 3) := by decide +kernel
theorem dX5_told_23 : decode cX5_told 23 = .ok (.iload 5, 2) := by decide +kernel
theorem dX5_told_25 : decode cX5_told 25 = .ok (.aload_n 0, 1) := by decide +kernel
theorem dX5_told_26 : decode cX5_told 26 = .ok (.getfield 117, 3) := by decide +kernel
theorem dX5_told_29 : decode cX5_told 29 = .ok (.getfield 163, 3) := by decide +kernel
theorem dX5_told_32 : decode cX5_told 32 = .ok (.iload 6, 2) := by decide +kernel
theorem dX5_told_34 : decode cX5_told 34 = .ok (.invokevirtual 146, 3) := by decide +kernel
theorem dX5_told_37 : decode cX5_told 37 = .ok (.iload 4, 2) := by decide +kernel
theorem dX5_told_39 : decode cX5_told 39 = .ok (.if_icmp .lt 7, 3) := by decide +kernel
theorem dX5_told_42 : decode cX5_told 42 = .ok (.iconst 1, 1) := by decide +kernel
theorem dX5_told_43 : decode cX5_told 43 = .ok (.goto 4, 3) := by decide +kernel
theorem dX5_told_47 : decode cX5_told 47 = .ok (.iadd, 1) := by decide +kernel
theorem dX5_told_48 : decode cX5_told 48 = .ok (.istore 5, 2) := by decide +kernel
theorem dX5_told_50 : decode cX5_told 50 = .ok (.iinc 6 1, 3) := by decide +kernel
theorem dX5_told_53 : decode cX5_told 53 = .ok (.goto (-36), 3) := by decide +kernel
theorem dX5_told_56 : decode cX5_told 56 = .ok (.new 27, 3) := by decide +kernel
theorem dX5_told_59 : decode cX5_told 59 = .ok (.dup, 1) := by decide +kernel
theorem dX5_told_60 : decode cX5_told 60 = .ok (.iload 5, 2) := by decide +kernel
theorem dX5_told_62 : decode cX5_told 62 = .ok (.invokespecial 29, 3) := by decide +kernel
theorem dX5_told_65 : decode cX5_told 65 = .ok (.astore 6, 2) := by decide +kernel
theorem dX5_told_67 : decode cX5_told 67 = .ok (.iload_n 1, 1) := by decide +kernel
theorem dX5_told_68 : decode cX5_told 68 = .ok (.istore 7, 2) := by decide +kernel
theorem dX5_told_70 : decode cX5_told 70 = .ok (.iload 7, 2) := by decide +kernel
theorem dX5_told_72 : decode cX5_told 72 = .ok (.iload_n 2, 1) := by decide +kernel
theorem dX5_told_73 : decode cX5_told 73 = .ok (.if_icmp .ge 48, 3) := by decide +kernel
theorem dX5_told_76 : decode cX5_told 76 = .ok (.aload_n 0, 1) := by decide +kernel
theorem dX5_told_77 : decode cX5_told 77 = .ok (.getfield 117, 3) := by decide +kernel
theorem dX5_told_80 : decode cX5_told 80 = .ok (.getfield 163, 3) := by decide +kernel
theorem dX5_told_83 : decode cX5_told 83 = .ok (.iload 7, 2) := by decide +kernel
theorem dX5_told_85 : decode cX5_told 85 = .ok (.invokevirtual 146, 3) := by decide +kernel
theorem dX5_told_88 : decode cX5_told 88 = .ok (.istore 8, 2) := by decide +kernel
theorem dX5_told_90 : decode cX5_told 90 = .ok (.iload 8, 2) := by decide +kernel
theorem dX5_told_92 : decode cX5_told 92 = .ok (.iload 4, 2) := by decide +kernel
theorem dX5_told_94 : decode cX5_told 94 = .ok (.if_icmp .lt 21, 3) := by decide +kernel
theorem dX5_told_97 : decode cX5_told 97 = .ok (.aload 6, 2) := by decide +kernel
theorem dX5_told_99 : decode cX5_told 99 = .ok (.iload 8, 2) := by decide +kernel
theorem dX5_told_101 : decode cX5_told 101 = .ok (.iconst 2, 1) := by decide +kernel
theorem dX5_told_102 : decode cX5_told 102 = .ok (.if_icmp .ne 8, 3) := by decide +kernel
theorem dX5_told_110 : decode cX5_told 110 = .ok (.iload 8, 2) := by decide +kernel
theorem dX5_told_112 : decode cX5_told 112 = .ok (.invokevirtual 150, 3) := by decide +kernel
theorem dX5_told_115 : decode cX5_told 115 = .ok (.iinc 7 1, 3) := by decide +kernel
theorem dX5_told_118 : decode cX5_told 118 = .ok (.goto (-48), 3) := by decide +kernel
theorem dX5_told_121 : decode cX5_told 121 = .ok (.aload 6, 2) := by decide +kernel
theorem dX5_told_123 : decode cX5_told 123 = .ok (.areturn, 1) := by decide +kernel
theorem dX5_emit_0 : decode cX5_emit 0 = .ok (.aload_n 0, 1) := by decide +kernel
theorem dX5_emit_1 : decode cX5_emit 1 = .ok (.getfield 50, 3) := by decide +kernel
theorem dX5_emit_4 : decode cX5_emit 4 = .ok (.aload_n 0, 1) := by decide +kernel
theorem dX5_emit_5 : decode cX5_emit 5 = .ok (.getfield 17, 3) := by decide +kernel
theorem dX5_emit_8 : decode cX5_emit 8 = .ok (.arraylength, 1) := by decide +kernel
theorem dX5_emit_9 : decode cX5_emit 9 = .ok (.if_icmp .lt 33, 3) := by decide +kernel
theorem dX5_emit_42 : decode cX5_emit 42 = .ok (.aload_n 0, 1) := by decide +kernel
theorem dX5_emit_43 : decode cX5_emit 43 = .ok (.getfield 17, 3) := by decide +kernel
theorem dX5_emit_46 : decode cX5_emit 46 = .ok (.aload_n 0, 1) := by decide +kernel
theorem dX5_emit_47 : decode cX5_emit 47 = .ok (.getfield 50, 3) := by decide +kernel
theorem dX5_emit_50 : decode cX5_emit 50 = .ok (.iload_n 1, 1) := by decide +kernel
theorem dX5_emit_51 : decode cX5_emit 51 = .ok (.iastore, 1) := by decide +kernel
theorem dX5_emit_52 : decode cX5_emit 52 = .ok (.aload_n 0, 1) := by decide +kernel
theorem dX5_emit_53 : decode cX5_emit 53 = .ok (.dup, 1) := by decide +kernel
theorem dX5_emit_54 : decode cX5_emit 54 = .ok (.getfield 50, 3) := by decide +kernel
theorem dX5_emit_57 : decode cX5_emit 57 = .ok (.iconst 1, 1) := by decide +kernel
theorem dX5_emit_58 : decode cX5_emit 58 = .ok (.iadd, 1) := by decide +kernel
theorem dX5_emit_59 : decode cX5_emit 59 = .ok (.putfield 50, 3) := by decide +kernel
theorem dX5_emit_62 : decode cX5_emit 62 = .ok (.return_, 1) := by decide +kernel
theorem dX5_cutCode_0 : decode cX5_cutCode 0 = .ok (.iconst 0, 1) := by decide +kernel
theorem dX5_cutCode_1 : decode cX5_cutCode 1 = .ok (.aload_n 0, 1) := by decide +kernel
theorem dX5_cutCode_2 : decode cX5_cutCode 2 = .ok (.getfield 50, 3) := by decide +kernel
theorem dX5_cutCode_5 : decode cX5_cutCode 5 = .ok (.iload_n 1, 1) := by decide +kernel
theorem dX5_cutCode_6 : decode cX5_cutCode 6 = .ok (.isub, 1) := by decide +kernel
theorem dX5_cutCode_7 : decode cX5_cutCode 7 = .ok (.invokestatic 180, 3) := by decide +kernel
theorem dX5_cutCode_10 : decode cX5_cutCode 10 = .ok (.newarray .int, 2) := by decide +kernel
theorem dX5_cutCode_12 : decode cX5_cutCode 12 = .ok (.astore_n 2, 1) := by decide +kernel
theorem dX5_cutCode_13 : decode cX5_cutCode 13 = .ok (.iconst 0, 1) := by decide +kernel
theorem dX5_cutCode_14 : decode cX5_cutCode 14 = .ok (.istore_n 3, 1) := by decide +kernel
theorem dX5_cutCode_15 : decode cX5_cutCode 15 = .ok (.iload_n 3, 1) := by decide +kernel
theorem dX5_cutCode_16 : decode cX5_cutCode 16 = .ok (.aload_n 2, 1) := by decide +kernel
theorem dX5_cutCode_17 : decode cX5_cutCode 17 = .ok (.arraylength, 1) := by decide +kernel
theorem dX5_cutCode_18 : decode cX5_cutCode 18 = .ok (.if_icmp .ge 31, 3) := by decide +kernel
theorem dX5_cutCode_21 : decode cX5_cutCode 21 = .ok (.iload_n 1, 1) := by decide +kernel
theorem dX5_cutCode_22 : decode cX5_cutCode 22 = .ok (.iload_n 3, 1) := by decide +kernel
theorem dX5_cutCode_23 : decode cX5_cutCode 23 = .ok (.iadd, 1) := by decide +kernel
theorem dX5_cutCode_24 : decode cX5_cutCode 24 = .ok (.aload_n 0, 1) := by decide +kernel
theorem dX5_cutCode_25 : decode cX5_cutCode 25 = .ok (.getfield 17, 3) := by decide +kernel
theorem dX5_cutCode_28 : decode cX5_cutCode 28 = .ok (.arraylength, 1) := by decide +kernel
theorem dX5_cutCode_29 : decode cX5_cutCode 29 = .ok (.if_icmp .ge 20, 3) := by decide +kernel
theorem dX5_cutCode_32 : decode cX5_cutCode 32 = .ok (.aload_n 2, 1) := by decide +kernel
theorem dX5_cutCode_33 : decode cX5_cutCode 33 = .ok (.iload_n 3, 1) := by decide +kernel
theorem dX5_cutCode_34 : decode cX5_cutCode 34 = .ok (.aload_n 0, 1) := by decide +kernel
theorem dX5_cutCode_35 : decode cX5_cutCode 35 = .ok (.getfield 17, 3) := by decide +kernel
theorem dX5_cutCode_38 : decode cX5_cutCode 38 = .ok (.iload_n 1, 1) := by decide +kernel
theorem dX5_cutCode_39 : decode cX5_cutCode 39 = .ok (.iload_n 3, 1) := by decide +kernel
theorem dX5_cutCode_40 : decode cX5_cutCode 40 = .ok (.iadd, 1) := by decide +kernel
theorem dX5_cutCode_41 : decode cX5_cutCode 41 = .ok (.iaload, 1) := by decide +kernel
theorem dX5_cutCode_42 : decode cX5_cutCode 42 = .ok (.iastore, 1) := by decide +kernel
theorem dX5_cutCode_43 : decode cX5_cutCode 43 = .ok (.iinc 3 1, 3) := by decide +kernel
theorem dX5_cutCode_46 : decode cX5_cutCode 46 = .ok (.goto (-31), 3) := by decide +kernel
theorem dX5_cutCode_49 : decode cX5_cutCode 49 = .ok (.aload_n 0, 1) := by decide +kernel
theorem dX5_cutCode_50 : decode cX5_cutCode 50 = .ok (.iload_n 1, 1) := by decide +kernel
theorem dX5_cutCode_51 : decode cX5_cutCode 51 = .ok (.putfield 50, 3) := by decide +kernel
theorem dX5_cutCode_54 : decode cX5_cutCode 54 = .ok (.aload_n 2, 1) := by decide +kernel
theorem dX5_cutCode_55 : decode cX5_cutCode 55 = .ok (.areturn, 1) := by decide +kernel
theorem dX5_nextToken_0 : decode cX5_nextToken 0 = .ok (.aload_n 0, 1) := by decide +kernel
theorem dX5_nextToken_1 : decode cX5_nextToken 1 = .ok (.aload_n 1, 1) := by decide +kernel
theorem dX5_nextToken_2 : decode cX5_nextToken 2 = .ok (.getfield 186, 3) := by decide +kernel
theorem dX5_nextToken_5 : decode cX5_nextToken 5 = .ok (.invokevirtual 189, 3) := by decide +kernel
theorem dX5_nextToken_8 : decode cX5_nextToken 8 = .ok (.istore_n 2, 1) := by decide +kernel
theorem dX5_nextToken_9 : decode cX5_nextToken 9 = .ok (.aload_n 0, 1) := by decide +kernel
theorem dX5_nextToken_10 : decode cX5_nextToken 10 = .ok (.aload_n 0, 1) := by decide +kernel
theorem dX5_nextToken_11 : decode cX5_nextToken 11 = .ok (.getfield 117, 3) := by decide +kernel
theorem dX5_nextToken_14 : decode cX5_nextToken 14 = .ok (.getfield 121, 3) := by decide +kernel
theorem dX5_nextToken_17 : decode cX5_nextToken 17 = .ok (.putfield 130, 3) := by decide +kernel
theorem dX5_nextToken_20 : decode cX5_nextToken 20 = .ok (.aload_n 0, 1) := by decide +kernel
theorem dX5_nextToken_21 : decode cX5_nextToken 21 = .ok (.iconst 0, 1) := by decide +kernel
theorem dX5_nextToken_22 : decode cX5_nextToken 22 = .ok (.putfield 193, 3) := by decide +kernel
theorem dX5_nextToken_25 : decode cX5_nextToken 25 = .ok (.aload_n 0, 1) := by decide +kernel
theorem dX5_nextToken_26 : decode cX5_nextToken 26 = .ok (.invokevirtual 196, 3) := by decide +kernel
theorem dX5_nextToken_29 : decode cX5_nextToken 29 = .ok (.istore_n 3, 1) := by decide +kernel
theorem dX5_nextToken_30 : decode cX5_nextToken 30 = .ok (.iload_n 3, 1) := by decide +kernel
theorem dX5_nextToken_31 : decode cX5_nextToken 31 = .ok (.iconst (-1), 1) := by decide +kernel
theorem dX5_nextToken_32 : decode cX5_nextToken 32 = .ok (.if_icmp .ne 17, 3) := by decide +kernel
theorem dX5_nextToken_35 : decode cX5_nextToken 35 = .ok (.aload_n 0, 1) := by decide +kernel
theorem dX5_nextToken_36 : decode cX5_nextToken 36 = .ok (.bipush 19, 2) := by decide +kernel
theorem dX5_nextToken_38 : decode cX5_nextToken 38 = .ok (.putfield 114, 3) := by decide +kernel
theorem dX5_nextToken_41 : decode cX5_nextToken 41 = .ok (.aload_n 0, 1) := by decide +kernel
theorem dX5_nextToken_42 : decode cX5_nextToken 42 = .ok (.iconst 1, 1) := by decide +kernel
theorem dX5_nextToken_43 : decode cX5_nextToken 43 = .ok (.putfield 77, 3) := by decide +kernel
theorem dX5_nextToken_46 : decode cX5_nextToken 46 = .ok (.goto 93, 3) := by decide +kernel
theorem dX5_nextToken_49 : decode cX5_nextToken 49 = .ok (.iload_n 3, 1) := by decide +kernel
theorem dX5_nextToken_50 : decode cX5_nextToken 50 = .ok (.invokestatic 200, 3) := by decide +kernel
theorem dX5_nextToken_53 : decode cX5_nextToken 53 = .ok (.ifCond .eq 25, 3) := by decide +kernel
theorem dX5_nextToken_56 : decode cX5_nextToken 56 = .ok (.aload_n 0, 1) := by decide +kernel
theorem dX5_nextToken_57 : decode cX5_nextToken 57 = .ok (.iload_n 3, 1) := by decide +kernel
theorem dX5_nextToken_58 : decode cX5_nextToken 58 = .ok (.invokevirtual 168, 3) := by decide +kernel
theorem dX5_nextToken_61 : decode cX5_nextToken 61 = .ok (.aload_n 0, 1) := by decide +kernel
theorem dX5_nextToken_62 : decode cX5_nextToken 62 = .ok (.aload_n 0, 1) := by decide +kernel
theorem dX5_nextToken_63 : decode cX5_nextToken 63 = .ok (.iload_n 3, 1) := by decide +kernel
theorem dX5_nextToken_64 : decode cX5_nextToken 64 = .ok (.invokevirtual 203, 3) := by decide +kernel
theorem dX5_nextToken_67 : decode cX5_nextToken 67 = .ok (.putfield 114, 3) := by decide +kernel
theorem dX5_nextToken_70 : decode cX5_nextToken 70 = .ok (.aload_n 0, 1) := by decide +kernel
theorem dX5_nextToken_71 : decode cX5_nextToken 71 = .ok (.iconst 1, 1) := by decide +kernel
theorem dX5_nextToken_72 : decode cX5_nextToken 72 = .ok (.putfield 77, 3) := by decide +kernel
theorem dX5_nextToken_75 : decode cX5_nextToken 75 = .ok (.goto 64, 3) := by decide +kernel
theorem dX5_nextToken_78 : decode cX5_nextToken 78 = .ok (.aload_n 0, 1) := by decide +kernel
theorem dX5_nextToken_79 : decode cX5_nextToken 79 = .ok (.bipush 24, 2) := by decide +kernel
theorem dX5_nextToken_81 : decode cX5_nextToken 81 = .ok (.iconst 0, 1) := by decide +kernel
theorem dX5_nextToken_82 : decode cX5_nextToken 82 = .ok (.aload_n 1, 1) := by decide +kernel
theorem dX5_nextToken_83 : decode cX5_nextToken 83 = .ok (.getfield 186, 3) := by decide +kernel
theorem dX5_nextToken_86 : decode cX5_nextToken 86 = .ok (.invokevirtual 157, 3) := by decide +kernel
theorem dX5_nextToken_89 : decode cX5_nextToken 89 = .ok (.astore 4, 2) := by decide +kernel
theorem dX5_nextToken_91 : decode cX5_nextToken 91 = .ok (.aload 4, 2) := by decide +kernel
theorem dX5_nextToken_93 : decode cX5_nextToken 93 = .ok (.aload_n 0, 1) := by decide +kernel
theorem dX5_nextToken_94 : decode cX5_nextToken 94 = .ok (.getfield 117, 3) := by decide +kernel
theorem dX5_nextToken_97 : decode cX5_nextToken 97 = .ok (.getfield 121, 3) := by decide +kernel
theorem dX5_nextToken_100 : decode cX5_nextToken 100 = .ok (.putfield 206, 3) := by decide +kernel
theorem dX5_nextToken_103 : decode cX5_nextToken 103 = .ok (.aload 4, 2) := by decide +kernel
theorem dX5_nextToken_105 : decode cX5_nextToken 105 = .ok (.aload_n 0, 1) := by decide +kernel
theorem dX5_nextToken_106 : decode cX5_nextToken 106 = .ok (.getfield 117, 3) := by decide +kernel
theorem dX5_nextToken_109 : decode cX5_nextToken 109 = .ok (.getfield 166, 3) := by decide +kernel
theorem dX5_nextToken_112 : decode cX5_nextToken 112 = .ok (.putfield 207, 3) := by decide +kernel
theorem dX5_nextToken_115 : decode cX5_nextToken 115 = .ok (.aload 4, 2) := by decide +kernel
theorem dX5_nextToken_117 : decode cX5_nextToken 117 = .ok (.aload_n 0, 1) := by decide +kernel
theorem dX5_nextToken_118 : decode cX5_nextToken 118 = .ok (.getfield 50, 3) := by decide +kernel
theorem dX5_nextToken_121 : decode cX5_nextToken 121 = .ok (.putfield 210, 3) := by decide +kernel
theorem dX5_nextToken_124 : decode cX5_nextToken 124 = .ok (.aload 4, 2) := by decide +kernel
theorem dX5_nextToken_126 : decode cX5_nextToken 126 = .ok (.iload_n 2, 1) := by decide +kernel
theorem dX5_nextToken_127 : decode cX5_nextToken 127 = .ok (.ifCond .eq 8, 3) := by decide +kernel
theorem dX5_nextToken_130 : decode cX5_nextToken 130 = .ok (.bipush 16, 2) := by decide +kernel
theorem dX5_nextToken_132 : decode cX5_nextToken 132 = .ok (.goto 4, 3) := by decide +kernel
theorem dX5_nextToken_135 : decode cX5_nextToken 135 = .ok (.iconst 0, 1) := by decide +kernel
theorem dX5_nextToken_136 : decode cX5_nextToken 136 = .ok (.putfield 213, 3) := by decide +kernel
theorem dX5_nextToken_139 : decode cX5_nextToken 139 = .ok (.return_, 1) := by decide +kernel
theorem dX5_skipBlanks_0 : decode cX5_skipBlanks 0 = .ok (.iconst 0, 1) := by decide +kernel
theorem dX5_skipBlanks_1 : decode cX5_skipBlanks 1 = .ok (.istore_n 2, 1) := by decide +kernel
theorem dX5_skipBlanks_2 : decode cX5_skipBlanks 2 = .ok (.iconst 0, 1) := by decide +kernel
theorem dX5_skipBlanks_3 : decode cX5_skipBlanks 3 = .ok (.istore_n 3, 1) := by decide +kernel
theorem dX5_skipBlanks_4 : decode cX5_skipBlanks 4 = .ok (.iload_n 3, 1) := by decide +kernel
theorem dX5_skipBlanks_5 : decode cX5_skipBlanks 5 = .ok (.ldc 80, 2) := by decide +kernel
theorem dX5_skipBlanks_7 : decode cX5_skipBlanks 7 = .ok (.if_icmp .ge 204, 3) := by decide +kernel
theorem dX5_skipBlanks_10 : decode cX5_skipBlanks 10 = .ok (.aload_n 0, 1) := by decide +kernel
theorem dX5_skipBlanks_11 : decode cX5_skipBlanks 11 = .ok (.invokevirtual 196, 3) := by decide +kernel
theorem dX5_skipBlanks_14 : decode cX5_skipBlanks 14 = .ok (.istore 4, 2) := by decide +kernel
theorem dX5_skipBlanks_16 : decode cX5_skipBlanks 16 = .ok (.iload 4, 2) := by decide +kernel
theorem dX5_skipBlanks_18 : decode cX5_skipBlanks 18 = .ok (.bipush 32, 2) := by decide +kernel
theorem dX5_skipBlanks_20 : decode cX5_skipBlanks 20 = .ok (.if_icmp .eq 10, 3) := by decide +kernel
theorem dX5_skipBlanks_23 : decode cX5_skipBlanks 23 = .ok (.iload 4, 2) := by decide +kernel
theorem dX5_skipBlanks_25 : decode cX5_skipBlanks 25 = .ok (.bipush 9, 2) := by decide +kernel
theorem dX5_skipBlanks_27 : decode cX5_skipBlanks 27 = .ok (.if_icmp .ne 12, 3) := by decide +kernel
theorem dX5_skipBlanks_30 : decode cX5_skipBlanks 30 = .ok (.aload_n 0, 1) := by decide +kernel
theorem dX5_skipBlanks_31 : decode cX5_skipBlanks 31 = .ok (.iload 4, 2) := by decide +kernel
theorem dX5_skipBlanks_33 : decode cX5_skipBlanks 33 = .ok (.invokevirtual 168, 3) := by decide +kernel
theorem dX5_skipBlanks_36 : decode cX5_skipBlanks 36 = .ok (.goto 169, 3) := by decide +kernel
theorem dX5_skipBlanks_39 : decode cX5_skipBlanks 39 = .ok (.iload 4, 2) := by decide +kernel
theorem dX5_skipBlanks_41 : decode cX5_skipBlanks 41 = .ok (.bipush 35, 2) := by decide +kernel
theorem dX5_skipBlanks_43 : decode cX5_skipBlanks 43 = .ok (.if_icmp .ne 61, 3) := by decide +kernel
theorem dX5_skipBlanks_104 : decode cX5_skipBlanks 104 = .ok (.iload 4, 2) := by decide +kernel
theorem dX5_skipBlanks_106 : decode cX5_skipBlanks 106 = .ok (.iconst (-1), 1) := by decide +kernel
theorem dX5_skipBlanks_107 : decode cX5_skipBlanks 107 = .ok (.if_icmp .ne 96, 3) := by decide +kernel
theorem dX5_skipBlanks_110 : decode cX5_skipBlanks 110 = .ok (.aload_n 0, 1) := by decide +kernel
theorem dX5_skipBlanks_111 : decode cX5_skipBlanks 111 = .ok (.getfield 117, 3) := by decide +kernel
theorem dX5_skipBlanks_114 : decode cX5_skipBlanks 114 = .ok (.getfield 219, 3) := by decide +kernel
theorem dX5_skipBlanks_117 : decode cX5_skipBlanks 117 = .ok (.ifnull 86, 3) := by decide +kernel
theorem dX5_skipBlanks_120 : decode cX5_skipBlanks 120 = .ok (.aload_n 0, 1) := by decide +kernel
theorem dX5_skipBlanks_121 : decode cX5_skipBlanks 121 = .ok (.getfield 117, 3) := by decide +kernel
theorem dX5_skipBlanks_124 : decode cX5_skipBlanks 124 = .ok (.aload_n 1, 1) := by decide +kernel
theorem dX5_skipBlanks_125 : decode cX5_skipBlanks 125 = .ok (.getfield 161, 3) := by decide +kernel
theorem dX5_skipBlanks_128 : decode cX5_skipBlanks 128 = .ok (.if_acmp .eq 75, 3) := by decide +kernel
theorem dX5_skipBlanks_131 : decode cX5_skipBlanks 131 = .ok (.aload_n 0, 1) := by decide +kernel
theorem dX5_skipBlanks_132 : decode cX5_skipBlanks 132 = .ok (.getfield 117, 3) := by decide +kernel
theorem dX5_skipBlanks_135 : decode cX5_skipBlanks 135 = .ok (.getfield 223, 3) := by decide +kernel
theorem dX5_skipBlanks_138 : decode cX5_skipBlanks 138 = .ok (.ifnull 65, 3) := by decide +kernel
theorem dX5_skipBlanks_141 : decode cX5_skipBlanks 141 = .ok (.aload_n 0, 1) := by decide +kernel
theorem dX5_skipBlanks_142 : decode cX5_skipBlanks 142 = .ok (.getfield 117, 3) := by decide +kernel
theorem dX5_skipBlanks_145 : decode cX5_skipBlanks 145 = .ok (.getfield 163, 3) := by decide +kernel
theorem dX5_skipBlanks_148 : decode cX5_skipBlanks 148 = .ok (.aload_n 0, 1) := by decide +kernel
theorem dX5_skipBlanks_149 : decode cX5_skipBlanks 149 = .ok (.getfield 117, 3) := by decide +kernel
theorem dX5_skipBlanks_152 : decode cX5_skipBlanks 152 = .ok (.getfield 163, 3) := by decide +kernel
theorem dX5_skipBlanks_155 : decode cX5_skipBlanks 155 = .ok (.getfield 66, 3) := by decide +kernel
theorem dX5_skipBlanks_158 : decode cX5_skipBlanks 158 = .ok (.iconst 1, 1) := by decide +kernel
theorem dX5_skipBlanks_159 : decode cX5_skipBlanks 159 = .ok (.isub, 1) := by decide +kernel
theorem dX5_skipBlanks_160 : decode cX5_skipBlanks 160 = .ok (.invokevirtual 146, 3) := by decide +kernel
theorem dX5_skipBlanks_163 : decode cX5_skipBlanks 163 = .ok (.istore 5, 2) := by decide +kernel
theorem dX5_skipBlanks_165 : decode cX5_skipBlanks 165 = .ok (.iload_n 2, 1) := by decide +kernel
theorem dX5_skipBlanks_166 : decode cX5_skipBlanks 166 = .ok (.ifCond .ne 17, 3) := by decide +kernel
theorem dX5_skipBlanks_169 : decode cX5_skipBlanks 169 = .ok (.iload 5, 2) := by decide +kernel
theorem dX5_skipBlanks_171 : decode cX5_skipBlanks 171 = .ok (.bipush 32, 2) := by decide +kernel
theorem dX5_skipBlanks_173 : decode cX5_skipBlanks 173 = .ok (.if_icmp .eq 10, 3) := by decide +kernel
theorem dX5_skipBlanks_183 : decode cX5_skipBlanks 183 = .ok (.iconst 1, 1) := by decide +kernel
theorem dX5_skipBlanks_184 : decode cX5_skipBlanks 184 = .ok (.goto 4, 3) := by decide +kernel
theorem dX5_skipBlanks_188 : decode cX5_skipBlanks 188 = .ok (.istore_n 2, 1) := by decide +kernel
theorem dX5_skipBlanks_189 : decode cX5_skipBlanks 189 = .ok (.aload_n 0, 1) := by decide +kernel
theorem dX5_skipBlanks_190 : decode cX5_skipBlanks 190 = .ok (.aload_n 0, 1) := by decide +kernel
theorem dX5_skipBlanks_191 : decode cX5_skipBlanks 191 = .ok (.getfield 117, 3) := by decide +kernel
theorem dX5_skipBlanks_194 : decode cX5_skipBlanks 194 = .ok (.getfield 223, 3) := by decide +kernel
theorem dX5_skipBlanks_197 : decode cX5_skipBlanks 197 = .ok (.putfield 117, 3) := by decide +kernel
theorem dX5_skipBlanks_200 : decode cX5_skipBlanks 200 = .ok (.goto 5, 3) := by decide +kernel
theorem dX5_skipBlanks_203 : decode cX5_skipBlanks 203 = .ok (.iload_n 2, 1) := by decide +kernel
theorem dX5_skipBlanks_204 : decode cX5_skipBlanks 204 = .ok (.ireturn, 1) := by decide +kernel
theorem dX5_skipBlanks_205 : decode cX5_skipBlanks 205 = .ok (.iinc 3 1, 3) := by decide +kernel
theorem dX5_skipBlanks_208 : decode cX5_skipBlanks 208 = .ok (.goto (-204), 3) := by decide +kernel
theorem dX5_endsWord_0 : decode cX5_endsWord 0 = .ok (.iload_n 0, 1) := by decide +kernel
theorem dX5_endsWord_1 : decode cX5_endsWord 1 = .ok (.lookupswitch 93 #[(9, 91), (10, 91), (32, 91), (38, 91), (40, 91), (41, 91), (59, 91), (60, 91), (62, 91), (124, 91)], 91) := by decide +kernel
theorem dX5_endsWord_92 : decode cX5_endsWord 92 = .ok (.iconst 1, 1) := by decide +kernel
theorem dX5_endsWord_93 : decode cX5_endsWord 93 = .ok (.ireturn, 1) := by decide +kernel
theorem dX5_endsWord_94 : decode cX5_endsWord 94 = .ok (.iload_n 0, 1) := by decide +kernel
theorem dX5_endsWord_95 : decode cX5_endsWord 95 = .ok (.iconst (-1), 1) := by decide +kernel
theorem dX5_endsWord_96 : decode cX5_endsWord 96 = .ok (.if_icmp .ne 7, 3) := by decide +kernel
theorem dX5_endsWord_103 : decode cX5_endsWord 103 = .ok (.iconst 0, 1) := by decide +kernel
theorem dX5_endsWord_104 : decode cX5_endsWord 104 = .ok (.ireturn, 1) := by decide +kernel
theorem dX5_operator_0 : decode cX5_operator 0 = .ok (.iload_n 1, 1) := by decide +kernel
theorem dX5_operator_1 : decode cX5_operator 1 = .ok (.lookupswitch 153 #[(10, 67), (38, 75), (40, 69), (41, 72), (59, 107), (62, 122), (124, 91)], 67) := by decide +kernel
theorem dX5_operator_68 : decode cX5_operator 68 = .ok (.iconst 1, 1) := by decide +kernel
theorem dX5_operator_69 : decode cX5_operator 69 = .ok (.ireturn, 1) := by decide +kernel
theorem dX5_endWord_0 : decode cX5_endWord 0 = .ok (.new 21, 3) := by decide +kernel
theorem dX5_endWord_3 : decode cX5_endWord 3 = .ok (.dup, 1) := by decide +kernel
theorem dX5_endWord_4 : decode cX5_endWord 4 = .ok (.bipush 11, 2) := by decide +kernel
theorem dX5_endWord_6 : decode cX5_endWord 6 = .ok (.invokespecial 229, 3) := by decide +kernel
theorem dX5_endWord_9 : decode cX5_endWord 9 = .ok (.astore_n 2, 1) := by decide +kernel
theorem dX5_endWord_10 : decode cX5_endWord 10 = .ok (.aload_n 2, 1) := by decide +kernel
theorem dX5_endWord_11 : decode cX5_endWord 11 = .ok (.aload_n 0, 1) := by decide +kernel
theorem dX5_endWord_12 : decode cX5_endWord 12 = .ok (.aload_n 1, 1) := by decide +kernel
theorem dX5_endWord_13 : decode cX5_endWord 13 = .ok (.getfield 210, 3) := by decide +kernel
theorem dX5_endWord_16 : decode cX5_endWord 16 = .ok (.invokevirtual 230, 3) := by decide +kernel
theorem dX5_endWord_19 : decode cX5_endWord 19 = .ok (.putfield 234, 3) := by decide +kernel
theorem dX5_endWord_22 : decode cX5_endWord 22 = .ok (.aload_n 2, 1) := by decide +kernel
theorem dX5_endWord_23 : decode cX5_endWord 23 = .ok (.aload_n 0, 1) := by decide +kernel
theorem dX5_endWord_24 : decode cX5_endWord 24 = .ok (.getfield 56, 3) := by decide +kernel
theorem dX5_endWord_27 : decode cX5_endWord 27 = .ok (.ifCond .eq 10, 3) := by decide +kernel
theorem dX5_endWord_37 : decode cX5_endWord 37 = .ok (.aload_n 0, 1) := by decide +kernel
theorem dX5_endWord_38 : decode cX5_endWord 38 = .ok (.aload_n 1, 1) := by decide +kernel
theorem dX5_endWord_39 : decode cX5_endWord 39 = .ok (.getfield 207, 3) := by decide +kernel
theorem dX5_endWord_42 : decode cX5_endWord 42 = .ok (.aload_n 0, 1) := by decide +kernel
theorem dX5_endWord_43 : decode cX5_endWord 43 = .ok (.getfield 117, 3) := by decide +kernel
theorem dX5_endWord_46 : decode cX5_endWord 46 = .ok (.getfield 166, 3) := by decide +kernel
theorem dX5_endWord_49 : decode cX5_endWord 49 = .ok (.iconst 1, 1) := by decide +kernel
theorem dX5_endWord_50 : decode cX5_endWord 50 = .ok (.invokevirtual 239, 3) := by decide +kernel
theorem dX5_endWord_53 : decode cX5_endWord 53 = .ok (.goto 10, 3) := by decide +kernel
theorem dX5_endWord_63 : decode cX5_endWord 63 = .ok (.putfield 248, 3) := by decide +kernel
theorem dX5_endWord_66 : decode cX5_endWord 66 = .ok (.aload_n 0, 1) := by decide +kernel
theorem dX5_endWord_67 : decode cX5_endWord 67 = .ok (.aload_n 2, 1) := by decide +kernel
theorem dX5_endWord_68 : decode cX5_endWord 68 = .ok (.putfield 250, 3) := by decide +kernel
theorem dX5_endWord_71 : decode cX5_endWord 71 = .ok (.aload_n 0, 1) := by decide +kernel
theorem dX5_endWord_72 : decode cX5_endWord 72 = .ok (.aload_n 1, 1) := by decide +kernel
theorem dX5_endWord_73 : decode cX5_endWord 73 = .ok (.getfield 206, 3) := by decide +kernel
theorem dX5_endWord_76 : decode cX5_endWord 76 = .ok (.putfield 130, 3) := by decide +kernel
theorem dX5_endWord_79 : decode cX5_endWord 79 = .ok (.aload_n 0, 1) := by decide +kernel
theorem dX5_endWord_80 : decode cX5_endWord 80 = .ok (.aload_n 1, 1) := by decide +kernel
theorem dX5_endWord_81 : decode cX5_endWord 81 = .ok (.bipush 16, 2) := by decide +kernel
theorem dX5_endWord_83 : decode cX5_endWord 83 = .ok (.invokevirtual 89, 3) := by decide +kernel
theorem dX5_endWord_86 : decode cX5_endWord 86 = .ok (.putfield 253, 3) := by decide +kernel
theorem dX5_endWord_89 : decode cX5_endWord 89 = .ok (.aload_n 0, 1) := by decide +kernel
theorem dX5_endWord_90 : decode cX5_endWord 90 = .ok (.dup, 1) := by decide +kernel
theorem dX5_endWord_91 : decode cX5_endWord 91 = .ok (.getfield 47, 3) := by decide +kernel
theorem dX5_endWord_94 : decode cX5_endWord 94 = .ok (.iconst 1, 1) := by decide +kernel
theorem dX5_endWord_95 : decode cX5_endWord 95 = .ok (.isub, 1) := by decide +kernel
theorem dX5_endWord_96 : decode cX5_endWord 96 = .ok (.putfield 47, 3) := by decide +kernel
theorem dX5_endWord_99 : decode cX5_endWord 99 = .ok (.aload_n 0, 1) := by decide +kernel
theorem dX5_endWord_100 : decode cX5_endWord 100 = .ok (.invokevirtual 196, 3) := by decide +kernel
theorem dX5_endWord_103 : decode cX5_endWord 103 = .ok (.istore_n 3, 1) := by decide +kernel
theorem dX5_endWord_104 : decode cX5_endWord 104 = .ok (.aload_n 2, 1) := by decide +kernel
theorem dX5_endWord_105 : decode cX5_endWord 105 = .ok (.getfield 248, 3) := by decide +kernel
theorem dX5_endWord_108 : decode cX5_endWord 108 = .ok (.getfield 66, 3) := by decide +kernel
theorem dX5_endWord_111 : decode cX5_endWord 111 = .ok (.iconst 1, 1) := by decide +kernel
theorem dX5_endWord_112 : decode cX5_endWord 112 = .ok (.if_icmp .ne 33, 3) := by decide +kernel
theorem dX5_endWord_115 : decode cX5_endWord 115 = .ok (.aload_n 2, 1) := by decide +kernel
theorem dX5_endWord_116 : decode cX5_endWord 116 = .ok (.getfield 248, 3) := by decide +kernel
theorem dX5_endWord_119 : decode cX5_endWord 119 = .ok (.iconst 0, 1) := by decide +kernel
theorem dX5_endWord_120 : decode cX5_endWord 120 = .ok (.invokevirtual 146, 3) := by decide +kernel
theorem dX5_endWord_123 : decode cX5_endWord 123 = .ok (.invokestatic 257, 3) := by decide +kernel
theorem dX5_endWord_126 : decode cX5_endWord 126 = .ok (.ifCond .eq 19, 3) := by decide +kernel
theorem dX5_endWord_145 : decode cX5_endWord 145 = .ok (.iconst 0, 1) := by decide +kernel
theorem dX5_endWord_146 : decode cX5_endWord 146 = .ok (.istore 4, 2) := by decide +kernel
theorem dX5_endWord_148 : decode cX5_endWord 148 = .ok (.aload_n 0, 1) := by decide +kernel
theorem dX5_endWord_149 : decode cX5_endWord 149 = .ok (.iload 4, 2) := by decide +kernel
theorem dX5_endWord_151 : decode cX5_endWord 151 = .ok (.ifCond .eq 8, 3) := by decide +kernel
theorem dX5_endWord_159 : decode cX5_endWord 159 = .ok (.bipush 17, 2) := by decide +kernel
theorem dX5_endWord_161 : decode cX5_endWord 161 = .ok (.putfield 114, 3) := by decide +kernel
theorem dX5_endWord_164 : decode cX5_endWord 164 = .ok (.aload_n 0, 1) := by decide +kernel
theorem dX5_endWord_165 : decode cX5_endWord 165 = .ok (.aload_n 0, 1) := by decide +kernel
theorem dX5_endWord_166 : decode cX5_endWord 166 = .ok (.aload_n 2, 1) := by decide +kernel
theorem dX5_endWord_167 : decode cX5_endWord 167 = .ok (.invokevirtual 260, 3) := by decide +kernel
theorem dX5_endWord_170 : decode cX5_endWord 170 = .ok (.putfield 193, 3) := by decide +kernel
theorem dX5_endWord_173 : decode cX5_endWord 173 = .ok (.aload_n 0, 1) := by decide +kernel
theorem dX5_endWord_174 : decode cX5_endWord 174 = .ok (.iconst 1, 1) := by decide +kernel
theorem dX5_endWord_175 : decode cX5_endWord 175 = .ok (.putfield 77, 3) := by decide +kernel
theorem dX5_endWord_178 : decode cX5_endWord 178 = .ok (.return_, 1) := by decide +kernel
theorem dX5_isPlain_0 : decode cX5_isPlain 0 = .ok (.iconst 0, 1) := by decide +kernel
theorem dX5_isPlain_1 : decode cX5_isPlain 1 = .ok (.istore_n 1, 1) := by decide +kernel
theorem dX5_isPlain_2 : decode cX5_isPlain 2 = .ok (.iload_n 1, 1) := by decide +kernel
theorem dX5_isPlain_3 : decode cX5_isPlain 3 = .ok (.aload_n 0, 1) := by decide +kernel
theorem dX5_isPlain_4 : decode cX5_isPlain 4 = .ok (.getfield 234, 3) := by decide +kernel
theorem dX5_isPlain_7 : decode cX5_isPlain 7 = .ok (.arraylength, 1) := by decide +kernel
theorem dX5_isPlain_8 : decode cX5_isPlain 8 = .ok (.if_icmp .ge 23, 3) := by decide +kernel
theorem dX5_isPlain_11 : decode cX5_isPlain 11 = .ok (.aload_n 0, 1) := by decide +kernel
theorem dX5_isPlain_12 : decode cX5_isPlain 12 = .ok (.getfield 234, 3) := by decide +kernel
theorem dX5_isPlain_15 : decode cX5_isPlain 15 = .ok (.iload_n 1, 1) := by decide +kernel
theorem dX5_isPlain_16 : decode cX5_isPlain 16 = .ok (.iaload, 1) := by decide +kernel
theorem dX5_isPlain_17 : decode cX5_isPlain 17 = .ok (.sipush 255, 3) := by decide +kernel
theorem dX5_isPlain_20 : decode cX5_isPlain 20 = .ok (.if_icmp .le 5, 3) := by decide +kernel
theorem dX5_isPlain_25 : decode cX5_isPlain 25 = .ok (.iinc 1 1, 3) := by decide +kernel
theorem dX5_isPlain_28 : decode cX5_isPlain 28 = .ok (.goto (-26), 3) := by decide +kernel
theorem dX5_isPlain_31 : decode cX5_isPlain 31 = .ok (.iconst 1, 1) := by decide +kernel
theorem dX5_isPlain_32 : decode cX5_isPlain 32 = .ok (.ireturn, 1) := by decide +kernel
theorem dX5_reservedAs_0 : decode cX5_reservedAs 0 = .ok (.aload_n 1, 1) := by decide +kernel
theorem dX5_reservedAs_1 : decode cX5_reservedAs 1 = .ok (.getfield 248, 3) := by decide +kernel
theorem dX5_reservedAs_4 : decode cX5_reservedAs 4 = .ok (.getfield 66, 3) := by decide +kernel
theorem dX5_reservedAs_7 : decode cX5_reservedAs 7 = .ok (.iconst 5, 1) := by decide +kernel
theorem dX5_reservedAs_8 : decode cX5_reservedAs 8 = .ok (.if_icmp .gt 10, 3) := by decide +kernel
theorem dX5_reservedAs_11 : decode cX5_reservedAs 11 = .ok (.aload_n 1, 1) := by decide +kernel
theorem dX5_reservedAs_12 : decode cX5_reservedAs 12 = .ok (.invokestatic 235, 3) := by decide +kernel
theorem dX5_reservedAs_15 : decode cX5_reservedAs 15 = .ok (.ifCond .ne 5, 3) := by decide +kernel
theorem dX5_reservedAs_20 : decode cX5_reservedAs 20 = .ok (.aload_n 0, 1) := by decide +kernel
theorem dX5_reservedAs_21 : decode cX5_reservedAs 21 = .ok (.getfield 36, 3) := by decide +kernel
theorem dX5_reservedAs_24 : decode cX5_reservedAs 24 = .ok (.aload_n 1, 1) := by decide +kernel
theorem dX5_reservedAs_25 : decode cX5_reservedAs 25 = .ok (.getfield 248, 3) := by decide +kernel
theorem dX5_reservedAs_28 : decode cX5_reservedAs 28 = .ok (.invokevirtual 267, 3) := by decide +kernel
theorem dX5_reservedAs_31 : decode cX5_reservedAs 31 = .ok (.astore_n 2, 1) := by decide +kernel
theorem dX5_reservedAs_32 : decode cX5_reservedAs 32 = .ok (.aload_n 2, 1) := by decide +kernel
theorem dX5_reservedAs_33 : decode cX5_reservedAs 33 = .ok (.ifnonnull 7, 3) := by decide +kernel
theorem dX5_reservedAs_40 : decode cX5_reservedAs 40 = .ok (.aload_n 2, 1) := by decide +kernel
theorem dX5_reservedAs_41 : decode cX5_reservedAs 41 = .ok (.getfield 271, 3) := by decide +kernel
theorem dX5_reservedAs_44 : decode cX5_reservedAs 44 = .ok (.ireturn, 1) := by decide +kernel
theorem dX5_replaced_0 : decode cX5_replaced 0 = .ok (.iload_n 1, 1) := by decide +kernel
theorem dX5_replaced_1 : decode cX5_replaced 1 = .ok (.ifCond .ne 17, 3) := by decide +kernel
theorem dX5_replaced_18 : decode cX5_replaced 18 = .ok (.iconst 1, 1) := by decide +kernel
theorem dX5_replaced_19 : decode cX5_replaced 19 = .ok (.goto 4, 3) := by decide +kernel
theorem dX5_replaced_23 : decode cX5_replaced 23 = .ok (.istore_n 2, 1) := by decide +kernel
theorem dX5_replaced_24 : decode cX5_replaced 24 = .ok (.iload_n 2, 1) := by decide +kernel
theorem dX5_replaced_25 : decode cX5_replaced 25 = .ok (.ifCond .eq 25, 3) := by decide +kernel
theorem dX5_replaced_28 : decode cX5_replaced 28 = .ok (.aload_n 0, 1) := by decide +kernel
theorem dX5_replaced_29 : decode cX5_replaced 29 = .ok (.getfield 117, 3) := by decide +kernel
theorem dX5_replaced_32 : decode cX5_replaced 32 = .ok (.getfield 274, 3) := by decide +kernel
theorem dX5_replaced_35 : decode cX5_replaced 35 = .ok (.bipush 10, 2) := by decide +kernel
theorem dX5_replaced_37 : decode cX5_replaced 37 = .ok (.if_icmp .ge 13, 3) := by decide +kernel
theorem dX5_replaced_40 : decode cX5_replaced 40 = .ok (.aload_n 0, 1) := by decide +kernel
theorem dX5_replaced_41 : decode cX5_replaced 41 = .ok (.getfield 250, 3) := by decide +kernel
theorem dX5_replaced_44 : decode cX5_replaced 44 = .ok (.invokestatic 235, 3) := by decide +kernel
theorem dX5_replaced_47 : decode cX5_replaced 47 = .ok (.ifCond .ne 5, 3) := by decide +kernel
theorem dX5_replaced_52 : decode cX5_replaced 52 = .ok (.aload_n 0, 1) := by decide +kernel
theorem dX5_replaced_53 : decode cX5_replaced 53 = .ok (.getfield 36, 3) := by decide +kernel
theorem dX5_replaced_56 : decode cX5_replaced 56 = .ok (.aload_n 0, 1) := by decide +kernel
theorem dX5_replaced_57 : decode cX5_replaced 57 = .ok (.getfield 250, 3) := by decide +kernel
theorem dX5_replaced_60 : decode cX5_replaced 60 = .ok (.getfield 248, 3) := by decide +kernel
theorem dX5_replaced_63 : decode cX5_replaced 63 = .ok (.invokevirtual 267, 3) := by decide +kernel
theorem dX5_replaced_66 : decode cX5_replaced 66 = .ok (.astore_n 3, 1) := by decide +kernel
theorem dX5_replaced_67 : decode cX5_replaced 67 = .ok (.aload_n 3, 1) := by decide +kernel
theorem dX5_replaced_68 : decode cX5_replaced 68 = .ok (.ifnull 10, 3) := by decide +kernel
theorem dX5_replaced_71 : decode cX5_replaced 71 = .ok (.aload_n 3, 1) := by decide +kernel
theorem dX5_replaced_72 : decode cX5_replaced 72 = .ok (.getfield 277, 3) := by decide +kernel
theorem dX5_replaced_75 : decode cX5_replaced 75 = .ok (.ifnonnull 5, 3) := by decide +kernel
theorem dX5_replaced_80 : decode cX5_replaced 80 = .ok (.aload_n 0, 1) := by decide +kernel
theorem dX5_replaced_81 : decode cX5_replaced 81 = .ok (.getfield 117, 3) := by decide +kernel
theorem dX5_replaced_84 : decode cX5_replaced 84 = .ok (.astore 4, 2) := by decide +kernel
theorem dX5_replaced_86 : decode cX5_replaced 86 = .ok (.aload 4, 2) := by decide +kernel
theorem dX5_replaced_88 : decode cX5_replaced 88 = .ok (.ifnull 24, 3) := by decide +kernel
theorem dX5_replaced_91 : decode cX5_replaced 91 = .ok (.aload 4, 2) := by decide +kernel
theorem dX5_replaced_93 : decode cX5_replaced 93 = .ok (.getfield 219, 3) := by decide +kernel
theorem dX5_replaced_96 : decode cX5_replaced 96 = .ok (.aload_n 3, 1) := by decide +kernel
theorem dX5_replaced_97 : decode cX5_replaced 97 = .ok (.if_acmp .ne 5, 3) := by decide +kernel
theorem dX5_replaced_102 : decode cX5_replaced 102 = .ok (.aload 4, 2) := by decide +kernel
theorem dX5_replaced_104 : decode cX5_replaced 104 = .ok (.getfield 223, 3) := by decide +kernel
theorem dX5_replaced_107 : decode cX5_replaced 107 = .ok (.astore 4, 2) := by decide +kernel
theorem dX5_replaced_109 : decode cX5_replaced 109 = .ok (.goto (-23), 3) := by decide +kernel
theorem dX5_replaced_112 : decode cX5_replaced 112 = .ok (.aload_n 0, 1) := by decide +kernel
theorem dX5_replaced_113 : decode cX5_replaced 113 = .ok (.aload_n 3, 1) := by decide +kernel
theorem dX5_replaced_114 : decode cX5_replaced 114 = .ok (.getfield 277, 3) := by decide +kernel
theorem dX5_replaced_117 : decode cX5_replaced 117 = .ok (.getfield 66, 3) := by decide +kernel
theorem dX5_replaced_120 : decode cX5_replaced 120 = .ok (.invokevirtual 69, 3) := by decide +kernel
theorem dX5_replaced_123 : decode cX5_replaced 123 = .ok (.ifCond .eq 34, 3) := by decide +kernel
theorem dX5_replaced_126 : decode cX5_replaced 126 = .ok (.aload_n 0, 1) := by decide +kernel
theorem dX5_replaced_127 : decode cX5_replaced 127 = .ok (.aload_n 3, 1) := by decide +kernel
theorem dX5_replaced_128 : decode cX5_replaced 128 = .ok (.getfield 277, 3) := by decide +kernel
theorem dX5_replaced_131 : decode cX5_replaced 131 = .ok (.iconst 0, 1) := by decide +kernel
theorem dX5_replaced_132 : decode cX5_replaced 132 = .ok (.aload_n 3, 1) := by decide +kernel
theorem dX5_replaced_133 : decode cX5_replaced 133 = .ok (.getfield 277, 3) := by decide +kernel
theorem dX5_replaced_136 : decode cX5_replaced 136 = .ok (.getfield 66, 3) := by decide +kernel
theorem dX5_replaced_139 : decode cX5_replaced 139 = .ok (.invokevirtual 142, 3) := by decide +kernel
theorem dX5_replaced_142 : decode cX5_replaced 142 = .ok (.aload_n 0, 1) := by decide +kernel
theorem dX5_replaced_143 : decode cX5_replaced 143 = .ok (.getfield 130, 3) := by decide +kernel
theorem dX5_replaced_146 : decode cX5_replaced 146 = .ok (.aload_n 0, 1) := by decide +kernel
theorem dX5_replaced_147 : decode cX5_replaced 147 = .ok (.getfield 117, 3) := by decide +kernel
theorem dX5_replaced_150 : decode cX5_replaced 150 = .ok (.aload_n 3, 1) := by decide +kernel
theorem dX5_replaced_151 : decode cX5_replaced 151 = .ok (.invokestatic 153, 3) := by decide +kernel
theorem dX5_replaced_154 : decode cX5_replaced 154 = .ok (.putfield 117, 3) := by decide +kernel
theorem dX5_replaced_157 : decode cX5_replaced 157 = .ok (.iconst 1, 1) := by decide +kernel
theorem dX5_replaced_158 : decode cX5_replaced 158 = .ok (.ireturn, 1) := by decide +kernel
theorem dX5_accept_0 : decode cX5_accept 0 = .ok (.aload_n 1, 1) := by decide +kernel
theorem dX5_accept_1 : decode cX5_accept 1 = .ok (.getfield 286, 3) := by decide +kernel
theorem dX5_accept_4 : decode cX5_accept 4 = .ok (.tableswitch 128 0 9 #[56, 64, 72, 80, 88, 112, 120, 120, 120, 120], 56) := by decide +kernel
theorem dX5_accept_60 : decode cX5_accept 60 = .ok (.aload_n 0, 1) := by decide +kernel
theorem dX5_accept_61 : decode cX5_accept 61 = .ok (.aload_n 1, 1) := by decide +kernel
theorem dX5_accept_62 : decode cX5_accept 62 = .ok (.invokevirtual 289, 3) := by decide +kernel
theorem dX5_accept_65 : decode cX5_accept 65 = .ok (.goto 72, 3) := by decide +kernel
theorem dX5_accept_137 : decode cX5_accept 137 = .ok (.return_, 1) := by decide +kernel
theorem dX5_isRedirection_0 : decode cX5_isRedirection 0 = .ok (.iload_n 0, 1) := by decide +kernel
theorem dX5_isRedirection_1 : decode cX5_isRedirection 1 = .ok (.bipush 10, 2) := by decide +kernel
theorem dX5_isRedirection_3 : decode cX5_isRedirection 3 = .ok (.if_icmp .lt 9, 3) := by decide +kernel
theorem dX5_isRedirection_6 : decode cX5_isRedirection 6 = .ok (.iload_n 0, 1) := by decide +kernel
theorem dX5_isRedirection_7 : decode cX5_isRedirection 7 = .ok (.bipush 16, 2) := by decide +kernel
theorem dX5_isRedirection_9 : decode cX5_isRedirection 9 = .ok (.if_icmp .le 9, 3) := by decide +kernel
theorem dX5_isRedirection_12 : decode cX5_isRedirection 12 = .ok (.iload_n 0, 1) := by decide +kernel
theorem dX5_isRedirection_13 : decode cX5_isRedirection 13 = .ok (.bipush 18, 2) := by decide +kernel
theorem dX5_isRedirection_15 : decode cX5_isRedirection 15 = .ok (.if_icmp .ne 7, 3) := by decide +kernel
theorem dX5_isRedirection_22 : decode cX5_isRedirection 22 = .ok (.iconst 0, 1) := by decide +kernel
theorem dX5_isRedirection_23 : decode cX5_isRedirection 23 = .ok (.ireturn, 1) := by decide +kernel
theorem dX5_atBegin_0 : decode cX5_atBegin 0 = .ok (.aload_n 0, 1) := by decide +kernel
theorem dX5_atBegin_1 : decode cX5_atBegin 1 = .ok (.getfield 114, 3) := by decide +kernel
theorem dX5_atBegin_4 : decode cX5_atBegin 4 = .ok (.bipush 17, 2) := by decide +kernel
theorem dX5_atBegin_6 : decode cX5_atBegin 6 = .ok (.if_icmp .ne 45, 3) := by decide +kernel
theorem dX5_atBegin_9 : decode cX5_atBegin 9 = .ok (.aload_n 0, 1) := by decide +kernel
theorem dX5_atBegin_10 : decode cX5_atBegin 10 = .ok (.getfield 193, 3) := by decide +kernel
theorem dX5_atBegin_13 : decode cX5_atBegin 13 = .ok (.ifCond .eq 11, 3) := by decide +kernel
theorem dX5_atBegin_24 : decode cX5_atBegin 24 = .ok (.aload_n 0, 1) := by decide +kernel
theorem dX5_atBegin_25 : decode cX5_atBegin 25 = .ok (.iconst 1, 1) := by decide +kernel
theorem dX5_atBegin_26 : decode cX5_atBegin 26 = .ok (.invokevirtual 279, 3) := by decide +kernel
theorem dX5_atBegin_29 : decode cX5_atBegin 29 = .ok (.ifCond .ne 139, 3) := by decide +kernel
theorem dX5_atBegin_51 : decode cX5_atBegin 51 = .ok (.aload_n 0, 1) := by decide +kernel
theorem dX5_atBegin_52 : decode cX5_atBegin 52 = .ok (.getfield 114, 3) := by decide +kernel
theorem dX5_atBegin_55 : decode cX5_atBegin 55 = .ok (.invokestatic 323, 3) := by decide +kernel
theorem dX5_atBegin_58 : decode cX5_atBegin 58 = .ok (.ifCond .eq 22, 3) := by decide +kernel
theorem dX5_atBegin_80 : decode cX5_atBegin 80 = .ok (.aload_n 0, 1) := by decide +kernel
theorem dX5_atBegin_81 : decode cX5_atBegin 81 = .ok (.getfield 114, 3) := by decide +kernel
theorem dX5_atBegin_84 : decode cX5_atBegin 84 = .ok (.iconst 1, 1) := by decide +kernel
theorem dX5_atBegin_85 : decode cX5_atBegin 85 = .ok (.if_icmp .ne 19, 3) := by decide +kernel
theorem dX5_atBegin_88 : decode cX5_atBegin 88 = .ok (.aload_n 1, 1) := by decide +kernel
theorem dX5_atBegin_89 : decode cX5_atBegin 89 = .ok (.iconst 2, 1) := by decide +kernel
theorem dX5_atBegin_90 : decode cX5_atBegin 90 = .ok (.invokevirtual 89, 3) := by decide +kernel
theorem dX5_atBegin_93 : decode cX5_atBegin 93 = .ok (.ifCond .ne 11, 3) := by decide +kernel
theorem dX5_atBegin_96 : decode cX5_atBegin 96 = .ok (.aload_n 0, 1) := by decide +kernel
theorem dX5_atBegin_97 : decode cX5_atBegin 97 = .ok (.aload_n 1, 1) := by decide +kernel
theorem dX5_atBegin_98 : decode cX5_atBegin 98 = .ok (.invokevirtual 329, 3) := by decide +kernel
theorem dX5_atBegin_101 : decode cX5_atBegin 101 = .ok (.goto 67, 3) := by decide +kernel
theorem dX5_atBegin_104 : decode cX5_atBegin 104 = .ok (.aload_n 0, 1) := by decide +kernel
theorem dX5_atBegin_105 : decode cX5_atBegin 105 = .ok (.getfield 114, 3) := by decide +kernel
theorem dX5_atBegin_108 : decode cX5_atBegin 108 = .ok (.bipush 8, 2) := by decide +kernel
theorem dX5_atBegin_110 : decode cX5_atBegin 110 = .ok (.if_icmp .ne 12, 3) := by decide +kernel
theorem dX5_atBegin_122 : decode cX5_atBegin 122 = .ok (.aload_n 0, 1) := by decide +kernel
theorem dX5_atBegin_123 : decode cX5_atBegin 123 = .ok (.getfield 114, 3) := by decide +kernel
theorem dX5_atBegin_126 : decode cX5_atBegin 126 = .ok (.bipush 9, 2) := by decide +kernel
theorem dX5_atBegin_128 : decode cX5_atBegin 128 = .ok (.if_icmp .eq 20, 3) := by decide +kernel
theorem dX5_atBegin_131 : decode cX5_atBegin 131 = .ok (.aload_n 0, 1) := by decide +kernel
theorem dX5_atBegin_132 : decode cX5_atBegin 132 = .ok (.getfield 114, 3) := by decide +kernel
theorem dX5_atBegin_135 : decode cX5_atBegin 135 = .ok (.iconst 4, 1) := by decide +kernel
theorem dX5_atBegin_136 : decode cX5_atBegin 136 = .ok (.if_icmp .eq 12, 3) := by decide +kernel
theorem dX5_atBegin_139 : decode cX5_atBegin 139 = .ok (.aload_n 0, 1) := by decide +kernel
theorem dX5_atBegin_140 : decode cX5_atBegin 140 = .ok (.getfield 114, 3) := by decide +kernel
theorem dX5_atBegin_143 : decode cX5_atBegin 143 = .ok (.bipush 19, 2) := by decide +kernel
theorem dX5_atBegin_145 : decode cX5_atBegin 145 = .ok (.if_icmp .ne 19, 3) := by decide +kernel
theorem dX5_atBegin_148 : decode cX5_atBegin 148 = .ok (.aload_n 1, 1) := by decide +kernel
theorem dX5_atBegin_149 : decode cX5_atBegin 149 = .ok (.iconst 1, 1) := by decide +kernel
theorem dX5_atBegin_150 : decode cX5_atBegin 150 = .ok (.invokevirtual 89, 3) := by decide +kernel
theorem dX5_atBegin_153 : decode cX5_atBegin 153 = .ok (.ifCond .ne 11, 3) := by decide +kernel
theorem dX5_atBegin_156 : decode cX5_atBegin 156 = .ok (.aload_n 0, 1) := by decide +kernel
theorem dX5_atBegin_157 : decode cX5_atBegin 157 = .ok (.aload_n 1, 1) := by decide +kernel
theorem dX5_atBegin_158 : decode cX5_atBegin 158 = .ok (.invokevirtual 335, 3) := by decide +kernel
theorem dX5_atBegin_161 : decode cX5_atBegin 161 = .ok (.goto 7, 3) := by decide +kernel
theorem dX5_atBegin_168 : decode cX5_atBegin 168 = .ok (.return_, 1) := by decide +kernel
theorem dX5_closeByToken_0 : decode cX5_closeByToken 0 = .ok (.aload_n 1, 1) := by decide +kernel
theorem dX5_closeByToken_1 : decode cX5_closeByToken 1 = .ok (.getfield 96, 3) := by decide +kernel
theorem dX5_closeByToken_4 : decode cX5_closeByToken 4 = .ok (.bipush 20, 2) := by decide +kernel
theorem dX5_closeByToken_6 : decode cX5_closeByToken 6 = .ok (.if_icmp .eq 12, 3) := by decide +kernel
theorem dX5_closeByToken_18 : decode cX5_closeByToken 18 = .ok (.iconst 1, 1) := by decide +kernel
theorem dX5_closeByToken_19 : decode cX5_closeByToken 19 = .ok (.goto 4, 3) := by decide +kernel
theorem dX5_closeByToken_23 : decode cX5_closeByToken 23 = .ok (.istore_n 2, 1) := by decide +kernel
theorem dX5_closeByToken_24 : decode cX5_closeByToken 24 = .ok (.aload_n 0, 1) := by decide +kernel
theorem dX5_closeByToken_25 : decode cX5_closeByToken 25 = .ok (.getfield 114, 3) := by decide +kernel
theorem dX5_closeByToken_28 : decode cX5_closeByToken 28 = .ok (.bipush 19, 2) := by decide +kernel
theorem dX5_closeByToken_30 : decode cX5_closeByToken 30 = .ok (.if_icmp .ne 22, 3) := by decide +kernel
theorem dX5_closeByToken_33 : decode cX5_closeByToken 33 = .ok (.iload_n 2, 1) := by decide +kernel
theorem dX5_closeByToken_34 : decode cX5_closeByToken 34 = .ok (.ifCond .eq 18, 3) := by decide +kernel
theorem dX5_closeByToken_37 : decode cX5_closeByToken 37 = .ok (.aload_n 1, 1) := by decide +kernel
theorem dX5_closeByToken_38 : decode cX5_closeByToken 38 = .ok (.getfield 434, 3) := by decide +kernel
theorem dX5_closeByToken_41 : decode cX5_closeByToken 41 = .ok (.ifnonnull 11, 3) := by decide +kernel
theorem dX5_closeByToken_44 : decode cX5_closeByToken 44 = .ok (.aload_n 0, 1) := by decide +kernel
theorem dX5_closeByToken_45 : decode cX5_closeByToken 45 = .ok (.aload_n 1, 1) := by decide +kernel
theorem dX5_closeByToken_46 : decode cX5_closeByToken 46 = .ok (.invokevirtual 452, 3) := by decide +kernel
theorem dX5_closeByToken_49 : decode cX5_closeByToken 49 = .ok (.goto 125, 3) := by decide +kernel
theorem dX5_closeByToken_174 : decode cX5_closeByToken 174 = .ok (.return_, 1) := by decide +kernel
theorem dX5_endText_0 : decode cX5_endText 0 = .ok (.new 21, 3) := by decide +kernel
theorem dX5_endText_3 : decode cX5_endText 3 = .ok (.dup, 1) := by decide +kernel
theorem dX5_endText_4 : decode cX5_endText 4 = .ok (.bipush 15, 2) := by decide +kernel
theorem dX5_endText_6 : decode cX5_endText 6 = .ok (.invokespecial 229, 3) := by decide +kernel
theorem dX5_endText_9 : decode cX5_endText 9 = .ok (.astore_n 2, 1) := by decide +kernel
theorem dX5_endText_10 : decode cX5_endText 10 = .ok (.aload_n 2, 1) := by decide +kernel
theorem dX5_endText_11 : decode cX5_endText 11 = .ok (.aload_n 1, 1) := by decide +kernel
theorem dX5_endText_12 : decode cX5_endText 12 = .ok (.getfield 443, 3) := by decide +kernel
theorem dX5_endText_15 : decode cX5_endText 15 = .ok (.putfield 363, 3) := by decide +kernel
theorem dX5_endText_18 : decode cX5_endText 18 = .ok (.aload_n 0, 1) := by decide +kernel
theorem dX5_endText_19 : decode cX5_endText 19 = .ok (.dup, 1) := by decide +kernel
theorem dX5_endText_20 : decode cX5_endText 20 = .ok (.getfield 47, 3) := by decide +kernel
theorem dX5_endText_23 : decode cX5_endText 23 = .ok (.iconst 1, 1) := by decide +kernel
theorem dX5_endText_24 : decode cX5_endText 24 = .ok (.isub, 1) := by decide +kernel
theorem dX5_endText_25 : decode cX5_endText 25 = .ok (.putfield 47, 3) := by decide +kernel
theorem dX5_endText_28 : decode cX5_endText 28 = .ok (.aload_n 1, 1) := by decide +kernel
theorem dX5_endText_29 : decode cX5_endText 29 = .ok (.getfield 96, 3) := by decide +kernel
theorem dX5_endText_32 : decode cX5_endText 32 = .ok (.bipush 20, 2) := by decide +kernel
theorem dX5_endText_34 : decode cX5_endText 34 = .ok (.if_icmp .ne 9, 3) := by decide +kernel
theorem dX5_endText_37 : decode cX5_endText 37 = .ok (.aload_n 0, 1) := by decide +kernel
theorem dX5_endText_38 : decode cX5_endText 38 = .ok (.aload_n 2, 1) := by decide +kernel
theorem dX5_endText_39 : decode cX5_endText 39 = .ok (.putfield 62, 3) := by decide +kernel
theorem dX5_endText_42 : decode cX5_endText 42 = .ok (.return_, 1) := by decide +kernel
theorem dX5_newline_0 : decode cX5_newline 0 = .ok (.aload_n 1, 1) := by decide +kernel
theorem dX5_newline_1 : decode cX5_newline 1 = .ok (.getfield 186, 3) := by decide +kernel
theorem dX5_newline_4 : decode cX5_newline 4 = .ok (.getfield 434, 3) := by decide +kernel
theorem dX5_newline_7 : decode cX5_newline 7 = .ok (.astore_n 2, 1) := by decide +kernel
theorem dX5_newline_8 : decode cX5_newline 8 = .ok (.aload_n 2, 1) := by decide +kernel
theorem dX5_newline_9 : decode cX5_newline 9 = .ok (.ifnull 26, 3) := by decide +kernel
theorem dX5_newline_35 : decode cX5_newline 35 = .ok (.return_, 1) := by decide +kernel
theorem dX5_bareSign_0 : decode cX5_bareSign 0 = .ok (.aload_n 0, 1) := by decide +kernel
theorem dX5_bareSign_1 : decode cX5_bareSign 1 = .ok (.invokevirtual 196, 3) := by decide +kernel
theorem dX5_bareSign_4 : decode cX5_bareSign 4 = .ok (.istore_n 2, 1) := by decide +kernel
theorem dX5_bareSign_5 : decode cX5_bareSign 5 = .ok (.aload_n 1, 1) := by decide +kernel
theorem dX5_bareSign_6 : decode cX5_bareSign 6 = .ok (.getfield 96, 3) := by decide +kernel
theorem dX5_bareSign_9 : decode cX5_bareSign 9 = .ok (.bipush 24, 2) := by decide +kernel
theorem dX5_bareSign_11 : decode cX5_bareSign 11 = .ok (.if_icmp .ne 16, 3) := by decide +kernel
theorem dX5_bareSign_14 : decode cX5_bareSign 14 = .ok (.iload_n 2, 1) := by decide +kernel
theorem dX5_bareSign_15 : decode cX5_bareSign 15 = .ok (.invokestatic 200, 3) := by decide +kernel
theorem dX5_bareSign_18 : decode cX5_bareSign 18 = .ok (.ifCond .eq 9, 3) := by decide +kernel
theorem dX5_bareSign_21 : decode cX5_bareSign 21 = .ok (.aload_n 0, 1) := by decide +kernel
theorem dX5_bareSign_22 : decode cX5_bareSign 22 = .ok (.aload_n 1, 1) := by decide +kernel
theorem dX5_bareSign_23 : decode cX5_bareSign 23 = .ok (.invokevirtual 506, 3) := by decide +kernel
theorem dX5_bareSign_26 : decode cX5_bareSign 26 = .ok (.return_, 1) := by decide +kernel
theorem dX5_bareSign_27 : decode cX5_bareSign 27 = .ok (.iload_n 2, 1) := by decide +kernel
theorem dX5_bareSign_28 : decode cX5_bareSign 28 = .ok (.iconst (-1), 1) := by decide +kernel
theorem dX5_bareSign_29 : decode cX5_bareSign 29 = .ok (.if_icmp .ne 16, 3) := by decide +kernel
theorem dX5_bareSign_45 : decode cX5_bareSign 45 = .ok (.iload_n 2, 1) := by decide +kernel
theorem dX5_bareSign_46 : decode cX5_bareSign 46 = .ok (.lookupswitch 128 #[(34, 104), (36, 112), (39, 97), (92, 50), (96, 120)], 50) := by decide +kernel
theorem dX5_bareSign_174 : decode cX5_bareSign 174 = .ok (.aload_n 0, 1) := by decide +kernel
theorem dX5_bareSign_175 : decode cX5_bareSign 175 = .ok (.iload_n 2, 1) := by decide +kernel
theorem dX5_bareSign_176 : decode cX5_bareSign 176 = .ok (.invokevirtual 168, 3) := by decide +kernel
theorem dX5_bareSign_179 : decode cX5_bareSign 179 = .ok (.iload_n 2, 1) := by decide +kernel
theorem dX5_bareSign_180 : decode cX5_bareSign 180 = .ok (.bipush 125, 2) := by decide +kernel
theorem dX5_bareSign_182 : decode cX5_bareSign 182 = .ok (.if_icmp .ne 20, 3) := by decide +kernel
theorem dX5_bareSign_202 : decode cX5_bareSign 202 = .ok (.aload_n 0, 1) := by decide +kernel
theorem dX5_bareSign_203 : decode cX5_bareSign 203 = .ok (.iload_n 2, 1) := by decide +kernel
theorem dX5_bareSign_204 : decode cX5_bareSign 204 = .ok (.invokevirtual 466, 3) := by decide +kernel
theorem dX5_bareSign_207 : decode cX5_bareSign 207 = .ok (.return_, 1) := by decide +kernel
theorem dX6_init_0 : decode cX6_init 0 = .ok (.aload_n 0, 1) := by decide +kernel
theorem dX6_init_1 : decode cX6_init 1 = .ok (.invokespecial 3, 3) := by decide +kernel
theorem dX6_init_4 : decode cX6_init 4 = .ok (.aload_n 0, 1) := by decide +kernel
theorem dX6_init_5 : decode cX6_init 5 = .ok (.iload_n 1, 1) := by decide +kernel
theorem dX6_init_6 : decode cX6_init 6 = .ok (.ifCond .le 7, 3) := by decide +kernel
theorem dX6_init_9 : decode cX6_init 9 = .ok (.iload_n 1, 1) := by decide +kernel
theorem dX6_init_10 : decode cX6_init 10 = .ok (.goto 4, 3) := by decide +kernel
theorem dX6_init_13 : decode cX6_init 13 = .ok (.iconst 1, 1) := by decide +kernel
theorem dX6_init_14 : decode cX6_init 14 = .ok (.newarray .char, 2) := by decide +kernel
theorem dX6_init_16 : decode cX6_init 16 = .ok (.putfield 9, 3) := by decide +kernel
theorem dX6_init_19 : decode cX6_init 19 = .ok (.return_, 1) := by decide +kernel
theorem dX6_at_0 : decode cX6_at 0 = .ok (.iload_n 1, 1) := by decide +kernel
theorem dX6_at_1 : decode cX6_at 1 = .ok (.ifCond .lt 29, 3) := by decide +kernel
theorem dX6_at_4 : decode cX6_at 4 = .ok (.iload_n 1, 1) := by decide +kernel
theorem dX6_at_5 : decode cX6_at 5 = .ok (.aload_n 0, 1) := by decide +kernel
theorem dX6_at_6 : decode cX6_at 6 = .ok (.getfield 15, 3) := by decide +kernel
theorem dX6_at_9 : decode cX6_at 9 = .ok (.if_icmp .ge 21, 3) := by decide +kernel
theorem dX6_at_12 : decode cX6_at 12 = .ok (.iload_n 1, 1) := by decide +kernel
theorem dX6_at_13 : decode cX6_at 13 = .ok (.aload_n 0, 1) := by decide +kernel
theorem dX6_at_14 : decode cX6_at 14 = .ok (.getfield 9, 3) := by decide +kernel
theorem dX6_at_17 : decode cX6_at 17 = .ok (.arraylength, 1) := by decide +kernel
theorem dX6_at_18 : decode cX6_at 18 = .ok (.if_icmp .ge 12, 3) := by decide +kernel
theorem dX6_at_21 : decode cX6_at 21 = .ok (.aload_n 0, 1) := by decide +kernel
theorem dX6_at_22 : decode cX6_at 22 = .ok (.getfield 9, 3) := by decide +kernel
theorem dX6_at_25 : decode cX6_at 25 = .ok (.iload_n 1, 1) := by decide +kernel
theorem dX6_at_26 : decode cX6_at 26 = .ok (.caload, 1) := by decide +kernel
theorem dX6_at_27 : decode cX6_at 27 = .ok (.goto 4, 3) := by decide +kernel
theorem dX6_at_31 : decode cX6_at 31 = .ok (.ireturn, 1) := by decide +kernel
theorem dX6_add_0 : decode cX6_add 0 = .ok (.aload_n 0, 1) := by decide +kernel
theorem dX6_add_1 : decode cX6_add 1 = .ok (.getfield 15, 3) := by decide +kernel
theorem dX6_add_4 : decode cX6_add 4 = .ok (.aload_n 0, 1) := by decide +kernel
theorem dX6_add_5 : decode cX6_add 5 = .ok (.getfield 9, 3) := by decide +kernel
theorem dX6_add_8 : decode cX6_add 8 = .ok (.arraylength, 1) := by decide +kernel
theorem dX6_add_9 : decode cX6_add 9 = .ok (.if_icmp .lt 33, 3) := by decide +kernel
theorem dX6_add_12 : decode cX6_add 12 = .ok (.aload_n 0, 1) := by decide +kernel
theorem dX6_add_13 : decode cX6_add 13 = .ok (.getfield 9, 3) := by decide +kernel
theorem dX6_add_16 : decode cX6_add 16 = .ok (.arraylength, 1) := by decide +kernel
theorem dX6_add_17 : decode cX6_add 17 = .ok (.iconst 2, 1) := by decide +kernel
theorem dX6_add_18 : decode cX6_add 18 = .ok (.imul, 1) := by decide +kernel
theorem dX6_add_19 : decode cX6_add 19 = .ok (.newarray .char, 2) := by decide +kernel
theorem dX6_add_21 : decode cX6_add 21 = .ok (.astore_n 2, 1) := by decide +kernel
theorem dX6_add_22 : decode cX6_add 22 = .ok (.aload_n 0, 1) := by decide +kernel
theorem dX6_add_23 : decode cX6_add 23 = .ok (.getfield 9, 3) := by decide +kernel
theorem dX6_add_26 : decode cX6_add 26 = .ok (.iconst 0, 1) := by decide +kernel
theorem dX6_add_27 : decode cX6_add 27 = .ok (.aload_n 2, 1) := by decide +kernel
theorem dX6_add_28 : decode cX6_add 28 = .ok (.iconst 0, 1) := by decide +kernel
theorem dX6_add_29 : decode cX6_add 29 = .ok (.aload_n 0, 1) := by decide +kernel
theorem dX6_add_30 : decode cX6_add 30 = .ok (.getfield 9, 3) := by decide +kernel
theorem dX6_add_33 : decode cX6_add 33 = .ok (.arraylength, 1) := by decide +kernel
theorem dX6_add_34 : decode cX6_add 34 = .ok (.invokestatic 19, 3) := by decide +kernel
theorem dX6_add_37 : decode cX6_add 37 = .ok (.aload_n 0, 1) := by decide +kernel
theorem dX6_add_38 : decode cX6_add 38 = .ok (.aload_n 2, 1) := by decide +kernel
theorem dX6_add_39 : decode cX6_add 39 = .ok (.putfield 9, 3) := by decide +kernel
theorem dX6_add_42 : decode cX6_add 42 = .ok (.aload_n 0, 1) := by decide +kernel
theorem dX6_add_43 : decode cX6_add 43 = .ok (.getfield 15, 3) := by decide +kernel
theorem dX6_add_46 : decode cX6_add 46 = .ok (.ifCond .lt 36, 3) := by decide +kernel
theorem dX6_add_49 : decode cX6_add 49 = .ok (.aload_n 0, 1) := by decide +kernel
theorem dX6_add_50 : decode cX6_add 50 = .ok (.getfield 15, 3) := by decide +kernel
theorem dX6_add_53 : decode cX6_add 53 = .ok (.aload_n 0, 1) := by decide +kernel
theorem dX6_add_54 : decode cX6_add 54 = .ok (.getfield 9, 3) := by decide +kernel
theorem dX6_add_57 : decode cX6_add 57 = .ok (.arraylength, 1) := by decide +kernel
theorem dX6_add_58 : decode cX6_add 58 = .ok (.if_icmp .ge 24, 3) := by decide +kernel
theorem dX6_add_61 : decode cX6_add 61 = .ok (.aload_n 0, 1) := by decide +kernel
theorem dX6_add_62 : decode cX6_add 62 = .ok (.getfield 9, 3) := by decide +kernel
theorem dX6_add_65 : decode cX6_add 65 = .ok (.aload_n 0, 1) := by decide +kernel
theorem dX6_add_66 : decode cX6_add 66 = .ok (.getfield 15, 3) := by decide +kernel
theorem dX6_add_69 : decode cX6_add 69 = .ok (.iload_n 1, 1) := by decide +kernel
theorem dX6_add_70 : decode cX6_add 70 = .ok (.i2c, 1) := by decide +kernel
theorem dX6_add_71 : decode cX6_add 71 = .ok (.castore, 1) := by decide +kernel
theorem dX6_add_72 : decode cX6_add 72 = .ok (.aload_n 0, 1) := by decide +kernel
theorem dX6_add_73 : decode cX6_add 73 = .ok (.dup, 1) := by decide +kernel
theorem dX6_add_74 : decode cX6_add 74 = .ok (.getfield 15, 3) := by decide +kernel
theorem dX6_add_77 : decode cX6_add 77 = .ok (.iconst 1, 1) := by decide +kernel
theorem dX6_add_78 : decode cX6_add 78 = .ok (.iadd, 1) := by decide +kernel
theorem dX6_add_79 : decode cX6_add 79 = .ok (.putfield 15, 3) := by decide +kernel
theorem dX6_add_82 : decode cX6_add 82 = .ok (.return_, 1) := by decide +kernel
theorem dX6_addText_0 : decode cX6_addText 0 = .ok (.iconst 0, 1) := by decide +kernel
theorem dX6_addText_1 : decode cX6_addText 1 = .ok (.istore_n 2, 1) := by decide +kernel
theorem dX6_addText_2 : decode cX6_addText 2 = .ok (.iload_n 2, 1) := by decide +kernel
theorem dX6_addText_3 : decode cX6_addText 3 = .ok (.aload_n 1, 1) := by decide +kernel
theorem dX6_addText_4 : decode cX6_addText 4 = .ok (.invokevirtual 33, 3) := by decide +kernel
theorem dX6_addText_7 : decode cX6_addText 7 = .ok (.if_icmp .ge 18, 3) := by decide +kernel
theorem dX6_addText_10 : decode cX6_addText 10 = .ok (.aload_n 0, 1) := by decide +kernel
theorem dX6_addText_11 : decode cX6_addText 11 = .ok (.aload_n 1, 1) := by decide +kernel
theorem dX6_addText_12 : decode cX6_addText 12 = .ok (.iload_n 2, 1) := by decide +kernel
theorem dX6_addText_13 : decode cX6_addText 13 = .ok (.invokevirtual 38, 3) := by decide +kernel
theorem dX6_addText_16 : decode cX6_addText 16 = .ok (.invokevirtual 29, 3) := by decide +kernel
theorem dX6_addText_19 : decode cX6_addText 19 = .ok (.iinc 2 1, 3) := by decide +kernel
theorem dX6_addText_22 : decode cX6_addText 22 = .ok (.goto (-20), 3) := by decide +kernel
theorem dX6_addText_25 : decode cX6_addText 25 = .ok (.return_, 1) := by decide +kernel
theorem dX6_part_0 : decode cX6_part 0 = .ok (.new 10, 3) := by decide +kernel
theorem dX6_part_3 : decode cX6_part 3 = .ok (.dup, 1) := by decide +kernel
theorem dX6_part_4 : decode cX6_part 4 = .ok (.iload_n 2, 1) := by decide +kernel
theorem dX6_part_5 : decode cX6_part 5 = .ok (.iload_n 1, 1) := by decide +kernel
theorem dX6_part_6 : decode cX6_part 6 = .ok (.isub, 1) := by decide +kernel
theorem dX6_part_7 : decode cX6_part 7 = .ok (.invokespecial 48, 3) := by decide +kernel
theorem dX6_part_10 : decode cX6_part 10 = .ok (.astore_n 3, 1) := by decide +kernel
theorem dX6_part_11 : decode cX6_part 11 = .ok (.iload_n 1, 1) := by decide +kernel
theorem dX6_part_12 : decode cX6_part 12 = .ok (.istore 4, 2) := by decide +kernel
theorem dX6_part_14 : decode cX6_part 14 = .ok (.iload 4, 2) := by decide +kernel
theorem dX6_part_16 : decode cX6_part 16 = .ok (.iload_n 2, 1) := by decide +kernel
theorem dX6_part_17 : decode cX6_part 17 = .ok (.if_icmp .ge 62, 3) := by decide +kernel
theorem dX6_part_20 : decode cX6_part 20 = .ok (.iload 4, 2) := by decide +kernel
theorem dX6_part_22 : decode cX6_part 22 = .ok (.ifCond .lt 57, 3) := by decide +kernel
theorem dX6_part_25 : decode cX6_part 25 = .ok (.iload 4, 2) := by decide +kernel
theorem dX6_part_27 : decode cX6_part 27 = .ok (.aload_n 0, 1) := by decide +kernel
theorem dX6_part_28 : decode cX6_part 28 = .ok (.getfield 9, 3) := by decide +kernel
theorem dX6_part_31 : decode cX6_part 31 = .ok (.arraylength, 1) := by decide +kernel
theorem dX6_part_32 : decode cX6_part 32 = .ok (.if_icmp .ge 47, 3) := by decide +kernel
theorem dX6_part_35 : decode cX6_part 35 = .ok (.iload 4, 2) := by decide +kernel
theorem dX6_part_37 : decode cX6_part 37 = .ok (.iload_n 1, 1) := by decide +kernel
theorem dX6_part_38 : decode cX6_part 38 = .ok (.isub, 1) := by decide +kernel
theorem dX6_part_39 : decode cX6_part 39 = .ok (.aload_n 3, 1) := by decide +kernel
theorem dX6_part_40 : decode cX6_part 40 = .ok (.getfield 9, 3) := by decide +kernel
theorem dX6_part_43 : decode cX6_part 43 = .ok (.arraylength, 1) := by decide +kernel
theorem dX6_part_44 : decode cX6_part 44 = .ok (.if_icmp .ge 35, 3) := by decide +kernel
theorem dX6_part_47 : decode cX6_part 47 = .ok (.aload_n 3, 1) := by decide +kernel
theorem dX6_part_48 : decode cX6_part 48 = .ok (.getfield 9, 3) := by decide +kernel
theorem dX6_part_51 : decode cX6_part 51 = .ok (.iload 4, 2) := by decide +kernel
theorem dX6_part_53 : decode cX6_part 53 = .ok (.iload_n 1, 1) := by decide +kernel
theorem dX6_part_54 : decode cX6_part 54 = .ok (.isub, 1) := by decide +kernel
theorem dX6_part_55 : decode cX6_part 55 = .ok (.aload_n 0, 1) := by decide +kernel
theorem dX6_part_56 : decode cX6_part 56 = .ok (.getfield 9, 3) := by decide +kernel
theorem dX6_part_59 : decode cX6_part 59 = .ok (.iload 4, 2) := by decide +kernel
theorem dX6_part_61 : decode cX6_part 61 = .ok (.caload, 1) := by decide +kernel
theorem dX6_part_62 : decode cX6_part 62 = .ok (.castore, 1) := by decide +kernel
theorem dX6_part_63 : decode cX6_part 63 = .ok (.aload_n 3, 1) := by decide +kernel
theorem dX6_part_64 : decode cX6_part 64 = .ok (.dup, 1) := by decide +kernel
theorem dX6_part_65 : decode cX6_part 65 = .ok (.getfield 15, 3) := by decide +kernel
theorem dX6_part_68 : decode cX6_part 68 = .ok (.iconst 1, 1) := by decide +kernel
theorem dX6_part_69 : decode cX6_part 69 = .ok (.iadd, 1) := by decide +kernel
theorem dX6_part_70 : decode cX6_part 70 = .ok (.putfield 15, 3) := by decide +kernel
theorem dX6_part_73 : decode cX6_part 73 = .ok (.iinc 4 1, 3) := by decide +kernel
theorem dX6_part_76 : decode cX6_part 76 = .ok (.goto (-62), 3) := by decide +kernel
theorem dX6_part_79 : decode cX6_part 79 = .ok (.aload_n 3, 1) := by decide +kernel
theorem dX6_part_80 : decode cX6_part 80 = .ok (.areturn, 1) := by decide +kernel
theorem dX6_same_0 : decode cX6_same 0 = .ok (.aload_n 1, 1) := by decide +kernel
theorem dX6_same_1 : decode cX6_same 1 = .ok (.ifnull 14, 3) := by decide +kernel
theorem dX6_same_4 : decode cX6_same 4 = .ok (.aload_n 1, 1) := by decide +kernel
theorem dX6_same_5 : decode cX6_same 5 = .ok (.getfield 15, 3) := by decide +kernel
theorem dX6_same_8 : decode cX6_same 8 = .ok (.aload_n 0, 1) := by decide +kernel
theorem dX6_same_9 : decode cX6_same 9 = .ok (.getfield 15, 3) := by decide +kernel
theorem dX6_same_12 : decode cX6_same 12 = .ok (.if_icmp .eq 5, 3) := by decide +kernel
theorem dX6_same_15 : decode cX6_same 15 = .ok (.iconst 0, 1) := by decide +kernel
theorem dX6_same_16 : decode cX6_same 16 = .ok (.ireturn, 1) := by decide +kernel
theorem dX6_same_17 : decode cX6_same 17 = .ok (.iconst 0, 1) := by decide +kernel
theorem dX6_same_18 : decode cX6_same 18 = .ok (.istore_n 2, 1) := by decide +kernel
theorem dX6_same_19 : decode cX6_same 19 = .ok (.iload_n 2, 1) := by decide +kernel
theorem dX6_same_20 : decode cX6_same 20 = .ok (.aload_n 0, 1) := by decide +kernel
theorem dX6_same_21 : decode cX6_same 21 = .ok (.getfield 15, 3) := by decide +kernel
theorem dX6_same_24 : decode cX6_same 24 = .ok (.if_icmp .ge 44, 3) := by decide +kernel
theorem dX6_same_27 : decode cX6_same 27 = .ok (.iload_n 2, 1) := by decide +kernel
theorem dX6_same_28 : decode cX6_same 28 = .ok (.aload_n 0, 1) := by decide +kernel
theorem dX6_same_29 : decode cX6_same 29 = .ok (.getfield 9, 3) := by decide +kernel
theorem dX6_same_32 : decode cX6_same 32 = .ok (.arraylength, 1) := by decide +kernel
theorem dX6_same_33 : decode cX6_same 33 = .ok (.if_icmp .ge 35, 3) := by decide +kernel
theorem dX6_same_36 : decode cX6_same 36 = .ok (.iload_n 2, 1) := by decide +kernel
theorem dX6_same_37 : decode cX6_same 37 = .ok (.aload_n 1, 1) := by decide +kernel
theorem dX6_same_38 : decode cX6_same 38 = .ok (.getfield 9, 3) := by decide +kernel
theorem dX6_same_41 : decode cX6_same 41 = .ok (.arraylength, 1) := by decide +kernel
theorem dX6_same_42 : decode cX6_same 42 = .ok (.if_icmp .ge 26, 3) := by decide +kernel
theorem dX6_same_45 : decode cX6_same 45 = .ok (.aload_n 0, 1) := by decide +kernel
theorem dX6_same_46 : decode cX6_same 46 = .ok (.getfield 9, 3) := by decide +kernel
theorem dX6_same_49 : decode cX6_same 49 = .ok (.iload_n 2, 1) := by decide +kernel
theorem dX6_same_50 : decode cX6_same 50 = .ok (.caload, 1) := by decide +kernel
theorem dX6_same_51 : decode cX6_same 51 = .ok (.aload_n 1, 1) := by decide +kernel
theorem dX6_same_52 : decode cX6_same 52 = .ok (.getfield 9, 3) := by decide +kernel
theorem dX6_same_55 : decode cX6_same 55 = .ok (.iload_n 2, 1) := by decide +kernel
theorem dX6_same_56 : decode cX6_same 56 = .ok (.caload, 1) := by decide +kernel
theorem dX6_same_57 : decode cX6_same 57 = .ok (.if_icmp .eq 5, 3) := by decide +kernel
theorem dX6_same_60 : decode cX6_same 60 = .ok (.iconst 0, 1) := by decide +kernel
theorem dX6_same_61 : decode cX6_same 61 = .ok (.ireturn, 1) := by decide +kernel
theorem dX6_same_62 : decode cX6_same 62 = .ok (.iinc 2 1, 3) := by decide +kernel
theorem dX6_same_65 : decode cX6_same 65 = .ok (.goto (-46), 3) := by decide +kernel
theorem dX6_same_68 : decode cX6_same 68 = .ok (.iconst 1, 1) := by decide +kernel
theorem dX6_same_69 : decode cX6_same 69 = .ok (.ireturn, 1) := by decide +kernel
theorem dX6_place_0 : decode cX6_place 0 = .ok (.iconst 0, 1) := by decide +kernel
theorem dX6_place_1 : decode cX6_place 1 = .ok (.iload_n 2, 1) := by decide +kernel
theorem dX6_place_2 : decode cX6_place 2 = .ok (.invokestatic 56, 3) := by decide +kernel
theorem dX6_place_5 : decode cX6_place 5 = .ok (.istore 4, 2) := by decide +kernel
theorem dX6_place_7 : decode cX6_place 7 = .ok (.iload 4, 2) := by decide +kernel
theorem dX6_place_9 : decode cX6_place 9 = .ok (.iload_n 3, 1) := by decide +kernel
theorem dX6_place_10 : decode cX6_place 10 = .ok (.if_icmp .ge 33, 3) := by decide +kernel
theorem dX6_place_13 : decode cX6_place 13 = .ok (.iload 4, 2) := by decide +kernel
theorem dX6_place_15 : decode cX6_place 15 = .ok (.aload_n 0, 1) := by decide +kernel
theorem dX6_place_16 : decode cX6_place 16 = .ok (.getfield 9, 3) := by decide +kernel
theorem dX6_place_19 : decode cX6_place 19 = .ok (.arraylength, 1) := by decide +kernel
theorem dX6_place_20 : decode cX6_place 20 = .ok (.if_icmp .ge 23, 3) := by decide +kernel
theorem dX6_place_23 : decode cX6_place 23 = .ok (.aload_n 0, 1) := by decide +kernel
theorem dX6_place_24 : decode cX6_place 24 = .ok (.getfield 9, 3) := by decide +kernel
theorem dX6_place_27 : decode cX6_place 27 = .ok (.iload 4, 2) := by decide +kernel
theorem dX6_place_29 : decode cX6_place 29 = .ok (.caload, 1) := by decide +kernel
theorem dX6_place_30 : decode cX6_place 30 = .ok (.iload_n 1, 1) := by decide +kernel
theorem dX6_place_31 : decode cX6_place 31 = .ok (.if_icmp .ne 6, 3) := by decide +kernel
theorem dX6_place_37 : decode cX6_place 37 = .ok (.iinc 4 1, 3) := by decide +kernel
theorem dX6_place_40 : decode cX6_place 40 = .ok (.goto (-33), 3) := by decide +kernel
theorem dX6_place_43 : decode cX6_place 43 = .ok (.iload_n 3, 1) := by decide +kernel
theorem dX6_place_44 : decode cX6_place 44 = .ok (.ireturn, 1) := by decide +kernel
theorem dX6_isName_0 : decode cX6_isName 0 = .ok (.aload_n 0, 1) := by decide +kernel
theorem dX6_isName_1 : decode cX6_isName 1 = .ok (.aload_n 0, 1) := by decide +kernel
theorem dX6_isName_2 : decode cX6_isName 2 = .ok (.getfield 15, 3) := by decide +kernel
theorem dX6_isName_5 : decode cX6_isName 5 = .ok (.invokevirtual 59, 3) := by decide +kernel
theorem dX6_isName_8 : decode cX6_isName 8 = .ok (.ireturn, 1) := by decide +kernel
theorem dX6_isNameUpTo_0 : decode cX6_isNameUpTo 0 = .ok (.iload_n 1, 1) := by decide +kernel
theorem dX6_isNameUpTo_1 : decode cX6_isNameUpTo 1 = .ok (.iconst 1, 1) := by decide +kernel
theorem dX6_isNameUpTo_2 : decode cX6_isNameUpTo 2 = .ok (.if_icmp .lt 14, 3) := by decide +kernel
theorem dX6_isNameUpTo_5 : decode cX6_isNameUpTo 5 = .ok (.aload_n 0, 1) := by decide +kernel
theorem dX6_isNameUpTo_6 : decode cX6_isNameUpTo 6 = .ok (.iconst 0, 1) := by decide +kernel
theorem dX6_isNameUpTo_7 : decode cX6_isNameUpTo 7 = .ok (.invokevirtual 25, 3) := by decide +kernel
theorem dX6_isNameUpTo_10 : decode cX6_isNameUpTo 10 = .ok (.invokestatic 63, 3) := by decide +kernel
theorem dX6_isNameUpTo_13 : decode cX6_isNameUpTo 13 = .ok (.ifCond .ne 5, 3) := by decide +kernel
theorem dX6_isNameUpTo_18 : decode cX6_isNameUpTo 18 = .ok (.iconst 1, 1) := by decide +kernel
theorem dX6_isNameUpTo_19 : decode cX6_isNameUpTo 19 = .ok (.istore_n 2, 1) := by decide +kernel
theorem dX6_isNameUpTo_20 : decode cX6_isNameUpTo 20 = .ok (.iload_n 2, 1) := by decide +kernel
theorem dX6_isNameUpTo_21 : decode cX6_isNameUpTo 21 = .ok (.iload_n 1, 1) := by decide +kernel
theorem dX6_isNameUpTo_22 : decode cX6_isNameUpTo 22 = .ok (.if_icmp .ge 22, 3) := by decide +kernel
theorem dX6_isNameUpTo_44 : decode cX6_isNameUpTo 44 = .ok (.iconst 1, 1) := by decide +kernel
theorem dX6_isNameUpTo_45 : decode cX6_isNameUpTo 45 = .ok (.ireturn, 1) := by decide +kernel
theorem dX6_isText_0 : decode cX6_isText 0 = .ok (.iconst 0, 1) := by decide +kernel
theorem dX6_isText_1 : decode cX6_isText 1 = .ok (.istore_n 1, 1) := by decide +kernel
theorem dX6_isText_2 : decode cX6_isText 2 = .ok (.iload_n 1, 1) := by decide +kernel
theorem dX6_isText_3 : decode cX6_isText 3 = .ok (.aload_n 0, 1) := by decide +kernel
theorem dX6_isText_4 : decode cX6_isText 4 = .ok (.getfield 15, 3) := by decide +kernel
theorem dX6_isText_7 : decode cX6_isText 7 = .ok (.if_icmp .ge 22, 3) := by decide +kernel
theorem dX6_isText_10 : decode cX6_isText 10 = .ok (.aload_n 0, 1) := by decide +kernel
theorem dX6_isText_11 : decode cX6_isText 11 = .ok (.iload_n 1, 1) := by decide +kernel
theorem dX6_isText_12 : decode cX6_isText 12 = .ok (.invokevirtual 25, 3) := by decide +kernel
theorem dX6_isText_15 : decode cX6_isText 15 = .ok (.invokestatic 69, 3) := by decide +kernel
theorem dX6_isText_18 : decode cX6_isText 18 = .ok (.ifCond .ne 5, 3) := by decide +kernel
theorem dX6_isText_23 : decode cX6_isText 23 = .ok (.iinc 1 1, 3) := by decide +kernel
theorem dX6_isText_26 : decode cX6_isText 26 = .ok (.goto (-24), 3) := by decide +kernel
theorem dX6_isText_29 : decode cX6_isText 29 = .ok (.iconst 1, 1) := by decide +kernel
theorem dX6_isText_30 : decode cX6_isText 30 = .ok (.ireturn, 1) := by decide +kernel
theorem dX6_isAliasText_0 : decode cX6_isAliasText 0 = .ok (.aload_n 0, 1) := by decide +kernel
theorem dX6_isAliasText_1 : decode cX6_isAliasText 1 = .ok (.invokevirtual 72, 3) := by decide +kernel
theorem dX6_isAliasText_4 : decode cX6_isAliasText 4 = .ok (.ifCond .eq 25, 3) := by decide +kernel
theorem dX6_isAliasText_7 : decode cX6_isAliasText 7 = .ok (.aload_n 0, 1) := by decide +kernel
theorem dX6_isAliasText_8 : decode cX6_isAliasText 8 = .ok (.bipush 10, 2) := by decide +kernel
theorem dX6_isAliasText_10 : decode cX6_isAliasText 10 = .ok (.iconst 0, 1) := by decide +kernel
theorem dX6_isAliasText_11 : decode cX6_isAliasText 11 = .ok (.aload_n 0, 1) := by decide +kernel
theorem dX6_isAliasText_12 : decode cX6_isAliasText 12 = .ok (.getfield 15, 3) := by decide +kernel
theorem dX6_isAliasText_15 : decode cX6_isAliasText 15 = .ok (.invokevirtual 76, 3) := by decide +kernel
theorem dX6_isAliasText_18 : decode cX6_isAliasText 18 = .ok (.aload_n 0, 1) := by decide +kernel
theorem dX6_isAliasText_19 : decode cX6_isAliasText 19 = .ok (.getfield 15, 3) := by decide +kernel
theorem dX6_isAliasText_22 : decode cX6_isAliasText 22 = .ok (.if_icmp .ne 7, 3) := by decide +kernel
theorem dX6_isAliasText_25 : decode cX6_isAliasText 25 = .ok (.iconst 1, 1) := by decide +kernel
theorem dX6_isAliasText_26 : decode cX6_isAliasText 26 = .ok (.goto 4, 3) := by decide +kernel
theorem dX6_isAliasText_30 : decode cX6_isAliasText 30 = .ok (.ireturn, 1) := by decide +kernel
theorem dX7_init_0 : decode cX7_init 0 = .ok (.aload_n 0, 1) := by decide +kernel
theorem dX7_init_1 : decode cX7_init 1 = .ok (.invokespecial 3, 3) := by decide +kernel
theorem dX7_init_4 : decode cX7_init 4 = .ok (.aload_n 0, 1) := by decide +kernel
theorem dX7_init_5 : decode cX7_init 5 = .ok (.iconst 3, 1) := by decide +kernel
theorem dX7_init_6 : decode cX7_init 6 = .ok (.anewarray 9, 3) := by decide +kernel
theorem dX7_init_9 : decode cX7_init 9 = .ok (.putfield 11, 3) := by decide +kernel
theorem dX7_init_12 : decode cX7_init 12 = .ok (.aload_n 0, 1) := by decide +kernel
theorem dX7_init_13 : decode cX7_init 13 = .ok (.iconst 3, 1) := by decide +kernel
theorem dX7_init_14 : decode cX7_init 14 = .ok (.anewarray 9, 3) := by decide +kernel
theorem dX7_init_17 : decode cX7_init 17 = .ok (.putfield 17, 3) := by decide +kernel
theorem dX7_init_20 : decode cX7_init 20 = .ok (.aload_n 0, 1) := by decide +kernel
theorem dX7_init_21 : decode cX7_init 21 = .ok (.new 9, 3) := by decide +kernel
theorem dX7_init_24 : decode cX7_init 24 = .ok (.dup, 1) := by decide +kernel
theorem dX7_init_25 : decode cX7_init 25 = .ok (.aconst_null, 1) := by decide +kernel
theorem dX7_init_26 : decode cX7_init 26 = .ok (.aconst_null, 1) := by decide +kernel
theorem dX7_init_27 : decode cX7_init 27 = .ok (.iconst 1, 1) := by decide +kernel
theorem dX7_init_28 : decode cX7_init 28 = .ok (.iconst 0, 1) := by decide +kernel
theorem dX7_init_29 : decode cX7_init 29 = .ok (.invokespecial 20, 3) := by decide +kernel
theorem dX7_init_32 : decode cX7_init 32 = .ok (.putfield 23, 3) := by decide +kernel
theorem dX7_init_35 : decode cX7_init 35 = .ok (.aload_n 0, 1) := by decide +kernel
theorem dX7_init_36 : decode cX7_init 36 = .ok (.bipush 16, 2) := by decide +kernel
theorem dX7_init_38 : decode cX7_init 38 = .ok (.anewarray 9, 3) := by decide +kernel
theorem dX7_init_41 : decode cX7_init 41 = .ok (.putfield 27, 3) := by decide +kernel
theorem dX7_init_44 : decode cX7_init 44 = .ok (.aload_n 0, 1) := by decide +kernel
theorem dX7_init_45 : decode cX7_init 45 = .ok (.bipush 16, 2) := by decide +kernel
theorem dX7_init_47 : decode cX7_init 47 = .ok (.newarray .int, 2) := by decide +kernel
theorem dX7_init_49 : decode cX7_init 49 = .ok (.putfield 30, 3) := by decide +kernel
theorem dX7_init_52 : decode cX7_init 52 = .ok (.aload_n 0, 1) := by decide +kernel
theorem dX7_init_53 : decode cX7_init 53 = .ok (.bipush 16, 2) := by decide +kernel
theorem dX7_init_55 : decode cX7_init 55 = .ok (.anewarray 34, 3) := by decide +kernel
theorem dX7_init_58 : decode cX7_init 58 = .ok (.putfield 36, 3) := by decide +kernel
theorem dX7_init_61 : decode cX7_init 61 = .ok (.aload_n 0, 1) := by decide +kernel
theorem dX7_init_62 : decode cX7_init 62 = .ok (.bipush 16, 2) := by decide +kernel
theorem dX7_init_64 : decode cX7_init 64 = .ok (.anewarray 40, 3) := by decide +kernel
theorem dX7_init_67 : decode cX7_init 67 = .ok (.putfield 42, 3) := by decide +kernel
theorem dX7_init_70 : decode cX7_init 70 = .ok (.aload_n 0, 1) := by decide +kernel
theorem dX7_init_71 : decode cX7_init 71 = .ok (.iconst (-1), 1) := by decide +kernel
theorem dX7_init_72 : decode cX7_init 72 = .ok (.putfield 46, 3) := by decide +kernel
theorem dX7_init_75 : decode cX7_init 75 = .ok (.aload_n 0, 1) := by decide +kernel
theorem dX7_init_76 : decode cX7_init 76 = .ok (.bipush 61, 2) := by decide +kernel
theorem dX7_init_78 : decode cX7_init 78 = .ok (.anewarray 9, 3) := by decide +kernel
theorem dX7_init_81 : decode cX7_init 81 = .ok (.putfield 50, 3) := by decide +kernel
theorem dX7_init_84 : decode cX7_init 84 = .ok (.aload_n 0, 1) := by decide +kernel
theorem dX7_init_85 : decode cX7_init 85 = .ok (.aload_n 1, 1) := by decide +kernel
theorem dX7_init_86 : decode cX7_init 86 = .ok (.putfield 53, 3) := by decide +kernel
theorem dX7_init_89 : decode cX7_init 89 = .ok (.aload_n 0, 1) := by decide +kernel
theorem dX7_init_90 : decode cX7_init 90 = .ok (.aload_n 2, 1) := by decide +kernel
theorem dX7_init_91 : decode cX7_init 91 = .ok (.putfield 57, 3) := by decide +kernel
theorem dX7_init_94 : decode cX7_init 94 = .ok (.aload_n 0, 1) := by decide +kernel
theorem dX7_init_95 : decode cX7_init 95 = .ok (.getfield 11, 3) := by decide +kernel
theorem dX7_init_98 : decode cX7_init 98 = .ok (.iconst 0, 1) := by decide +kernel
theorem dX7_init_99 : decode cX7_init 99 = .ok (.new 9, 3) := by decide +kernel
theorem dX7_init_102 : decode cX7_init 102 = .ok (.dup, 1) := by decide +kernel
theorem dX7_init_103 : decode cX7_init 103 = .ok (.new 40, 3) := by decide +kernel
theorem dX7_init_106 : decode cX7_init 106 = .ok (.dup, 1) := by decide +kernel
theorem dX7_init_107 : decode cX7_init 107 = .ok (.bipush 64, 2) := by decide +kernel
theorem dX7_init_109 : decode cX7_init 109 = .ok (.invokespecial 61, 3) := by decide +kernel
theorem dX7_init_112 : decode cX7_init 112 = .ok (.aconst_null, 1) := by decide +kernel
theorem dX7_init_113 : decode cX7_init 113 = .ok (.iconst 1, 1) := by decide +kernel
theorem dX7_init_114 : decode cX7_init 114 = .ok (.iconst 0, 1) := by decide +kernel
theorem dX7_init_115 : decode cX7_init 115 = .ok (.invokespecial 20, 3) := by decide +kernel
theorem dX7_init_118 : decode cX7_init 118 = .ok (.aastore, 1) := by decide +kernel
theorem dX7_init_119 : decode cX7_init 119 = .ok (.aload_n 0, 1) := by decide +kernel
theorem dX7_init_120 : decode cX7_init 120 = .ok (.getfield 11, 3) := by decide +kernel
theorem dX7_init_123 : decode cX7_init 123 = .ok (.iconst 1, 1) := by decide +kernel
theorem dX7_init_124 : decode cX7_init 124 = .ok (.new 9, 3) := by decide +kernel
theorem dX7_init_127 : decode cX7_init 127 = .ok (.dup, 1) := by decide +kernel
theorem dX7_init_128 : decode cX7_init 128 = .ok (.new 40, 3) := by decide +kernel
theorem dX7_init_131 : decode cX7_init 131 = .ok (.dup, 1) := by decide +kernel
theorem dX7_init_132 : decode cX7_init 132 = .ok (.bipush 64, 2) := by decide +kernel
theorem dX7_init_134 : decode cX7_init 134 = .ok (.invokespecial 61, 3) := by decide +kernel
theorem dX7_init_137 : decode cX7_init 137 = .ok (.aconst_null, 1) := by decide +kernel
theorem dX7_init_138 : decode cX7_init 138 = .ok (.iconst 0, 1) := by decide +kernel
theorem dX7_init_139 : decode cX7_init 139 = .ok (.ldc 64, 2) := by decide +kernel
theorem dX7_init_141 : decode cX7_init 141 = .ok (.invokespecial 20, 3) := by decide +kernel
theorem dX7_init_144 : decode cX7_init 144 = .ok (.aastore, 1) := by decide +kernel
theorem dX7_init_145 : decode cX7_init 145 = .ok (.aload_n 0, 1) := by decide +kernel
theorem dX7_init_146 : decode cX7_init 146 = .ok (.getfield 11, 3) := by decide +kernel
theorem dX7_init_149 : decode cX7_init 149 = .ok (.iconst 2, 1) := by decide +kernel
theorem dX7_init_150 : decode cX7_init 150 = .ok (.new 9, 3) := by decide +kernel
theorem dX7_init_153 : decode cX7_init 153 = .ok (.dup, 1) := by decide +kernel
theorem dX7_init_154 : decode cX7_init 154 = .ok (.new 40, 3) := by decide +kernel
theorem dX7_init_157 : decode cX7_init 157 = .ok (.dup, 1) := by decide +kernel
theorem dX7_init_158 : decode cX7_init 158 = .ok (.bipush 64, 2) := by decide +kernel
theorem dX7_init_160 : decode cX7_init 160 = .ok (.invokespecial 61, 3) := by decide +kernel
theorem dX7_init_163 : decode cX7_init 163 = .ok (.aconst_null, 1) := by decide +kernel
theorem dX7_init_164 : decode cX7_init 164 = .ok (.iconst 0, 1) := by decide +kernel
theorem dX7_init_165 : decode cX7_init 165 = .ok (.ldc 64, 2) := by decide +kernel
theorem dX7_init_167 : decode cX7_init 167 = .ok (.invokespecial 20, 3) := by decide +kernel
theorem dX7_init_170 : decode cX7_init 170 = .ok (.aastore, 1) := by decide +kernel
theorem dX7_init_171 : decode cX7_init 171 = .ok (.return_, 1) := by decide +kernel
theorem dX8_init_0 : decode cX8_init 0 = .ok (.aload_n 0, 1) := by decide +kernel
theorem dX8_init_1 : decode cX8_init 1 = .ok (.invokespecial 3, 3) := by decide +kernel
theorem dX8_init_4 : decode cX8_init 4 = .ok (.aload_n 0, 1) := by decide +kernel
theorem dX8_init_5 : decode cX8_init 5 = .ok (.aload_n 1, 1) := by decide +kernel
theorem dX8_init_6 : decode cX8_init 6 = .ok (.putfield 9, 3) := by decide +kernel
theorem dX8_init_9 : decode cX8_init 9 = .ok (.aload_n 0, 1) := by decide +kernel
theorem dX8_init_10 : decode cX8_init 10 = .ok (.aload_n 2, 1) := by decide +kernel
theorem dX8_init_11 : decode cX8_init 11 = .ok (.putfield 15, 3) := by decide +kernel
theorem dX8_init_14 : decode cX8_init 14 = .ok (.aload_n 0, 1) := by decide +kernel
theorem dX8_init_15 : decode cX8_init 15 = .ok (.iload_n 3, 1) := by decide +kernel
theorem dX8_init_16 : decode cX8_init 16 = .ok (.putfield 19, 3) := by decide +kernel
theorem dX8_init_19 : decode cX8_init 19 = .ok (.aload_n 0, 1) := by decide +kernel
theorem dX8_init_20 : decode cX8_init 20 = .ok (.iload 4, 2) := by decide +kernel
theorem dX8_init_22 : decode cX8_init 22 = .ok (.putfield 23, 3) := by decide +kernel
theorem dX8_init_25 : decode cX8_init 25 = .ok (.return_, 1) := by decide +kernel
theorem dX8_text_0 : decode cX8_text 0 = .ok (.new 10, 3) := by decide +kernel
theorem dX8_text_3 : decode cX8_text 3 = .ok (.dup, 1) := by decide +kernel
theorem dX8_text_4 : decode cX8_text 4 = .ok (.aload_n 0, 1) := by decide +kernel
theorem dX8_text_5 : decode cX8_text 5 = .ok (.aconst_null, 1) := by decide +kernel
theorem dX8_text_6 : decode cX8_text 6 = .ok (.iconst 1, 1) := by decide +kernel
theorem dX8_text_7 : decode cX8_text 7 = .ok (.iconst 0, 1) := by decide +kernel
theorem dX8_text_8 : decode cX8_text 8 = .ok (.invokespecial 27, 3) := by decide +kernel
theorem dX8_text_11 : decode cX8_text 11 = .ok (.astore 4, 2) := by decide +kernel
theorem dX8_text_13 : decode cX8_text 13 = .ok (.aload 4, 2) := by decide +kernel
theorem dX8_text_15 : decode cX8_text 15 = .ok (.iload_n 1, 1) := by decide +kernel
theorem dX8_text_16 : decode cX8_text 16 = .ok (.putfield 30, 3) := by decide +kernel
theorem dX8_text_19 : decode cX8_text 19 = .ok (.aload 4, 2) := by decide +kernel
theorem dX8_text_21 : decode cX8_text 21 = .ok (.aload_n 2, 1) := by decide +kernel
theorem dX8_text_22 : decode cX8_text 22 = .ok (.putfield 33, 3) := by decide +kernel
theorem dX8_text_25 : decode cX8_text 25 = .ok (.aload 4, 2) := by decide +kernel
theorem dX8_text_27 : decode cX8_text 27 = .ok (.aload_n 3, 1) := by decide +kernel
theorem dX8_text_28 : decode cX8_text 28 = .ok (.putfield 37, 3) := by decide +kernel
theorem dX8_text_31 : decode cX8_text 31 = .ok (.aload 4, 2) := by decide +kernel
theorem dX8_text_33 : decode cX8_text 33 = .ok (.aload_n 2, 1) := by decide +kernel
theorem dX8_text_34 : decode cX8_text 34 = .ok (.ifnonnull 7, 3) := by decide +kernel
theorem dX8_text_37 : decode cX8_text 37 = .ok (.iconst 0, 1) := by decide +kernel
theorem dX8_text_38 : decode cX8_text 38 = .ok (.goto 7, 3) := by decide +kernel
theorem dX8_text_41 : decode cX8_text 41 = .ok (.aload_n 2, 1) := by decide +kernel
theorem dX8_text_42 : decode cX8_text 42 = .ok (.getfield 41, 3) := by decide +kernel
theorem dX8_text_45 : decode cX8_text 45 = .ok (.aload_n 3, 1) := by decide +kernel
theorem dX8_text_46 : decode cX8_text 46 = .ok (.ifnonnull 7, 3) := by decide +kernel
theorem dX8_text_49 : decode cX8_text 49 = .ok (.iconst 0, 1) := by decide +kernel
theorem dX8_text_50 : decode cX8_text 50 = .ok (.goto 4, 3) := by decide +kernel
theorem dX8_text_53 : decode cX8_text 53 = .ok (.iconst 1, 1) := by decide +kernel
theorem dX8_text_54 : decode cX8_text 54 = .ok (.iadd, 1) := by decide +kernel
theorem dX8_text_55 : decode cX8_text 55 = .ok (.putfield 41, 3) := by decide +kernel
theorem dX8_text_58 : decode cX8_text 58 = .ok (.aload 4, 2) := by decide +kernel
theorem dX8_text_60 : decode cX8_text 60 = .ok (.areturn, 1) := by decide +kernel
theorem dX9_init_0 : decode cX9_init 0 = .ok (.aload_n 0, 1) := by decide +kernel
theorem dX9_init_1 : decode cX9_init 1 = .ok (.invokespecial 3, 3) := by decide +kernel
theorem dX9_init_4 : decode cX9_init 4 = .ok (.aload_n 0, 1) := by decide +kernel
theorem dX9_init_5 : decode cX9_init 5 = .ok (.sipush 1024, 3) := by decide +kernel
theorem dX9_init_8 : decode cX9_init 8 = .ok (.newarray .long, 2) := by decide +kernel
theorem dX9_init_10 : decode cX9_init 10 = .ok (.putfield 11, 3) := by decide +kernel
theorem dX9_init_13 : decode cX9_init 13 = .ok (.aload_n 0, 1) := by decide +kernel
theorem dX9_init_14 : decode cX9_init 14 = .ok (.sipush 5120, 3) := by decide +kernel
theorem dX9_init_17 : decode cX9_init 17 = .ok (.newarray .int, 2) := by decide +kernel
theorem dX9_init_19 : decode cX9_init 19 = .ok (.putfield 15, 3) := by decide +kernel
theorem dX9_init_22 : decode cX9_init 22 = .ok (.aload_n 0, 1) := by decide +kernel
theorem dX9_init_23 : decode cX9_init 23 = .ok (.new 19, 3) := by decide +kernel
theorem dX9_init_26 : decode cX9_init 26 = .ok (.dup, 1) := by decide +kernel
theorem dX9_init_27 : decode cX9_init 27 = .ok (.bipush 16, 2) := by decide +kernel
theorem dX9_init_29 : decode cX9_init 29 = .ok (.invokespecial 21, 3) := by decide +kernel
theorem dX9_init_32 : decode cX9_init 32 = .ok (.putfield 24, 3) := by decide +kernel
theorem dX9_init_35 : decode cX9_init 35 = .ok (.aload_n 0, 1) := by decide +kernel
theorem dX9_init_36 : decode cX9_init 36 = .ok (.aload_n 1, 1) := by decide +kernel
theorem dX9_init_37 : decode cX9_init 37 = .ok (.putfield 28, 3) := by decide +kernel
theorem dX9_init_40 : decode cX9_init 40 = .ok (.return_, 1) := by decide +kernel
theorem dX10_init_0 : decode cX10_init 0 = .ok (.aload_n 0, 1) := by decide +kernel
theorem dX10_init_1 : decode cX10_init 1 = .ok (.invokespecial 3, 3) := by decide +kernel
theorem dX10_init_4 : decode cX10_init 4 = .ok (.aload_n 0, 1) := by decide +kernel
theorem dX10_init_5 : decode cX10_init 5 = .ok (.new 9, 3) := by decide +kernel
theorem dX10_init_8 : decode cX10_init 8 = .ok (.dup, 1) := by decide +kernel
theorem dX10_init_9 : decode cX10_init 9 = .ok (.bipush 64, 2) := by decide +kernel
theorem dX10_init_11 : decode cX10_init 11 = .ok (.invokespecial 11, 3) := by decide +kernel
theorem dX10_init_14 : decode cX10_init 14 = .ok (.putfield 14, 3) := by decide +kernel
theorem dX10_init_17 : decode cX10_init 17 = .ok (.aload_n 0, 1) := by decide +kernel
theorem dX10_init_18 : decode cX10_init 18 = .ok (.new 9, 3) := by decide +kernel
theorem dX10_init_21 : decode cX10_init 21 = .ok (.dup, 1) := by decide +kernel
theorem dX10_init_22 : decode cX10_init 22 = .ok (.bipush 64, 2) := by decide +kernel
theorem dX10_init_24 : decode cX10_init 24 = .ok (.invokespecial 11, 3) := by decide +kernel
theorem dX10_init_27 : decode cX10_init 27 = .ok (.putfield 20, 3) := by decide +kernel
theorem dX10_init_30 : decode cX10_init 30 = .ok (.aload_n 0, 1) := by decide +kernel
theorem dX10_init_31 : decode cX10_init 31 = .ok (.bipush 64, 2) := by decide +kernel
theorem dX10_init_33 : decode cX10_init 33 = .ok (.newarray .int, 2) := by decide +kernel
theorem dX10_init_35 : decode cX10_init 35 = .ok (.putfield 23, 3) := by decide +kernel
theorem dX10_init_38 : decode cX10_init 38 = .ok (.aload_n 0, 1) := by decide +kernel
theorem dX10_init_39 : decode cX10_init 39 = .ok (.bipush 64, 2) := by decide +kernel
theorem dX10_init_41 : decode cX10_init 41 = .ok (.newarray .int, 2) := by decide +kernel
theorem dX10_init_43 : decode cX10_init 43 = .ok (.putfield 27, 3) := by decide +kernel
theorem dX10_init_46 : decode cX10_init 46 = .ok (.aload_n 0, 1) := by decide +kernel
theorem dX10_init_47 : decode cX10_init 47 = .ok (.bipush 64, 2) := by decide +kernel
theorem dX10_init_49 : decode cX10_init 49 = .ok (.newarray .int, 2) := by decide +kernel
theorem dX10_init_51 : decode cX10_init 51 = .ok (.putfield 30, 3) := by decide +kernel
theorem dX10_init_54 : decode cX10_init 54 = .ok (.aload_n 0, 1) := by decide +kernel
theorem dX10_init_55 : decode cX10_init 55 = .ok (.new 9, 3) := by decide +kernel
theorem dX10_init_58 : decode cX10_init 58 = .ok (.dup, 1) := by decide +kernel
theorem dX10_init_59 : decode cX10_init 59 = .ok (.bipush 32, 2) := by decide +kernel
theorem dX10_init_61 : decode cX10_init 61 = .ok (.invokespecial 11, 3) := by decide +kernel
theorem dX10_init_64 : decode cX10_init 64 = .ok (.putfield 33, 3) := by decide +kernel
theorem dX10_init_67 : decode cX10_init 67 = .ok (.aload_n 0, 1) := by decide +kernel
theorem dX10_init_68 : decode cX10_init 68 = .ok (.sipush 256, 3) := by decide +kernel
theorem dX10_init_71 : decode cX10_init 71 = .ok (.newarray .int, 2) := by decide +kernel
theorem dX10_init_73 : decode cX10_init 73 = .ok (.putfield 36, 3) := by decide +kernel
theorem dX10_init_76 : decode cX10_init 76 = .ok (.aload_n 0, 1) := by decide +kernel
theorem dX10_init_77 : decode cX10_init 77 = .ok (.sipush 256, 3) := by decide +kernel
theorem dX10_init_80 : decode cX10_init 80 = .ok (.newarray .boolean, 2) := by decide +kernel
theorem dX10_init_82 : decode cX10_init 82 = .ok (.putfield 39, 3) := by decide +kernel
theorem dX10_init_85 : decode cX10_init 85 = .ok (.aload_n 0, 1) := by decide +kernel
theorem dX10_init_86 : decode cX10_init 86 = .ok (.iconst 4, 1) := by decide +kernel
theorem dX10_init_87 : decode cX10_init 87 = .ok (.newarray .int, 2) := by decide +kernel
theorem dX10_init_89 : decode cX10_init 89 = .ok (.putfield 43, 3) := by decide +kernel
theorem dX10_init_92 : decode cX10_init 92 = .ok (.aload_n 0, 1) := by decide +kernel
theorem dX10_init_93 : decode cX10_init 93 = .ok (.iconst 4, 1) := by decide +kernel
theorem dX10_init_94 : decode cX10_init 94 = .ok (.newarray .int, 2) := by decide +kernel
theorem dX10_init_96 : decode cX10_init 96 = .ok (.putfield 46, 3) := by decide +kernel
theorem dX10_init_99 : decode cX10_init 99 = .ok (.aload_n 0, 1) := by decide +kernel
theorem dX10_init_100 : decode cX10_init 100 = .ok (.aload_n 1, 1) := by decide +kernel
theorem dX10_init_101 : decode cX10_init 101 = .ok (.putfield 49, 3) := by decide +kernel
theorem dX10_init_104 : decode cX10_init 104 = .ok (.aload_n 0, 1) := by decide +kernel
theorem dX10_init_105 : decode cX10_init 105 = .ok (.aload_n 2, 1) := by decide +kernel
theorem dX10_init_106 : decode cX10_init 106 = .ok (.putfield 53, 3) := by decide +kernel
theorem dX10_init_109 : decode cX10_init 109 = .ok (.aload_n 0, 1) := by decide +kernel
theorem dX10_init_110 : decode cX10_init 110 = .ok (.aload_n 3, 1) := by decide +kernel
theorem dX10_init_111 : decode cX10_init 111 = .ok (.putfield 57, 3) := by decide +kernel
theorem dX10_init_114 : decode cX10_init 114 = .ok (.return_, 1) := by decide +kernel
theorem dX11_init_0 : decode cX11_init 0 = .ok (.aload_n 0, 1) := by decide +kernel
theorem dX11_init_1 : decode cX11_init 1 = .ok (.invokespecial 3, 3) := by decide +kernel
theorem dX11_init_4 : decode cX11_init 4 = .ok (.aload_n 0, 1) := by decide +kernel
theorem dX11_init_5 : decode cX11_init 5 = .ok (.iconst 5, 1) := by decide +kernel
theorem dX11_init_6 : decode cX11_init 6 = .ok (.putfield 9, 3) := by decide +kernel
theorem dX11_init_9 : decode cX11_init 9 = .ok (.aload_n 0, 1) := by decide +kernel
theorem dX11_init_10 : decode cX11_init 10 = .ok (.iconst (-1), 1) := by decide +kernel
theorem dX11_init_11 : decode cX11_init 11 = .ok (.putfield 15, 3) := by decide +kernel
theorem dX11_init_14 : decode cX11_init 14 = .ok (.aload_n 0, 1) := by decide +kernel
theorem dX11_init_15 : decode cX11_init 15 = .ok (.iload_n 1, 1) := by decide +kernel
theorem dX11_init_16 : decode cX11_init 16 = .ok (.putfield 18, 3) := by decide +kernel
theorem dX11_init_19 : decode cX11_init 19 = .ok (.return_, 1) := by decide +kernel
theorem dX12_init_0 : decode cX12_init 0 = .ok (.aload_n 0, 1) := by decide +kernel
theorem dX12_init_1 : decode cX12_init 1 = .ok (.invokespecial 1, 3) := by decide +kernel
theorem dX12_init_4 : decode cX12_init 4 = .ok (.aload_n 0, 1) := by decide +kernel
theorem dX12_init_5 : decode cX12_init 5 = .ok (.new 7, 3) := by decide +kernel
theorem dX12_init_8 : decode cX12_init 8 = .ok (.dup, 1) := by decide +kernel
theorem dX12_init_9 : decode cX12_init 9 = .ok (.bipush 64, 2) := by decide +kernel
theorem dX12_init_11 : decode cX12_init 11 = .ok (.invokespecial 9, 3) := by decide +kernel
theorem dX12_init_14 : decode cX12_init 14 = .ok (.putfield 12, 3) := by decide +kernel
theorem dX12_init_17 : decode cX12_init 17 = .ok (.aload_n 0, 1) := by decide +kernel
theorem dX12_init_18 : decode cX12_init 18 = .ok (.new 7, 3) := by decide +kernel
theorem dX12_init_21 : decode cX12_init 21 = .ok (.dup, 1) := by decide +kernel
theorem dX12_init_22 : decode cX12_init 22 = .ok (.bipush 64, 2) := by decide +kernel
theorem dX12_init_24 : decode cX12_init 24 = .ok (.invokespecial 9, 3) := by decide +kernel
theorem dX12_init_27 : decode cX12_init 27 = .ok (.putfield 18, 3) := by decide +kernel
theorem dX12_init_30 : decode cX12_init 30 = .ok (.aload_n 0, 1) := by decide +kernel
theorem dX12_init_31 : decode cX12_init 31 = .ok (.new 7, 3) := by decide +kernel
theorem dX12_init_34 : decode cX12_init 34 = .ok (.dup, 1) := by decide +kernel
theorem dX12_init_35 : decode cX12_init 35 = .ok (.bipush 64, 2) := by decide +kernel
theorem dX12_init_37 : decode cX12_init 37 = .ok (.invokespecial 9, 3) := by decide +kernel
theorem dX12_init_40 : decode cX12_init 40 = .ok (.putfield 21, 3) := by decide +kernel
theorem dX12_init_43 : decode cX12_init 43 = .ok (.aload_n 0, 1) := by decide +kernel
theorem dX12_init_44 : decode cX12_init 44 = .ok (.new 24, 3) := by decide +kernel
theorem dX12_init_47 : decode cX12_init 47 = .ok (.dup, 1) := by decide +kernel
theorem dX12_init_48 : decode cX12_init 48 = .ok (.invokespecial 26, 3) := by decide +kernel
theorem dX12_init_51 : decode cX12_init 51 = .ok (.putfield 27, 3) := by decide +kernel
theorem dX12_init_54 : decode cX12_init 54 = .ok (.aload_n 0, 1) := by decide +kernel
theorem dX12_init_55 : decode cX12_init 55 = .ok (.new 31, 3) := by decide +kernel
theorem dX12_init_58 : decode cX12_init 58 = .ok (.dup, 1) := by decide +kernel
theorem dX12_init_59 : decode cX12_init 59 = .ok (.aload_n 0, 1) := by decide +kernel
theorem dX12_init_60 : decode cX12_init 60 = .ok (.getfield 27, 3) := by decide +kernel
theorem dX12_init_63 : decode cX12_init 63 = .ok (.invokespecial 33, 3) := by decide +kernel
theorem dX12_init_66 : decode cX12_init 66 = .ok (.putfield 36, 3) := by decide +kernel
theorem dX12_init_69 : decode cX12_init 69 = .ok (.aload_n 0, 1) := by decide +kernel
theorem dX12_init_70 : decode cX12_init 70 = .ok (.new 40, 3) := by decide +kernel
theorem dX12_init_73 : decode cX12_init 73 = .ok (.dup, 1) := by decide +kernel
theorem dX12_init_74 : decode cX12_init 74 = .ok (.aload_n 0, 1) := by decide +kernel
theorem dX12_init_75 : decode cX12_init 75 = .ok (.getfield 27, 3) := by decide +kernel
theorem dX12_init_78 : decode cX12_init 78 = .ok (.aload_n 0, 1) := by decide +kernel
theorem dX12_init_79 : decode cX12_init 79 = .ok (.getfield 36, 3) := by decide +kernel
theorem dX12_init_82 : decode cX12_init 82 = .ok (.invokespecial 42, 3) := by decide +kernel
theorem dX12_init_85 : decode cX12_init 85 = .ok (.putfield 45, 3) := by decide +kernel
theorem dX12_init_88 : decode cX12_init 88 = .ok (.new 49, 3) := by decide +kernel
theorem dX12_init_91 : decode cX12_init 91 = .ok (.dup, 1) := by decide +kernel
theorem dX12_init_92 : decode cX12_init 92 = .ok (.aload_n 0, 1) := by decide +kernel
theorem dX12_init_93 : decode cX12_init 93 = .ok (.getfield 27, 3) := by decide +kernel
theorem dX12_init_96 : decode cX12_init 96 = .ok (.aload_n 0, 1) := by decide +kernel
theorem dX12_init_97 : decode cX12_init 97 = .ok (.getfield 36, 3) := by decide +kernel
theorem dX12_init_100 : decode cX12_init 100 = .ok (.aload_n 0, 1) := by decide +kernel
theorem dX12_init_101 : decode cX12_init 101 = .ok (.getfield 45, 3) := by decide +kernel
theorem dX12_init_104 : decode cX12_init 104 = .ok (.invokespecial 51, 3) := by decide +kernel
theorem dX12_init_107 : decode cX12_init 107 = .ok (.astore_n 1, 1) := by decide +kernel
theorem dX12_init_108 : decode cX12_init 108 = .ok (.aload_n 0, 1) := by decide +kernel
theorem dX12_init_109 : decode cX12_init 109 = .ok (.getfield 45, 3) := by decide +kernel
theorem dX12_init_112 : decode cX12_init 112 = .ok (.aload_n 1, 1) := by decide +kernel
theorem dX12_init_113 : decode cX12_init 113 = .ok (.putfield 54, 3) := by decide +kernel
theorem dX12_init_116 : decode cX12_init 116 = .ok (.aload_n 0, 1) := by decide +kernel
theorem dX12_init_117 : decode cX12_init 117 = .ok (.getfield 45, 3) := by decide +kernel
theorem dX12_init_120 : decode cX12_init 120 = .ok (.new 58, 3) := by decide +kernel
theorem dX12_init_123 : decode cX12_init 123 = .ok (.dup, 1) := by decide +kernel
theorem dX12_init_124 : decode cX12_init 124 = .ok (.aload_n 0, 1) := by decide +kernel
theorem dX12_init_125 : decode cX12_init 125 = .ok (.getfield 27, 3) := by decide +kernel
theorem dX12_init_128 : decode cX12_init 128 = .ok (.aload_n 0, 1) := by decide +kernel
theorem dX12_init_129 : decode cX12_init 129 = .ok (.getfield 45, 3) := by decide +kernel
theorem dX12_init_132 : decode cX12_init 132 = .ok (.aload_n 1, 1) := by decide +kernel
theorem dX12_init_133 : decode cX12_init 133 = .ok (.invokespecial 60, 3) := by decide +kernel
theorem dX12_init_136 : decode cX12_init 136 = .ok (.putfield 63, 3) := by decide +kernel
theorem dX12_init_139 : decode cX12_init 139 = .ok (.return_, 1) := by decide +kernel
theorem dX12_feed_0 : decode cX12_feed 0 = .ok (.aload_n 0, 1) := by decide +kernel
theorem dX12_feed_1 : decode cX12_feed 1 = .ok (.getfield 12, 3) := by decide +kernel
theorem dX12_feed_4 : decode cX12_feed 4 = .ok (.getfield 67, 3) := by decide +kernel
theorem dX12_feed_7 : decode cX12_feed 7 = .ok (.bipush 20, 2) := by decide +kernel
theorem dX12_feed_9 : decode cX12_feed 9 = .ok (.iadd, 1) := by decide +kernel
theorem dX12_feed_10 : decode cX12_feed 10 = .ok (.sipush 16384, 3) := by decide +kernel
theorem dX12_feed_13 : decode cX12_feed 13 = .ok (.if_icmp .le 5, 3) := by decide +kernel
theorem dX12_feed_18 : decode cX12_feed 18 = .ok (.aload_n 0, 1) := by decide +kernel
theorem dX12_feed_19 : decode cX12_feed 19 = .ok (.iload_n 1, 1) := by decide +kernel
theorem dX12_feed_20 : decode cX12_feed 20 = .ok (.invokevirtual 71, 3) := by decide +kernel
theorem dX12_feed_23 : decode cX12_feed 23 = .ok (.aload_n 0, 1) := by decide +kernel
theorem dX12_feed_24 : decode cX12_feed 24 = .ok (.iload_n 2, 1) := by decide +kernel
theorem dX12_feed_25 : decode cX12_feed 25 = .ok (.invokevirtual 71, 3) := by decide +kernel
theorem dX12_feed_28 : decode cX12_feed 28 = .ok (.aload_n 0, 1) := by decide +kernel
theorem dX12_feed_29 : decode cX12_feed 29 = .ok (.iload_n 3, 1) := by decide +kernel
theorem dX12_feed_30 : decode cX12_feed 30 = .ok (.invokevirtual 71, 3) := by decide +kernel
theorem dX12_feed_33 : decode cX12_feed 33 = .ok (.aload_n 0, 1) := by decide +kernel
theorem dX12_feed_34 : decode cX12_feed 34 = .ok (.iload 4, 2) := by decide +kernel
theorem dX12_feed_36 : decode cX12_feed 36 = .ok (.invokevirtual 71, 3) := by decide +kernel
theorem dX12_feed_39 : decode cX12_feed 39 = .ok (.aload_n 0, 1) := by decide +kernel
theorem dX12_feed_40 : decode cX12_feed 40 = .ok (.iload 5, 2) := by decide +kernel
theorem dX12_feed_42 : decode cX12_feed 42 = .ok (.invokevirtual 71, 3) := by decide +kernel
theorem dX12_feed_45 : decode cX12_feed 45 = .ok (.aload_n 0, 1) := by decide +kernel
theorem dX12_feed_46 : decode cX12_feed 46 = .ok (.getfield 12, 3) := by decide +kernel
theorem dX12_feed_49 : decode cX12_feed 49 = .ok (.getfield 67, 3) := by decide +kernel
theorem dX12_feed_52 : decode cX12_feed 52 = .ok (.ireturn, 1) := by decide +kernel
theorem dX12_feedFour_0 : decode cX12_feedFour 0 = .ok (.aload_n 0, 1) := by decide +kernel
theorem dX12_feedFour_1 : decode cX12_feedFour 1 = .ok (.getfield 12, 3) := by decide +kernel
theorem dX12_feedFour_4 : decode cX12_feedFour 4 = .ok (.iload_n 1, 1) := by decide +kernel
theorem dX12_feedFour_5 : decode cX12_feedFour 5 = .ok (.bipush 24, 2) := by decide +kernel
theorem dX12_feedFour_7 : decode cX12_feedFour 7 = .ok (.iushr, 1) := by decide +kernel
theorem dX12_feedFour_8 : decode cX12_feedFour 8 = .ok (.invokevirtual 74, 3) := by decide +kernel
theorem dX12_feedFour_11 : decode cX12_feedFour 11 = .ok (.aload_n 0, 1) := by decide +kernel
theorem dX12_feedFour_12 : decode cX12_feedFour 12 = .ok (.getfield 12, 3) := by decide +kernel
theorem dX12_feedFour_15 : decode cX12_feedFour 15 = .ok (.iload_n 1, 1) := by decide +kernel
theorem dX12_feedFour_16 : decode cX12_feedFour 16 = .ok (.bipush 16, 2) := by decide +kernel
theorem dX12_feedFour_18 : decode cX12_feedFour 18 = .ok (.iushr, 1) := by decide +kernel
theorem dX12_feedFour_19 : decode cX12_feedFour 19 = .ok (.sipush 255, 3) := by decide +kernel
theorem dX12_feedFour_22 : decode cX12_feedFour 22 = .ok (.iand, 1) := by decide +kernel
theorem dX12_feedFour_23 : decode cX12_feedFour 23 = .ok (.invokevirtual 74, 3) := by decide +kernel
theorem dX12_feedFour_26 : decode cX12_feedFour 26 = .ok (.aload_n 0, 1) := by decide +kernel
theorem dX12_feedFour_27 : decode cX12_feedFour 27 = .ok (.getfield 12, 3) := by decide +kernel
theorem dX12_feedFour_30 : decode cX12_feedFour 30 = .ok (.iload_n 1, 1) := by decide +kernel
theorem dX12_feedFour_31 : decode cX12_feedFour 31 = .ok (.bipush 8, 2) := by decide +kernel
theorem dX12_feedFour_33 : decode cX12_feedFour 33 = .ok (.iushr, 1) := by decide +kernel
theorem dX12_feedFour_34 : decode cX12_feedFour 34 = .ok (.sipush 255, 3) := by decide +kernel
theorem dX12_feedFour_37 : decode cX12_feedFour 37 = .ok (.iand, 1) := by decide +kernel
theorem dX12_feedFour_38 : decode cX12_feedFour 38 = .ok (.invokevirtual 74, 3) := by decide +kernel
theorem dX12_feedFour_41 : decode cX12_feedFour 41 = .ok (.aload_n 0, 1) := by decide +kernel
theorem dX12_feedFour_42 : decode cX12_feedFour 42 = .ok (.getfield 12, 3) := by decide +kernel
theorem dX12_feedFour_45 : decode cX12_feedFour 45 = .ok (.iload_n 1, 1) := by decide +kernel
theorem dX12_feedFour_46 : decode cX12_feedFour 46 = .ok (.sipush 255, 3) := by decide +kernel
theorem dX12_feedFour_49 : decode cX12_feedFour 49 = .ok (.iand, 1) := by decide +kernel
theorem dX12_feedFour_50 : decode cX12_feedFour 50 = .ok (.invokevirtual 74, 3) := by decide +kernel
theorem dX12_feedFour_53 : decode cX12_feedFour 53 = .ok (.return_, 1) := by decide +kernel
theorem dX12_read_0 : decode cX12_read 0 = .ok (.aload_n 0, 1) := by decide +kernel
theorem dX12_read_1 : decode cX12_read 1 = .ok (.iload_n 1, 1) := by decide +kernel
theorem dX12_read_2 : decode cX12_read 2 = .ok (.iconst 0, 1) := by decide +kernel
theorem dX12_read_3 : decode cX12_read 3 = .ok (.invokevirtual 77, 3) := by decide +kernel
theorem dX12_read_6 : decode cX12_read 6 = .ok (.ifCond .ne 13, 3) := by decide +kernel
theorem dX12_read_19 : decode cX12_read 19 = .ok (.aload_n 0, 1) := by decide +kernel
theorem dX12_read_20 : decode cX12_read 20 = .ok (.getfield 12, 3) := by decide +kernel
theorem dX12_read_23 : decode cX12_read 23 = .ok (.iconst 0, 1) := by decide +kernel
theorem dX12_read_24 : decode cX12_read 24 = .ok (.iload_n 1, 1) := by decide +kernel
theorem dX12_read_25 : decode cX12_read 25 = .ok (.invokevirtual 88, 3) := by decide +kernel
theorem dX12_read_28 : decode cX12_read 28 = .ok (.astore_n 2, 1) := by decide +kernel
theorem dX12_read_29 : decode cX12_read 29 = .ok (.aload_n 0, 1) := by decide +kernel
theorem dX12_read_30 : decode cX12_read 30 = .ok (.getfield 12, 3) := by decide +kernel
theorem dX12_read_33 : decode cX12_read 33 = .ok (.iconst 0, 1) := by decide +kernel
theorem dX12_read_34 : decode cX12_read 34 = .ok (.putfield 67, 3) := by decide +kernel
theorem dX12_read_37 : decode cX12_read 37 = .ok (.aload_n 0, 1) := by decide +kernel
theorem dX12_read_38 : decode cX12_read 38 = .ok (.aconst_null, 1) := by decide +kernel
theorem dX12_read_39 : decode cX12_read 39 = .ok (.putfield 92, 3) := by decide +kernel
theorem dX12_read_42 : decode cX12_read 42 = .ok (.aload_n 0, 1) := by decide +kernel
theorem dX12_read_43 : decode cX12_read 43 = .ok (.iconst 0, 1) := by decide +kernel
theorem dX12_read_44 : decode cX12_read 44 = .ok (.putfield 96, 3) := by decide +kernel
theorem dX12_read_47 : decode cX12_read 47 = .ok (.aload_n 0, 1) := by decide +kernel
theorem dX12_read_48 : decode cX12_read 48 = .ok (.getfield 36, 3) := by decide +kernel
theorem dX12_read_51 : decode cX12_read 51 = .ok (.aload_n 2, 1) := by decide +kernel
theorem dX12_read_52 : decode cX12_read 52 = .ok (.invokevirtual 100, 3) := by decide +kernel
theorem dX12_read_55 : decode cX12_read 55 = .ok (.ifCond .ne 22, 3) := by decide +kernel
theorem dX12_read_77 : decode cX12_read 77 = .ok (.aload_n 0, 1) := by decide +kernel
theorem dX12_read_78 : decode cX12_read 78 = .ok (.aload_n 0, 1) := by decide +kernel
theorem dX12_read_79 : decode cX12_read 79 = .ok (.getfield 36, 3) := by decide +kernel
theorem dX12_read_82 : decode cX12_read 82 = .ok (.getfield 110, 3) := by decide +kernel
theorem dX12_read_85 : decode cX12_read 85 = .ok (.putfield 92, 3) := by decide +kernel
theorem dX12_read_88 : decode cX12_read 88 = .ok (.aload_n 0, 1) := by decide +kernel
theorem dX12_read_89 : decode cX12_read 89 = .ok (.aload_n 0, 1) := by decide +kernel
theorem dX12_read_90 : decode cX12_read 90 = .ok (.getfield 36, 3) := by decide +kernel
theorem dX12_read_93 : decode cX12_read 93 = .ok (.getfield 111, 3) := by decide +kernel
theorem dX12_read_96 : decode cX12_read 96 = .ok (.putfield 114, 3) := by decide +kernel
theorem dX12_read_99 : decode cX12_read 99 = .ok (.iconst 0, 1) := by decide +kernel
theorem dX12_read_100 : decode cX12_read 100 = .ok (.ireturn, 1) := by decide +kernel
theorem dX12_put_0 : decode cX12_put 0 = .ok (.iload_n 1, 1) := by decide +kernel
theorem dX12_put_1 : decode cX12_put 1 = .ok (.ifCond .lt 17, 3) := by decide +kernel
theorem dX12_put_4 : decode cX12_put 4 = .ok (.iload_n 1, 1) := by decide +kernel
theorem dX12_put_5 : decode cX12_put 5 = .ok (.iconst 3, 1) := by decide +kernel
theorem dX12_put_6 : decode cX12_put 6 = .ok (.if_icmp .gt 12, 3) := by decide +kernel
theorem dX12_put_9 : decode cX12_put 9 = .ok (.aload_n 0, 1) := by decide +kernel
theorem dX12_put_10 : decode cX12_put 10 = .ok (.iload_n 2, 1) := by decide +kernel
theorem dX12_put_11 : decode cX12_put 11 = .ok (.iload_n 3, 1) := by decide +kernel
theorem dX12_put_12 : decode cX12_put 12 = .ok (.invokevirtual 77, 3) := by decide +kernel
theorem dX12_put_15 : decode cX12_put 15 = .ok (.ifCond .ne 13, 3) := by decide +kernel
theorem dX12_put_28 : decode cX12_put 28 = .ok (.aload_n 0, 1) := by decide +kernel
theorem dX12_put_29 : decode cX12_put 29 = .ok (.getfield 12, 3) := by decide +kernel
theorem dX12_put_32 : decode cX12_put 32 = .ok (.iconst 0, 1) := by decide +kernel
theorem dX12_put_33 : decode cX12_put 33 = .ok (.iload_n 2, 1) := by decide +kernel
theorem dX12_put_34 : decode cX12_put 34 = .ok (.invokevirtual 88, 3) := by decide +kernel
theorem dX12_put_37 : decode cX12_put 37 = .ok (.astore 4, 2) := by decide +kernel
theorem dX12_put_39 : decode cX12_put 39 = .ok (.aload_n 0, 1) := by decide +kernel
theorem dX12_put_40 : decode cX12_put 40 = .ok (.getfield 12, 3) := by decide +kernel
theorem dX12_put_43 : decode cX12_put 43 = .ok (.iload_n 2, 1) := by decide +kernel
theorem dX12_put_44 : decode cX12_put 44 = .ok (.iload_n 2, 1) := by decide +kernel
theorem dX12_put_45 : decode cX12_put 45 = .ok (.iload_n 3, 1) := by decide +kernel
theorem dX12_put_46 : decode cX12_put 46 = .ok (.iadd, 1) := by decide +kernel
theorem dX12_put_47 : decode cX12_put 47 = .ok (.invokevirtual 88, 3) := by decide +kernel
theorem dX12_put_50 : decode cX12_put 50 = .ok (.astore 5, 2) := by decide +kernel
theorem dX12_put_52 : decode cX12_put 52 = .ok (.aload_n 0, 1) := by decide +kernel
theorem dX12_put_53 : decode cX12_put 53 = .ok (.getfield 12, 3) := by decide +kernel
theorem dX12_put_56 : decode cX12_put 56 = .ok (.iconst 0, 1) := by decide +kernel
theorem dX12_put_57 : decode cX12_put 57 = .ok (.putfield 67, 3) := by decide +kernel
theorem dX12_put_60 : decode cX12_put 60 = .ok (.iload_n 1, 1) := by decide +kernel
theorem dX12_put_61 : decode cX12_put 61 = .ok (.ifCond .ne 38, 3) := by decide +kernel
theorem dX12_put_99 : decode cX12_put 99 = .ok (.iload_n 1, 1) := by decide +kernel
theorem dX12_put_100 : decode cX12_put 100 = .ok (.iconst 2, 1) := by decide +kernel
theorem dX12_put_101 : decode cX12_put 101 = .ok (.if_icmp .ne 12, 3) := by decide +kernel
theorem dX12_put_104 : decode cX12_put 104 = .ok (.aload_n 0, 1) := by decide +kernel
theorem dX12_put_105 : decode cX12_put 105 = .ok (.aload 4, 2) := by decide +kernel
theorem dX12_put_107 : decode cX12_put 107 = .ok (.aload 5, 2) := by decide +kernel
theorem dX12_put_109 : decode cX12_put 109 = .ok (.invokevirtual 177, 3) := by decide +kernel
theorem dX12_put_112 : decode cX12_put 112 = .ok (.ireturn, 1) := by decide +kernel
theorem dX12_putAlias_0 : decode cX12_putAlias 0 = .ok (.aload_n 1, 1) := by decide +kernel
theorem dX12_putAlias_1 : decode cX12_putAlias 1 = .ok (.invokevirtual 166, 3) := by decide +kernel
theorem dX12_putAlias_4 : decode cX12_putAlias 4 = .ok (.ifCond .eq 10, 3) := by decide +kernel
theorem dX12_putAlias_7 : decode cX12_putAlias 7 = .ok (.aload_n 2, 1) := by decide +kernel
theorem dX12_putAlias_8 : decode cX12_putAlias 8 = .ok (.invokevirtual 197, 3) := by decide +kernel
theorem dX12_putAlias_11 : decode cX12_putAlias 11 = .ok (.ifCond .ne 5, 3) := by decide +kernel
theorem dX12_putAlias_16 : decode cX12_putAlias 16 = .ok (.aload_n 0, 1) := by decide +kernel
theorem dX12_putAlias_17 : decode cX12_putAlias 17 = .ok (.getfield 27, 3) := by decide +kernel
theorem dX12_putAlias_20 : decode cX12_putAlias 20 = .ok (.aload_n 1, 1) := by decide +kernel
theorem dX12_putAlias_21 : decode cX12_putAlias 21 = .ok (.invokevirtual 169, 3) := by decide +kernel
theorem dX12_putAlias_24 : decode cX12_putAlias 24 = .ok (.aload_n 2, 1) := by decide +kernel
theorem dX12_putAlias_25 : decode cX12_putAlias 25 = .ok (.putfield 200, 3) := by decide +kernel
theorem dX12_putAlias_28 : decode cX12_putAlias 28 = .ok (.iconst 1, 1) := by decide +kernel
theorem dX12_putAlias_29 : decode cX12_putAlias 29 = .ok (.ireturn, 1) := by decide +kernel
theorem dX12_holds_0 : decode cX12_holds 0 = .ok (.iload_n 1, 1) := by decide +kernel
theorem dX12_holds_1 : decode cX12_holds 1 = .ok (.ifCond .lt 31, 3) := by decide +kernel
theorem dX12_holds_4 : decode cX12_holds 4 = .ok (.iload_n 2, 1) := by decide +kernel
theorem dX12_holds_5 : decode cX12_holds 5 = .ok (.ifCond .lt 27, 3) := by decide +kernel
theorem dX12_holds_8 : decode cX12_holds 8 = .ok (.iload_n 1, 1) := by decide +kernel
theorem dX12_holds_9 : decode cX12_holds 9 = .ok (.aload_n 0, 1) := by decide +kernel
theorem dX12_holds_10 : decode cX12_holds 10 = .ok (.getfield 12, 3) := by decide +kernel
theorem dX12_holds_13 : decode cX12_holds 13 = .ok (.getfield 67, 3) := by decide +kernel
theorem dX12_holds_16 : decode cX12_holds 16 = .ok (.if_icmp .gt 16, 3) := by decide +kernel
theorem dX12_holds_19 : decode cX12_holds 19 = .ok (.iload_n 2, 1) := by decide +kernel
theorem dX12_holds_20 : decode cX12_holds 20 = .ok (.aload_n 0, 1) := by decide +kernel
theorem dX12_holds_21 : decode cX12_holds 21 = .ok (.getfield 12, 3) := by decide +kernel
theorem dX12_holds_24 : decode cX12_holds 24 = .ok (.getfield 67, 3) := by decide +kernel
theorem dX12_holds_27 : decode cX12_holds 27 = .ok (.iload_n 1, 1) := by decide +kernel
theorem dX12_holds_28 : decode cX12_holds 28 = .ok (.isub, 1) := by decide +kernel
theorem dX12_holds_29 : decode cX12_holds 29 = .ok (.if_icmp .le 5, 3) := by decide +kernel
theorem dX12_holds_34 : decode cX12_holds 34 = .ok (.iconst 0, 1) := by decide +kernel
theorem dX12_holds_35 : decode cX12_holds 35 = .ok (.istore_n 3, 1) := by decide +kernel
theorem dX12_holds_36 : decode cX12_holds 36 = .ok (.iload_n 3, 1) := by decide +kernel
theorem dX12_holds_37 : decode cX12_holds 37 = .ok (.iload_n 1, 1) := by decide +kernel
theorem dX12_holds_38 : decode cX12_holds 38 = .ok (.iload_n 2, 1) := by decide +kernel
theorem dX12_holds_39 : decode cX12_holds 39 = .ok (.iadd, 1) := by decide +kernel
theorem dX12_holds_40 : decode cX12_holds 40 = .ok (.if_icmp .ge 25, 3) := by decide +kernel
theorem dX12_holds_43 : decode cX12_holds 43 = .ok (.aload_n 0, 1) := by decide +kernel
theorem dX12_holds_44 : decode cX12_holds 44 = .ok (.getfield 12, 3) := by decide +kernel
theorem dX12_holds_47 : decode cX12_holds 47 = .ok (.iload_n 3, 1) := by decide +kernel
theorem dX12_holds_48 : decode cX12_holds 48 = .ok (.invokevirtual 181, 3) := by decide +kernel
theorem dX12_holds_51 : decode cX12_holds 51 = .ok (.invokestatic 281, 3) := by decide +kernel
theorem dX12_holds_54 : decode cX12_holds 54 = .ok (.ifCond .ne 5, 3) := by decide +kernel
theorem dX12_holds_59 : decode cX12_holds 59 = .ok (.iinc 3 1, 3) := by decide +kernel
theorem dX12_holds_62 : decode cX12_holds 62 = .ok (.goto (-26), 3) := by decide +kernel
theorem dX12_holds_65 : decode cX12_holds 65 = .ok (.iconst 1, 1) := by decide +kernel
theorem dX12_holds_66 : decode cX12_holds 66 = .ok (.ireturn, 1) := by decide +kernel
theorem dX12_isTextSign_0 : decode cX12_isTextSign 0 = .ok (.iload_n 0, 1) := by decide +kernel
theorem dX12_isTextSign_1 : decode cX12_isTextSign 1 = .ok (.bipush 9, 2) := by decide +kernel
theorem dX12_isTextSign_3 : decode cX12_isTextSign 3 = .ok (.if_icmp .eq 21, 3) := by decide +kernel
theorem dX12_isTextSign_6 : decode cX12_isTextSign 6 = .ok (.iload_n 0, 1) := by decide +kernel
theorem dX12_isTextSign_7 : decode cX12_isTextSign 7 = .ok (.bipush 10, 2) := by decide +kernel
theorem dX12_isTextSign_9 : decode cX12_isTextSign 9 = .ok (.if_icmp .eq 15, 3) := by decide +kernel
theorem dX12_isTextSign_12 : decode cX12_isTextSign 12 = .ok (.iload_n 0, 1) := by decide +kernel
theorem dX12_isTextSign_13 : decode cX12_isTextSign 13 = .ok (.bipush 32, 2) := by decide +kernel
theorem dX12_isTextSign_15 : decode cX12_isTextSign 15 = .ok (.if_icmp .lt 13, 3) := by decide +kernel
theorem dX12_isTextSign_18 : decode cX12_isTextSign 18 = .ok (.iload_n 0, 1) := by decide +kernel
theorem dX12_isTextSign_19 : decode cX12_isTextSign 19 = .ok (.bipush 126, 2) := by decide +kernel
theorem dX12_isTextSign_21 : decode cX12_isTextSign 21 = .ok (.if_icmp .gt 7, 3) := by decide +kernel
theorem dX12_isTextSign_24 : decode cX12_isTextSign 24 = .ok (.iconst 1, 1) := by decide +kernel
theorem dX12_isTextSign_25 : decode cX12_isTextSign 25 = .ok (.goto 4, 3) := by decide +kernel
theorem dX12_isTextSign_29 : decode cX12_isTextSign 29 = .ok (.ireturn, 1) := by decide +kernel
theorem dX12_isDigit_0 : decode cX12_isDigit 0 = .ok (.iload_n 0, 1) := by decide +kernel
theorem dX12_isDigit_1 : decode cX12_isDigit 1 = .ok (.bipush 48, 2) := by decide +kernel
theorem dX12_isDigit_3 : decode cX12_isDigit 3 = .ok (.if_icmp .lt 13, 3) := by decide +kernel
theorem dX12_isDigit_6 : decode cX12_isDigit 6 = .ok (.iload_n 0, 1) := by decide +kernel
theorem dX12_isDigit_7 : decode cX12_isDigit 7 = .ok (.bipush 57, 2) := by decide +kernel
theorem dX12_isDigit_9 : decode cX12_isDigit 9 = .ok (.if_icmp .gt 7, 3) := by decide +kernel
theorem dX12_isDigit_16 : decode cX12_isDigit 16 = .ok (.iconst 0, 1) := by decide +kernel
theorem dX12_isDigit_17 : decode cX12_isDigit 17 = .ok (.ireturn, 1) := by decide +kernel
theorem dX12_beginsName_0 : decode cX12_beginsName 0 = .ok (.iload_n 0, 1) := by decide +kernel
theorem dX12_beginsName_1 : decode cX12_beginsName 1 = .ok (.bipush 97, 2) := by decide +kernel
theorem dX12_beginsName_3 : decode cX12_beginsName 3 = .ok (.if_icmp .lt 9, 3) := by decide +kernel
theorem dX12_beginsName_6 : decode cX12_beginsName 6 = .ok (.iload_n 0, 1) := by decide +kernel
theorem dX12_beginsName_7 : decode cX12_beginsName 7 = .ok (.bipush 122, 2) := by decide +kernel
theorem dX12_beginsName_9 : decode cX12_beginsName 9 = .ok (.if_icmp .le 21, 3) := by decide +kernel
theorem dX12_beginsName_30 : decode cX12_beginsName 30 = .ok (.iconst 1, 1) := by decide +kernel
theorem dX12_beginsName_31 : decode cX12_beginsName 31 = .ok (.goto 4, 3) := by decide +kernel
theorem dX12_beginsName_35 : decode cX12_beginsName 35 = .ok (.ireturn, 1) := by decide +kernel
theorem dX14_init_0 : decode cX14_init 0 = .ok (.aload_n 0, 1) := by decide +kernel
theorem dX14_init_1 : decode cX14_init 1 = .ok (.invokespecial 1, 3) := by decide +kernel
theorem dX14_init_4 : decode cX14_init 4 = .ok (.aload_n 0, 1) := by decide +kernel
theorem dX14_init_5 : decode cX14_init 5 = .ok (.bipush 16, 2) := by decide +kernel
theorem dX14_init_7 : decode cX14_init 7 = .ok (.newarray .byte, 2) := by decide +kernel
theorem dX14_init_9 : decode cX14_init 9 = .ok (.putfield 7, 3) := by decide +kernel
theorem dX14_init_12 : decode cX14_init 12 = .ok (.return_, 1) := by decide +kernel
theorem dX14_add_0 : decode cX14_add 0 = .ok (.aload_n 0, 1) := by decide +kernel
theorem dX14_add_1 : decode cX14_add 1 = .ok (.getfield 13, 3) := by decide +kernel
theorem dX14_add_4 : decode cX14_add 4 = .ok (.aload_n 0, 1) := by decide +kernel
theorem dX14_add_5 : decode cX14_add 5 = .ok (.getfield 7, 3) := by decide +kernel
theorem dX14_add_8 : decode cX14_add 8 = .ok (.arraylength, 1) := by decide +kernel
theorem dX14_add_9 : decode cX14_add 9 = .ok (.if_icmp .ne 42, 3) := by decide +kernel
theorem dX14_add_12 : decode cX14_add 12 = .ok (.iconst 2, 1) := by decide +kernel
theorem dX14_add_13 : decode cX14_add 13 = .ok (.aload_n 0, 1) := by decide +kernel
theorem dX14_add_14 : decode cX14_add 14 = .ok (.getfield 13, 3) := by decide +kernel
theorem dX14_add_17 : decode cX14_add 17 = .ok (.imul, 1) := by decide +kernel
theorem dX14_add_18 : decode cX14_add 18 = .ok (.newarray .byte, 2) := by decide +kernel
theorem dX14_add_20 : decode cX14_add 20 = .ok (.astore_n 2, 1) := by decide +kernel
theorem dX14_add_21 : decode cX14_add 21 = .ok (.iconst 0, 1) := by decide +kernel
theorem dX14_add_22 : decode cX14_add 22 = .ok (.istore_n 3, 1) := by decide +kernel
theorem dX14_add_23 : decode cX14_add 23 = .ok (.iload_n 3, 1) := by decide +kernel
theorem dX14_add_24 : decode cX14_add 24 = .ok (.aload_n 0, 1) := by decide +kernel
theorem dX14_add_25 : decode cX14_add 25 = .ok (.getfield 13, 3) := by decide +kernel
theorem dX14_add_28 : decode cX14_add 28 = .ok (.if_icmp .ge 18, 3) := by decide +kernel
theorem dX14_add_31 : decode cX14_add 31 = .ok (.aload_n 2, 1) := by decide +kernel
theorem dX14_add_32 : decode cX14_add 32 = .ok (.iload_n 3, 1) := by decide +kernel
theorem dX14_add_33 : decode cX14_add 33 = .ok (.aload_n 0, 1) := by decide +kernel
theorem dX14_add_34 : decode cX14_add 34 = .ok (.getfield 7, 3) := by decide +kernel
theorem dX14_add_37 : decode cX14_add 37 = .ok (.iload_n 3, 1) := by decide +kernel
theorem dX14_add_38 : decode cX14_add 38 = .ok (.baload, 1) := by decide +kernel
theorem dX14_add_39 : decode cX14_add 39 = .ok (.bastore, 1) := by decide +kernel
theorem dX14_add_40 : decode cX14_add 40 = .ok (.iinc 3 1, 3) := by decide +kernel
theorem dX14_add_43 : decode cX14_add 43 = .ok (.goto (-20), 3) := by decide +kernel
theorem dX14_add_46 : decode cX14_add 46 = .ok (.aload_n 0, 1) := by decide +kernel
theorem dX14_add_47 : decode cX14_add 47 = .ok (.aload_n 2, 1) := by decide +kernel
theorem dX14_add_48 : decode cX14_add 48 = .ok (.putfield 7, 3) := by decide +kernel
theorem dX14_add_51 : decode cX14_add 51 = .ok (.aload_n 0, 1) := by decide +kernel
theorem dX14_add_52 : decode cX14_add 52 = .ok (.getfield 7, 3) := by decide +kernel
theorem dX14_add_55 : decode cX14_add 55 = .ok (.aload_n 0, 1) := by decide +kernel
theorem dX14_add_56 : decode cX14_add 56 = .ok (.getfield 13, 3) := by decide +kernel
theorem dX14_add_59 : decode cX14_add 59 = .ok (.iload_n 1, 1) := by decide +kernel
theorem dX14_add_60 : decode cX14_add 60 = .ok (.i2b, 1) := by decide +kernel
theorem dX14_add_61 : decode cX14_add 61 = .ok (.bastore, 1) := by decide +kernel
theorem dX14_add_62 : decode cX14_add 62 = .ok (.aload_n 0, 1) := by decide +kernel
theorem dX14_add_63 : decode cX14_add 63 = .ok (.dup, 1) := by decide +kernel
theorem dX14_add_64 : decode cX14_add 64 = .ok (.getfield 13, 3) := by decide +kernel
theorem dX14_add_67 : decode cX14_add 67 = .ok (.iconst 1, 1) := by decide +kernel
theorem dX14_add_68 : decode cX14_add 68 = .ok (.iadd, 1) := by decide +kernel
theorem dX14_add_69 : decode cX14_add 69 = .ok (.putfield 13, 3) := by decide +kernel
theorem dX14_add_72 : decode cX14_add 72 = .ok (.return_, 1) := by decide +kernel
theorem dX18_init_0 : decode cX18_init 0 = .ok (.aload_n 0, 1) := by decide +kernel
theorem dX18_init_1 : decode cX18_init 1 = .ok (.invokespecial 1, 3) := by decide +kernel
theorem dX18_init_4 : decode cX18_init 4 = .ok (.return_, 1) := by decide +kernel
theorem dX19_init_0 : decode cX19_init 0 = .ok (.aload_n 0, 1) := by decide +kernel
theorem dX19_init_1 : decode cX19_init 1 = .ok (.invokespecial 1, 3) := by decide +kernel
theorem dX19_init_4 : decode cX19_init 4 = .ok (.aload_n 0, 1) := by decide +kernel
theorem dX19_init_5 : decode cX19_init 5 = .ok (.iconst 1, 1) := by decide +kernel
theorem dX19_init_6 : decode cX19_init 6 = .ok (.putfield 7, 3) := by decide +kernel
theorem dX19_init_9 : decode cX19_init 9 = .ok (.return_, 1) := by decide +kernel
theorem dX21_init_0 : decode cX21_init 0 = .ok (.aload_n 0, 1) := by decide +kernel
theorem dX21_init_1 : decode cX21_init 1 = .ok (.invokespecial 1, 3) := by decide +kernel
theorem dX21_init_4 : decode cX21_init 4 = .ok (.aload_n 0, 1) := by decide +kernel
theorem dX21_init_5 : decode cX21_init 5 = .ok (.aload_n 1, 1) := by decide +kernel
theorem dX21_init_6 : decode cX21_init 6 = .ok (.putfield 7, 3) := by decide +kernel
theorem dX21_init_9 : decode cX21_init 9 = .ok (.aload_n 0, 1) := by decide +kernel
theorem dX21_init_10 : decode cX21_init 10 = .ok (.iload_n 2, 1) := by decide +kernel
theorem dX21_init_11 : decode cX21_init 11 = .ok (.putfield 13, 3) := by decide +kernel
theorem dX21_init_14 : decode cX21_init 14 = .ok (.aload_n 0, 1) := by decide +kernel
theorem dX21_init_15 : decode cX21_init 15 = .ok (.iload_n 2, 1) := by decide +kernel
theorem dX21_init_16 : decode cX21_init 16 = .ok (.ifCond .eq 7, 3) := by decide +kernel
theorem dX21_init_19 : decode cX21_init 19 = .ok (.aconst_null, 1) := by decide +kernel
theorem dX21_init_20 : decode cX21_init 20 = .ok (.goto 10, 3) := by decide +kernel
theorem dX21_init_30 : decode cX21_init 30 = .ok (.putfield 20, 3) := by decide +kernel
theorem dX21_init_33 : decode cX21_init 33 = .ok (.return_, 1) := by decide +kernel
theorem dX22_init_0 : decode cX22_init 0 = .ok (.aload_n 0, 1) := by decide +kernel
theorem dX22_init_1 : decode cX22_init 1 = .ok (.invokespecial 1, 3) := by decide +kernel
theorem dX22_init_4 : decode cX22_init 4 = .ok (.return_, 1) := by decide +kernel
theorem dX23_init_0 : decode cX23_init 0 = .ok (.aload_n 0, 1) := by decide +kernel
theorem dX23_init_1 : decode cX23_init 1 = .ok (.invokespecial 1, 3) := by decide +kernel
theorem dX23_init_4 : decode cX23_init 4 = .ok (.return_, 1) := by decide +kernel
theorem dX25_init_0 : decode cX25_init 0 = .ok (.aload_n 0, 1) := by decide +kernel
theorem dX25_init_1 : decode cX25_init 1 = .ok (.invokespecial 3, 3) := by decide +kernel
theorem dX25_init_4 : decode cX25_init 4 = .ok (.aload_n 0, 1) := by decide +kernel
theorem dX25_init_5 : decode cX25_init 5 = .ok (.aload_n 1, 1) := by decide +kernel
theorem dX25_init_6 : decode cX25_init 6 = .ok (.putfield 9, 3) := by decide +kernel
theorem dX25_init_9 : decode cX25_init 9 = .ok (.aload_n 0, 1) := by decide +kernel
theorem dX25_init_10 : decode cX25_init 10 = .ok (.iload 4, 2) := by decide +kernel
theorem dX25_init_12 : decode cX25_init 12 = .ok (.putfield 15, 3) := by decide +kernel
theorem dX25_init_15 : decode cX25_init 15 = .ok (.aload_n 0, 1) := by decide +kernel
theorem dX25_init_16 : decode cX25_init 16 = .ok (.iload 5, 2) := by decide +kernel
theorem dX25_init_18 : decode cX25_init 18 = .ok (.putfield 19, 3) := by decide +kernel
theorem dX25_init_21 : decode cX25_init 21 = .ok (.aload_n 0, 1) := by decide +kernel
theorem dX25_init_22 : decode cX25_init 22 = .ok (.new 22, 3) := by decide +kernel
theorem dX25_init_25 : decode cX25_init 25 = .ok (.dup, 1) := by decide +kernel
theorem dX25_init_26 : decode cX25_init 26 = .ok (.invokespecial 24, 3) := by decide +kernel
theorem dX25_init_29 : decode cX25_init 29 = .ok (.putfield 25, 3) := by decide +kernel
theorem dX25_init_32 : decode cX25_init 32 = .ok (.aload_n 0, 1) := by decide +kernel
theorem dX25_init_33 : decode cX25_init 33 = .ok (.getfield 25, 3) := by decide +kernel
theorem dX25_init_36 : decode cX25_init 36 = .ok (.aload_n 2, 1) := by decide +kernel
theorem dX25_init_37 : decode cX25_init 37 = .ok (.putfield 29, 3) := by decide +kernel
theorem dX25_init_40 : decode cX25_init 40 = .ok (.aload_n 0, 1) := by decide +kernel
theorem dX25_init_41 : decode cX25_init 41 = .ok (.getfield 25, 3) := by decide +kernel
theorem dX25_init_44 : decode cX25_init 44 = .ok (.iload_n 3, 1) := by decide +kernel
theorem dX25_init_45 : decode cX25_init 45 = .ok (.putfield 33, 3) := by decide +kernel
theorem dX25_init_48 : decode cX25_init 48 = .ok (.aload_n 0, 1) := by decide +kernel
theorem dX25_init_49 : decode cX25_init 49 = .ok (.getfield 25, 3) := by decide +kernel
theorem dX25_init_52 : decode cX25_init 52 = .ok (.aload 6, 2) := by decide +kernel
theorem dX25_init_54 : decode cX25_init 54 = .ok (.putfield 36, 3) := by decide +kernel
theorem dX25_init_57 : decode cX25_init 57 = .ok (.aload_n 0, 1) := by decide +kernel
theorem dX25_init_58 : decode cX25_init 58 = .ok (.aload_n 0, 1) := by decide +kernel
theorem dX25_init_59 : decode cX25_init 59 = .ok (.getfield 25, 3) := by decide +kernel
theorem dX25_init_62 : decode cX25_init 62 = .ok (.putfield 39, 3) := by decide +kernel
theorem dX25_init_65 : decode cX25_init 65 = .ok (.return_, 1) := by decide +kernel
theorem dX25_line_0 : decode cX25_line 0 = .ok (.aload_n 0, 1) := by decide +kernel
theorem dX25_line_1 : decode cX25_line 1 = .ok (.getfield 25, 3) := by decide +kernel
theorem dX25_line_4 : decode cX25_line 4 = .ok (.getfield 42, 3) := by decide +kernel
theorem dX25_line_7 : decode cX25_line 7 = .ok (.ifnonnull 13, 3) := by decide +kernel
theorem dX25_line_10 : decode cX25_line 10 = .ok (.aload_n 0, 1) := by decide +kernel
theorem dX25_line_11 : decode cX25_line 11 = .ok (.getfield 25, 3) := by decide +kernel
theorem dX25_line_14 : decode cX25_line 14 = .ok (.getfield 46, 3) := by decide +kernel
theorem dX25_line_17 : decode cX25_line 17 = .ok (.goto 45, 3) := by decide +kernel
theorem dX25_line_62 : decode cX25_line 62 = .ok (.ireturn, 1) := by decide +kernel
theorem dX25_look_0 : decode cX25_look 0 = .ok (.aload_n 0, 1) := by decide +kernel
theorem dX25_look_1 : decode cX25_look 1 = .ok (.getfield 25, 3) := by decide +kernel
theorem dX25_look_4 : decode cX25_look 4 = .ok (.getfield 49, 3) := by decide +kernel
theorem dX25_look_7 : decode cX25_look 7 = .ok (.iconst 1, 1) := by decide +kernel
theorem dX25_look_8 : decode cX25_look 8 = .ok (.iadd, 1) := by decide +kernel
theorem dX25_look_9 : decode cX25_look 9 = .ok (.aload_n 0, 1) := by decide +kernel
theorem dX25_look_10 : decode cX25_look 10 = .ok (.getfield 25, 3) := by decide +kernel
theorem dX25_look_13 : decode cX25_look 13 = .ok (.getfield 33, 3) := by decide +kernel
theorem dX25_look_16 : decode cX25_look 16 = .ok (.if_icmp .ge 74, 3) := by decide +kernel
theorem dX25_look_19 : decode cX25_look 19 = .ok (.aload_n 0, 1) := by decide +kernel
theorem dX25_look_20 : decode cX25_look 20 = .ok (.getfield 25, 3) := by decide +kernel
theorem dX25_look_23 : decode cX25_look 23 = .ok (.getfield 29, 3) := by decide +kernel
theorem dX25_look_26 : decode cX25_look 26 = .ok (.aload_n 0, 1) := by decide +kernel
theorem dX25_look_27 : decode cX25_look 27 = .ok (.getfield 25, 3) := by decide +kernel
theorem dX25_look_30 : decode cX25_look 30 = .ok (.getfield 49, 3) := by decide +kernel
theorem dX25_look_33 : decode cX25_look 33 = .ok (.baload, 1) := by decide +kernel
theorem dX25_look_34 : decode cX25_look 34 = .ok (.bipush 92, 2) := by decide +kernel
theorem dX25_look_36 : decode cX25_look 36 = .ok (.if_icmp .ne 54, 3) := by decide +kernel
theorem dX25_look_90 : decode cX25_look 90 = .ok (.aload_n 0, 1) := by decide +kernel
theorem dX25_look_91 : decode cX25_look 91 = .ok (.getfield 25, 3) := by decide +kernel
theorem dX25_look_94 : decode cX25_look 94 = .ok (.getfield 49, 3) := by decide +kernel
theorem dX25_look_97 : decode cX25_look 97 = .ok (.aload_n 0, 1) := by decide +kernel
theorem dX25_look_98 : decode cX25_look 98 = .ok (.getfield 25, 3) := by decide +kernel
theorem dX25_look_101 : decode cX25_look 101 = .ok (.getfield 33, 3) := by decide +kernel
theorem dX25_look_104 : decode cX25_look 104 = .ok (.if_icmp .ge 21, 3) := by decide +kernel
theorem dX25_look_107 : decode cX25_look 107 = .ok (.aload_n 0, 1) := by decide +kernel
theorem dX25_look_108 : decode cX25_look 108 = .ok (.getfield 25, 3) := by decide +kernel
theorem dX25_look_111 : decode cX25_look 111 = .ok (.getfield 29, 3) := by decide +kernel
theorem dX25_look_114 : decode cX25_look 114 = .ok (.aload_n 0, 1) := by decide +kernel
theorem dX25_look_115 : decode cX25_look 115 = .ok (.getfield 25, 3) := by decide +kernel
theorem dX25_look_118 : decode cX25_look 118 = .ok (.getfield 49, 3) := by decide +kernel
theorem dX25_look_121 : decode cX25_look 121 = .ok (.baload, 1) := by decide +kernel
theorem dX25_look_122 : decode cX25_look 122 = .ok (.goto 4, 3) := by decide +kernel
theorem dX25_look_125 : decode cX25_look 125 = .ok (.iconst (-1), 1) := by decide +kernel
theorem dX25_look_126 : decode cX25_look 126 = .ok (.ireturn, 1) := by decide +kernel
theorem dX25_take_0 : decode cX25_take 0 = .ok (.aload_n 0, 1) := by decide +kernel
theorem dX25_take_1 : decode cX25_take 1 = .ok (.getfield 25, 3) := by decide +kernel
theorem dX25_take_4 : decode cX25_take 4 = .ok (.getfield 29, 3) := by decide +kernel
theorem dX25_take_7 : decode cX25_take 7 = .ok (.aload_n 0, 1) := by decide +kernel
theorem dX25_take_8 : decode cX25_take 8 = .ok (.getfield 25, 3) := by decide +kernel
theorem dX25_take_11 : decode cX25_take 11 = .ok (.getfield 49, 3) := by decide +kernel
theorem dX25_take_14 : decode cX25_take 14 = .ok (.baload, 1) := by decide +kernel
theorem dX25_take_15 : decode cX25_take 15 = .ok (.istore_n 1, 1) := by decide +kernel
theorem dX25_take_16 : decode cX25_take 16 = .ok (.aload_n 0, 1) := by decide +kernel
theorem dX25_take_17 : decode cX25_take 17 = .ok (.getfield 25, 3) := by decide +kernel
theorem dX25_take_20 : decode cX25_take 20 = .ok (.dup, 1) := by decide +kernel
theorem dX25_take_21 : decode cX25_take 21 = .ok (.getfield 49, 3) := by decide +kernel
theorem dX25_take_24 : decode cX25_take 24 = .ok (.iconst 1, 1) := by decide +kernel
theorem dX25_take_25 : decode cX25_take 25 = .ok (.iadd, 1) := by decide +kernel
theorem dX25_take_26 : decode cX25_take 26 = .ok (.putfield 49, 3) := by decide +kernel
theorem dX25_take_29 : decode cX25_take 29 = .ok (.iload_n 1, 1) := by decide +kernel
theorem dX25_take_30 : decode cX25_take 30 = .ok (.bipush 10, 2) := by decide +kernel
theorem dX25_take_32 : decode cX25_take 32 = .ok (.if_icmp .ne 16, 3) := by decide +kernel
theorem dX25_take_48 : decode cX25_take 48 = .ok (.aload_n 0, 1) := by decide +kernel
theorem dX25_take_49 : decode cX25_take 49 = .ok (.getfield 52, 3) := by decide +kernel
theorem dX25_take_52 : decode cX25_take 52 = .ok (.ifCond .le 25, 3) := by decide +kernel
theorem dX25_take_55 : decode cX25_take 55 = .ok (.aload_n 0, 1) := by decide +kernel
theorem dX25_take_56 : decode cX25_take 56 = .ok (.getfield 25, 3) := by decide +kernel
theorem dX25_take_59 : decode cX25_take 59 = .ok (.aload_n 0, 1) := by decide +kernel
theorem dX25_take_60 : decode cX25_take 60 = .ok (.getfield 55, 3) := by decide +kernel
theorem dX25_take_63 : decode cX25_take 63 = .ok (.if_acmp .ne 14, 3) := by decide +kernel
theorem dX25_take_66 : decode cX25_take 66 = .ok (.aload_n 0, 1) := by decide +kernel
theorem dX25_take_67 : decode cX25_take 67 = .ok (.getfield 9, 3) := by decide +kernel
theorem dX25_take_70 : decode cX25_take 70 = .ok (.getfield 58, 3) := by decide +kernel
theorem dX25_take_73 : decode cX25_take 73 = .ok (.iload_n 1, 1) := by decide +kernel
theorem dX25_take_74 : decode cX25_take 74 = .ok (.invokevirtual 62, 3) := by decide +kernel
theorem dX25_take_77 : decode cX25_take 77 = .ok (.iload_n 1, 1) := by decide +kernel
theorem dX25_take_78 : decode cX25_take 78 = .ok (.ireturn, 1) := by decide +kernel
theorem dX25_made_0 : decode cX25_made 0 = .ok (.new 75, 3) := by decide +kernel
theorem dX25_made_3 : decode cX25_made 3 = .ok (.dup, 1) := by decide +kernel
theorem dX25_made_4 : decode cX25_made 4 = .ok (.invokespecial 77, 3) := by decide +kernel
theorem dX25_made_7 : decode cX25_made 7 = .ok (.astore_n 2, 1) := by decide +kernel
theorem dX25_made_8 : decode cX25_made 8 = .ok (.aload_n 2, 1) := by decide +kernel
theorem dX25_made_9 : decode cX25_made 9 = .ok (.iload_n 1, 1) := by decide +kernel
theorem dX25_made_10 : decode cX25_made 10 = .ok (.putfield 78, 3) := by decide +kernel
theorem dX25_made_13 : decode cX25_made 13 = .ok (.aload_n 2, 1) := by decide +kernel
theorem dX25_made_14 : decode cX25_made 14 = .ok (.areturn, 1) := by decide +kernel
theorem dX25_parts_0 : decode cX25_parts 0 = .ok (.aload_n 0, 1) := by decide +kernel
theorem dX25_parts_1 : decode cX25_parts 1 = .ok (.getfield 9, 3) := by decide +kernel
theorem dX25_parts_4 : decode cX25_parts 4 = .ok (.getfield 81, 3) := by decide +kernel
theorem dX25_parts_7 : decode cX25_parts 7 = .ok (.getfield 84, 3) := by decide +kernel
theorem dX25_parts_10 : decode cX25_parts 10 = .ok (.istore_n 2, 1) := by decide +kernel
theorem dX25_parts_11 : decode cX25_parts 11 = .ok (.iconst 0, 1) := by decide +kernel
theorem dX25_parts_12 : decode cX25_parts 12 = .ok (.istore_n 3, 1) := by decide +kernel
theorem dX25_parts_13 : decode cX25_parts 13 = .ok (.aconst_null, 1) := by decide +kernel
theorem dX25_parts_14 : decode cX25_parts 14 = .ok (.astore 4, 2) := by decide +kernel
theorem dX25_parts_16 : decode cX25_parts 16 = .ok (.aconst_null, 1) := by decide +kernel
theorem dX25_parts_17 : decode cX25_parts 17 = .ok (.astore 5, 2) := by decide +kernel
theorem dX25_parts_19 : decode cX25_parts 19 = .ok (.iconst 0, 1) := by decide +kernel
theorem dX25_parts_20 : decode cX25_parts 20 = .ok (.istore 6, 2) := by decide +kernel
theorem dX25_parts_22 : decode cX25_parts 22 = .ok (.iload_n 1, 1) := by decide +kernel
theorem dX25_parts_23 : decode cX25_parts 23 = .ok (.ifCond .eq 8, 3) := by decide +kernel
theorem dX25_parts_31 : decode cX25_parts 31 = .ok (.iconst 1, 1) := by decide +kernel
theorem dX25_parts_32 : decode cX25_parts 32 = .ok (.goto 4, 3) := by decide +kernel
theorem dX25_parts_36 : decode cX25_parts 36 = .ok (.istore 7, 2) := by decide +kernel
theorem dX25_parts_38 : decode cX25_parts 38 = .ok (.aload_n 0, 1) := by decide +kernel
theorem dX25_parts_39 : decode cX25_parts 39 = .ok (.invokevirtual 85, 3) := by decide +kernel
theorem dX25_parts_42 : decode cX25_parts 42 = .ok (.istore 8, 2) := by decide +kernel
theorem dX25_parts_44 : decode cX25_parts 44 = .ok (.iload 8, 2) := by decide +kernel
theorem dX25_parts_46 : decode cX25_parts 46 = .ok (.ifCond .ge 15, 3) := by decide +kernel
theorem dX25_parts_61 : decode cX25_parts 61 = .ok (.iload 8, 2) := by decide +kernel
theorem dX25_parts_63 : decode cX25_parts 63 = .ok (.ifCond .ge 8, 3) := by decide +kernel
theorem dX25_parts_71 : decode cX25_parts 71 = .ok (.iload_n 1, 1) := by decide +kernel
theorem dX25_parts_72 : decode cX25_parts 72 = .ok (.ifCond .ne 12, 3) := by decide +kernel
theorem dX25_parts_75 : decode cX25_parts 75 = .ok (.aload_n 0, 1) := by decide +kernel
theorem dX25_parts_76 : decode cX25_parts 76 = .ok (.iload 8, 2) := by decide +kernel
theorem dX25_parts_78 : decode cX25_parts 78 = .ok (.invokevirtual 92, 3) := by decide +kernel
theorem dX25_parts_81 : decode cX25_parts 81 = .ok (.ifCond .ne 444, 3) := by decide +kernel
theorem dX25_parts_84 : decode cX25_parts 84 = .ok (.iload_n 1, 1) := by decide +kernel
theorem dX25_parts_85 : decode cX25_parts 85 = .ok (.iconst 1, 1) := by decide +kernel
theorem dX25_parts_86 : decode cX25_parts 86 = .ok (.if_icmp .ne 10, 3) := by decide +kernel
theorem dX25_parts_96 : decode cX25_parts 96 = .ok (.iload_n 1, 1) := by decide +kernel
theorem dX25_parts_97 : decode cX25_parts 97 = .ok (.iconst 2, 1) := by decide +kernel
theorem dX25_parts_98 : decode cX25_parts 98 = .ok (.if_icmp .eq 8, 3) := by decide +kernel
theorem dX25_parts_101 : decode cX25_parts 101 = .ok (.iload_n 1, 1) := by decide +kernel
theorem dX25_parts_102 : decode cX25_parts 102 = .ok (.iconst 3, 1) := by decide +kernel
theorem dX25_parts_103 : decode cX25_parts 103 = .ok (.if_icmp .ne 13, 3) := by decide +kernel
theorem dX25_parts_116 : decode cX25_parts 116 = .ok (.iload_n 1, 1) := by decide +kernel
theorem dX25_parts_117 : decode cX25_parts 117 = .ok (.iconst 4, 1) := by decide +kernel
theorem dX25_parts_118 : decode cX25_parts 118 = .ok (.if_icmp .ne 52, 3) := by decide +kernel
theorem dX25_parts_170 : decode cX25_parts 170 = .ok (.iload 6, 2) := by decide +kernel
theorem dX25_parts_172 : decode cX25_parts 172 = .ok (.iload_n 1, 1) := by decide +kernel
theorem dX25_parts_173 : decode cX25_parts 173 = .ok (.iconst 4, 1) := by decide +kernel
theorem dX25_parts_174 : decode cX25_parts 174 = .ok (.if_icmp .ne 14, 3) := by decide +kernel
theorem dX25_parts_188 : decode cX25_parts 188 = .ok (.iload_n 1, 1) := by decide +kernel
theorem dX25_parts_189 : decode cX25_parts 189 = .ok (.iconst 4, 1) := by decide +kernel
theorem dX25_parts_190 : decode cX25_parts 190 = .ok (.if_icmp .ne 14, 3) := by decide +kernel
theorem dX25_parts_204 : decode cX25_parts 204 = .ok (.iconst 0, 1) := by decide +kernel
theorem dX25_parts_205 : decode cX25_parts 205 = .ok (.iadd, 1) := by decide +kernel
theorem dX25_parts_206 : decode cX25_parts 206 = .ok (.istore 6, 2) := by decide +kernel
theorem dX25_parts_208 : decode cX25_parts 208 = .ok (.aconst_null, 1) := by decide +kernel
theorem dX25_parts_209 : decode cX25_parts 209 = .ok (.astore 9, 2) := by decide +kernel
theorem dX25_parts_211 : decode cX25_parts 211 = .ok (.iload 8, 2) := by decide +kernel
theorem dX25_parts_213 : decode cX25_parts 213 = .ok (.bipush 36, 2) := by decide +kernel
theorem dX25_parts_215 : decode cX25_parts 215 = .ok (.if_icmp .ne 22, 3) := by decide +kernel
theorem dX25_parts_237 : decode cX25_parts 237 = .ok (.iload 8, 2) := by decide +kernel
theorem dX25_parts_239 : decode cX25_parts 239 = .ok (.bipush 96, 2) := by decide +kernel
theorem dX25_parts_241 : decode cX25_parts 241 = .ok (.if_icmp .ne 22, 3) := by decide +kernel
theorem dX25_parts_263 : decode cX25_parts 263 = .ok (.iload 8, 2) := by decide +kernel
theorem dX25_parts_265 : decode cX25_parts 265 = .ok (.bipush 34, 2) := by decide +kernel
theorem dX25_parts_267 : decode cX25_parts 267 = .ok (.if_icmp .ne 19, 3) := by decide +kernel
theorem dX25_parts_286 : decode cX25_parts 286 = .ok (.aload 9, 2) := by decide +kernel
theorem dX25_parts_288 : decode cX25_parts 288 = .ok (.ifnonnull 26, 3) := by decide +kernel
theorem dX25_parts_291 : decode cX25_parts 291 = .ok (.iload 7, 2) := by decide +kernel
theorem dX25_parts_293 : decode cX25_parts 293 = .ok (.ifCond .eq 21, 3) := by decide +kernel
theorem dX25_parts_296 : decode cX25_parts 296 = .ok (.iload 8, 2) := by decide +kernel
theorem dX25_parts_298 : decode cX25_parts 298 = .ok (.bipush 92, 2) := by decide +kernel
theorem dX25_parts_300 : decode cX25_parts 300 = .ok (.if_icmp .eq 10, 3) := by decide +kernel
theorem dX25_parts_303 : decode cX25_parts 303 = .ok (.iload 8, 2) := by decide +kernel
theorem dX25_parts_305 : decode cX25_parts 305 = .ok (.bipush 39, 2) := by decide +kernel
theorem dX25_parts_307 : decode cX25_parts 307 = .ok (.if_icmp .ne 7, 3) := by decide +kernel
theorem dX25_parts_314 : decode cX25_parts 314 = .ok (.iconst 0, 1) := by decide +kernel
theorem dX25_parts_315 : decode cX25_parts 315 = .ok (.istore 10, 2) := by decide +kernel
theorem dX25_parts_317 : decode cX25_parts 317 = .ok (.aload_n 0, 1) := by decide +kernel
theorem dX25_parts_318 : decode cX25_parts 318 = .ok (.getfield 9, 3) := by decide +kernel
theorem dX25_parts_321 : decode cX25_parts 321 = .ok (.getfield 81, 3) := by decide +kernel
theorem dX25_parts_324 : decode cX25_parts 324 = .ok (.getfield 84, 3) := by decide +kernel
theorem dX25_parts_327 : decode cX25_parts 327 = .ok (.iload_n 2, 1) := by decide +kernel
theorem dX25_parts_328 : decode cX25_parts 328 = .ok (.if_icmp .le 51, 3) := by decide +kernel
theorem dX25_parts_379 : decode cX25_parts 379 = .ok (.iload 10, 2) := by decide +kernel
theorem dX25_parts_381 : decode cX25_parts 381 = .ok (.ifCond .eq 7, 3) := by decide +kernel
theorem dX25_parts_388 : decode cX25_parts 388 = .ok (.iconst 0, 1) := by decide +kernel
theorem dX25_parts_389 : decode cX25_parts 389 = .ok (.istore_n 3, 1) := by decide +kernel
theorem dX25_parts_390 : decode cX25_parts 390 = .ok (.aload 9, 2) := by decide +kernel
theorem dX25_parts_392 : decode cX25_parts 392 = .ok (.ifnull 30, 3) := by decide +kernel
theorem dX25_parts_422 : decode cX25_parts 422 = .ok (.iload 8, 2) := by decide +kernel
theorem dX25_parts_424 : decode cX25_parts 424 = .ok (.bipush 36, 2) := by decide +kernel
theorem dX25_parts_426 : decode cX25_parts 426 = .ok (.if_icmp .ne 18, 3) := by decide +kernel
theorem dX25_parts_444 : decode cX25_parts 444 = .ok (.iload 10, 2) := by decide +kernel
theorem dX25_parts_446 : decode cX25_parts 446 = .ok (.ifCond .eq 47, 3) := by decide +kernel
theorem dX25_parts_493 : decode cX25_parts 493 = .ok (.iload 8, 2) := by decide +kernel
theorem dX25_parts_495 : decode cX25_parts 495 = .ok (.bipush 92, 2) := by decide +kernel
theorem dX25_parts_497 : decode cX25_parts 497 = .ok (.if_icmp .ne 11, 3) := by decide +kernel
theorem dX25_parts_508 : decode cX25_parts 508 = .ok (.aload_n 0, 1) := by decide +kernel
theorem dX25_parts_509 : decode cX25_parts 509 = .ok (.getfield 9, 3) := by decide +kernel
theorem dX25_parts_512 : decode cX25_parts 512 = .ok (.getfield 81, 3) := by decide +kernel
theorem dX25_parts_515 : decode cX25_parts 515 = .ok (.aload_n 0, 1) := by decide +kernel
theorem dX25_parts_516 : decode cX25_parts 516 = .ok (.invokevirtual 96, 3) := by decide +kernel
theorem dX25_parts_519 : decode cX25_parts 519 = .ok (.invokevirtual 62, 3) := by decide +kernel
theorem dX25_parts_522 : decode cX25_parts 522 = .ok (.goto (-484), 3) := by decide +kernel
theorem dX25_parts_525 : decode cX25_parts 525 = .ok (.aload_n 0, 1) := by decide +kernel
theorem dX25_parts_526 : decode cX25_parts 526 = .ok (.getfield 9, 3) := by decide +kernel
theorem dX25_parts_529 : decode cX25_parts 529 = .ok (.getfield 81, 3) := by decide +kernel
theorem dX25_parts_532 : decode cX25_parts 532 = .ok (.getfield 84, 3) := by decide +kernel
theorem dX25_parts_535 : decode cX25_parts 535 = .ok (.iload_n 2, 1) := by decide +kernel
theorem dX25_parts_536 : decode cX25_parts 536 = .ok (.if_icmp .ne 6, 3) := by decide +kernel
theorem dX25_parts_542 : decode cX25_parts 542 = .ok (.aload_n 0, 1) := by decide +kernel
theorem dX25_parts_543 : decode cX25_parts 543 = .ok (.aload 5, 2) := by decide +kernel
theorem dX25_parts_545 : decode cX25_parts 545 = .ok (.aload_n 0, 1) := by decide +kernel
theorem dX25_parts_546 : decode cX25_parts 546 = .ok (.iload_n 3, 1) := by decide +kernel
theorem dX25_parts_547 : decode cX25_parts 547 = .ok (.iload_n 2, 1) := by decide +kernel
theorem dX25_parts_548 : decode cX25_parts 548 = .ok (.invokevirtual 110, 3) := by decide +kernel
theorem dX25_parts_551 : decode cX25_parts 551 = .ok (.invokevirtual 114, 3) := by decide +kernel
theorem dX25_parts_554 : decode cX25_parts 554 = .ok (.astore 5, 2) := by decide +kernel
theorem dX25_parts_556 : decode cX25_parts 556 = .ok (.aload 4, 2) := by decide +kernel
theorem dX25_parts_558 : decode cX25_parts 558 = .ok (.ifnonnull 8, 3) := by decide +kernel
theorem dX25_parts_561 : decode cX25_parts 561 = .ok (.aload 5, 2) := by decide +kernel
theorem dX25_parts_563 : decode cX25_parts 563 = .ok (.goto 5, 3) := by decide +kernel
theorem dX25_parts_568 : decode cX25_parts 568 = .ok (.areturn, 1) := by decide +kernel
theorem dX25_linked_0 : decode cX25_linked 0 = .ok (.aload_n 1, 1) := by decide +kernel
theorem dX25_linked_1 : decode cX25_linked 1 = .ok (.ifnull 8, 3) := by decide +kernel
theorem dX25_linked_9 : decode cX25_linked 9 = .ok (.aload_n 2, 1) := by decide +kernel
theorem dX25_linked_10 : decode cX25_linked 10 = .ok (.areturn, 1) := by decide +kernel
theorem dX25_ends_0 : decode cX25_ends 0 = .ok (.iload_n 1, 1) := by decide +kernel
theorem dX25_ends_1 : decode cX25_ends 1 = .ok (.bipush 9, 2) := by decide +kernel
theorem dX25_ends_3 : decode cX25_ends 3 = .ok (.if_icmp .eq 57, 3) := by decide +kernel
theorem dX25_ends_6 : decode cX25_ends 6 = .ok (.iload_n 1, 1) := by decide +kernel
theorem dX25_ends_7 : decode cX25_ends 7 = .ok (.bipush 10, 2) := by decide +kernel
theorem dX25_ends_9 : decode cX25_ends 9 = .ok (.if_icmp .eq 51, 3) := by decide +kernel
theorem dX25_ends_12 : decode cX25_ends 12 = .ok (.iload_n 1, 1) := by decide +kernel
theorem dX25_ends_13 : decode cX25_ends 13 = .ok (.bipush 32, 2) := by decide +kernel
theorem dX25_ends_15 : decode cX25_ends 15 = .ok (.if_icmp .eq 45, 3) := by decide +kernel
theorem dX25_ends_18 : decode cX25_ends 18 = .ok (.iload_n 1, 1) := by decide +kernel
theorem dX25_ends_19 : decode cX25_ends 19 = .ok (.bipush 38, 2) := by decide +kernel
theorem dX25_ends_21 : decode cX25_ends 21 = .ok (.if_icmp .eq 39, 3) := by decide +kernel
theorem dX25_ends_24 : decode cX25_ends 24 = .ok (.iload_n 1, 1) := by decide +kernel
theorem dX25_ends_25 : decode cX25_ends 25 = .ok (.bipush 59, 2) := by decide +kernel
theorem dX25_ends_27 : decode cX25_ends 27 = .ok (.if_icmp .eq 33, 3) := by decide +kernel
theorem dX25_ends_30 : decode cX25_ends 30 = .ok (.iload_n 1, 1) := by decide +kernel
theorem dX25_ends_31 : decode cX25_ends 31 = .ok (.bipush 124, 2) := by decide +kernel
theorem dX25_ends_33 : decode cX25_ends 33 = .ok (.if_icmp .eq 27, 3) := by decide +kernel
theorem dX25_ends_36 : decode cX25_ends 36 = .ok (.iload_n 1, 1) := by decide +kernel
theorem dX25_ends_37 : decode cX25_ends 37 = .ok (.bipush 60, 2) := by decide +kernel
theorem dX25_ends_39 : decode cX25_ends 39 = .ok (.if_icmp .eq 21, 3) := by decide +kernel
theorem dX25_ends_42 : decode cX25_ends 42 = .ok (.iload_n 1, 1) := by decide +kernel
theorem dX25_ends_43 : decode cX25_ends 43 = .ok (.bipush 62, 2) := by decide +kernel
theorem dX25_ends_45 : decode cX25_ends 45 = .ok (.if_icmp .eq 15, 3) := by decide +kernel
theorem dX25_ends_48 : decode cX25_ends 48 = .ok (.iload_n 1, 1) := by decide +kernel
theorem dX25_ends_49 : decode cX25_ends 49 = .ok (.bipush 40, 2) := by decide +kernel
theorem dX25_ends_51 : decode cX25_ends 51 = .ok (.if_icmp .eq 9, 3) := by decide +kernel
theorem dX25_ends_54 : decode cX25_ends 54 = .ok (.iload_n 1, 1) := by decide +kernel
theorem dX25_ends_55 : decode cX25_ends 55 = .ok (.bipush 41, 2) := by decide +kernel
theorem dX25_ends_57 : decode cX25_ends 57 = .ok (.if_icmp .ne 7, 3) := by decide +kernel
theorem dX25_ends_60 : decode cX25_ends 60 = .ok (.iconst 1, 1) := by decide +kernel
theorem dX25_ends_61 : decode cX25_ends 61 = .ok (.goto 4, 3) := by decide +kernel
theorem dX25_ends_64 : decode cX25_ends 64 = .ok (.iconst 0, 1) := by decide +kernel
theorem dX25_ends_65 : decode cX25_ends 65 = .ok (.ireturn, 1) := by decide +kernel
theorem dX25_flushed_0 : decode cX25_flushed 0 = .ok (.aload_n 0, 1) := by decide +kernel
theorem dX25_flushed_1 : decode cX25_flushed 1 = .ok (.iload_n 1, 1) := by decide +kernel
theorem dX25_flushed_2 : decode cX25_flushed 2 = .ok (.invokevirtual 128, 3) := by decide +kernel
theorem dX25_flushed_5 : decode cX25_flushed 5 = .ok (.astore_n 3, 1) := by decide +kernel
theorem dX25_flushed_6 : decode cX25_flushed 6 = .ok (.aload_n 3, 1) := by decide +kernel
theorem dX25_flushed_7 : decode cX25_flushed 7 = .ok (.aload_n 0, 1) := by decide +kernel
theorem dX25_flushed_8 : decode cX25_flushed 8 = .ok (.getfield 9, 3) := by decide +kernel
theorem dX25_flushed_11 : decode cX25_flushed 11 = .ok (.aload_n 0, 1) := by decide +kernel
theorem dX25_flushed_12 : decode cX25_flushed 12 = .ok (.getfield 9, 3) := by decide +kernel
theorem dX25_flushed_15 : decode cX25_flushed 15 = .ok (.getfield 81, 3) := by decide +kernel
theorem dX25_flushed_18 : decode cX25_flushed 18 = .ok (.getfield 132, 3) := by decide +kernel
theorem dX25_flushed_21 : decode cX25_flushed 21 = .ok (.iload_n 2, 1) := by decide +kernel
theorem dX25_flushed_22 : decode cX25_flushed 22 = .ok (.aload_n 0, 1) := by decide +kernel
theorem dX25_flushed_23 : decode cX25_flushed 23 = .ok (.getfield 9, 3) := by decide +kernel
theorem dX25_flushed_26 : decode cX25_flushed 26 = .ok (.getfield 81, 3) := by decide +kernel
theorem dX25_flushed_29 : decode cX25_flushed 29 = .ok (.getfield 84, 3) := by decide +kernel
theorem dX25_flushed_32 : decode cX25_flushed 32 = .ok (.invokevirtual 133, 3) := by decide +kernel
theorem dX25_flushed_35 : decode cX25_flushed 35 = .ok (.putfield 137, 3) := by decide +kernel
theorem dX25_flushed_38 : decode cX25_flushed 38 = .ok (.aload_n 0, 1) := by decide +kernel
theorem dX25_flushed_39 : decode cX25_flushed 39 = .ok (.getfield 9, 3) := by decide +kernel
theorem dX25_flushed_42 : decode cX25_flushed 42 = .ok (.getfield 81, 3) := by decide +kernel
theorem dX25_flushed_45 : decode cX25_flushed 45 = .ok (.iload_n 2, 1) := by decide +kernel
theorem dX25_flushed_46 : decode cX25_flushed 46 = .ok (.putfield 84, 3) := by decide +kernel
theorem dX25_flushed_49 : decode cX25_flushed 49 = .ok (.aload_n 3, 1) := by decide +kernel
theorem dX25_flushed_50 : decode cX25_flushed 50 = .ok (.areturn, 1) := by decide +kernel
theorem dX25_isBlank_0 : decode cX25_isBlank 0 = .ok (.iload_n 1, 1) := by decide +kernel
theorem dX25_isBlank_1 : decode cX25_isBlank 1 = .ok (.bipush 9, 2) := by decide +kernel
theorem dX25_isBlank_3 : decode cX25_isBlank 3 = .ok (.if_icmp .eq 9, 3) := by decide +kernel
theorem dX25_isBlank_6 : decode cX25_isBlank 6 = .ok (.iload_n 1, 1) := by decide +kernel
theorem dX25_isBlank_7 : decode cX25_isBlank 7 = .ok (.bipush 32, 2) := by decide +kernel
theorem dX25_isBlank_9 : decode cX25_isBlank 9 = .ok (.if_icmp .ne 7, 3) := by decide +kernel
theorem dX25_isBlank_12 : decode cX25_isBlank 12 = .ok (.iconst 1, 1) := by decide +kernel
theorem dX25_isBlank_13 : decode cX25_isBlank 13 = .ok (.goto 4, 3) := by decide +kernel
theorem dX25_isBlank_16 : decode cX25_isBlank 16 = .ok (.iconst 0, 1) := by decide +kernel
theorem dX25_isBlank_17 : decode cX25_isBlank 17 = .ok (.ireturn, 1) := by decide +kernel
theorem dX25_next_0 : decode cX25_next 0 = .ok (.aload_n 0, 1) := by decide +kernel
theorem dX25_next_1 : decode cX25_next 1 = .ok (.iconst 0, 1) := by decide +kernel
theorem dX25_next_2 : decode cX25_next 2 = .ok (.putfield 203, 3) := by decide +kernel
theorem dX25_next_5 : decode cX25_next 5 = .ok (.aload_n 0, 1) := by decide +kernel
theorem dX25_next_6 : decode cX25_next 6 = .ok (.invokevirtual 85, 3) := by decide +kernel
theorem dX25_next_9 : decode cX25_next 9 = .ok (.istore_n 1, 1) := by decide +kernel
theorem dX25_next_10 : decode cX25_next 10 = .ok (.iload_n 1, 1) := by decide +kernel
theorem dX25_next_11 : decode cX25_next 11 = .ok (.ifCond .ge 78, 3) := by decide +kernel
theorem dX25_next_14 : decode cX25_next 14 = .ok (.aload_n 0, 1) := by decide +kernel
theorem dX25_next_15 : decode cX25_next 15 = .ok (.getfield 25, 3) := by decide +kernel
theorem dX25_next_18 : decode cX25_next 18 = .ok (.aload_n 0, 1) := by decide +kernel
theorem dX25_next_19 : decode cX25_next 19 = .ok (.getfield 39, 3) := by decide +kernel
theorem dX25_next_22 : decode cX25_next 22 = .ok (.if_acmp .eq 67, 3) := by decide +kernel
theorem dX25_next_25 : decode cX25_next 25 = .ok (.aload_n 0, 1) := by decide +kernel
theorem dX25_next_26 : decode cX25_next 26 = .ok (.aload_n 0, 1) := by decide +kernel
theorem dX25_next_27 : decode cX25_next 27 = .ok (.getfield 203, 3) := by decide +kernel
theorem dX25_next_30 : decode cX25_next 30 = .ok (.ifCond .ne 37, 3) := by decide +kernel
theorem dX25_next_33 : decode cX25_next 33 = .ok (.aload_n 0, 1) := by decide +kernel
theorem dX25_next_34 : decode cX25_next 34 = .ok (.getfield 25, 3) := by decide +kernel
theorem dX25_next_37 : decode cX25_next 37 = .ok (.getfield 33, 3) := by decide +kernel
theorem dX25_next_40 : decode cX25_next 40 = .ok (.ifCond .le 31, 3) := by decide +kernel
theorem dX25_next_43 : decode cX25_next 43 = .ok (.aload_n 0, 1) := by decide +kernel
theorem dX25_next_44 : decode cX25_next 44 = .ok (.aload_n 0, 1) := by decide +kernel
theorem dX25_next_45 : decode cX25_next 45 = .ok (.getfield 25, 3) := by decide +kernel
theorem dX25_next_48 : decode cX25_next 48 = .ok (.getfield 29, 3) := by decide +kernel
theorem dX25_next_51 : decode cX25_next 51 = .ok (.aload_n 0, 1) := by decide +kernel
theorem dX25_next_52 : decode cX25_next 52 = .ok (.getfield 25, 3) := by decide +kernel
theorem dX25_next_55 : decode cX25_next 55 = .ok (.getfield 33, 3) := by decide +kernel
theorem dX25_next_58 : decode cX25_next 58 = .ok (.iconst 1, 1) := by decide +kernel
theorem dX25_next_59 : decode cX25_next 59 = .ok (.isub, 1) := by decide +kernel
theorem dX25_next_60 : decode cX25_next 60 = .ok (.baload, 1) := by decide +kernel
theorem dX25_next_61 : decode cX25_next 61 = .ok (.invokevirtual 226, 3) := by decide +kernel
theorem dX25_next_64 : decode cX25_next 64 = .ok (.ifCond .eq 7, 3) := by decide +kernel
theorem dX25_next_67 : decode cX25_next 67 = .ok (.iconst 1, 1) := by decide +kernel
theorem dX25_next_68 : decode cX25_next 68 = .ok (.goto 4, 3) := by decide +kernel
theorem dX25_next_72 : decode cX25_next 72 = .ok (.putfield 203, 3) := by decide +kernel
theorem dX25_next_75 : decode cX25_next 75 = .ok (.aload_n 0, 1) := by decide +kernel
theorem dX25_next_76 : decode cX25_next 76 = .ok (.aload_n 0, 1) := by decide +kernel
theorem dX25_next_77 : decode cX25_next 77 = .ok (.getfield 25, 3) := by decide +kernel
theorem dX25_next_80 : decode cX25_next 80 = .ok (.getfield 229, 3) := by decide +kernel
theorem dX25_next_83 : decode cX25_next 83 = .ok (.putfield 25, 3) := by decide +kernel
theorem dX25_next_86 : decode cX25_next 86 = .ok (.goto 74, 3) := by decide +kernel
theorem dX25_next_89 : decode cX25_next 89 = .ok (.iload_n 1, 1) := by decide +kernel
theorem dX25_next_90 : decode cX25_next 90 = .ok (.ifCond .lt 19, 3) := by decide +kernel
theorem dX25_next_93 : decode cX25_next 93 = .ok (.aload_n 0, 1) := by decide +kernel
theorem dX25_next_94 : decode cX25_next 94 = .ok (.iload_n 1, 1) := by decide +kernel
theorem dX25_next_95 : decode cX25_next 95 = .ok (.invokevirtual 226, 3) := by decide +kernel
theorem dX25_next_98 : decode cX25_next 98 = .ok (.ifCond .eq 11, 3) := by decide +kernel
theorem dX25_next_101 : decode cX25_next 101 = .ok (.aload_n 0, 1) := by decide +kernel
theorem dX25_next_102 : decode cX25_next 102 = .ok (.invokevirtual 96, 3) := by decide +kernel
theorem dX25_next_105 : decode cX25_next 105 = .ok (.pop, 1) := by decide +kernel
theorem dX25_next_106 : decode cX25_next 106 = .ok (.goto 54, 3) := by decide +kernel
theorem dX25_next_109 : decode cX25_next 109 = .ok (.iload_n 1, 1) := by decide +kernel
theorem dX25_next_110 : decode cX25_next 110 = .ok (.bipush 35, 2) := by decide +kernel
theorem dX25_next_112 : decode cX25_next 112 = .ok (.if_icmp .ne 51, 3) := by decide +kernel
theorem dX25_next_160 : decode cX25_next 160 = .ok (.goto (-155), 3) := by decide +kernel
theorem dX25_next_163 : decode cX25_next 163 = .ok (.aload_n 0, 1) := by decide +kernel
theorem dX25_next_164 : decode cX25_next 164 = .ok (.aload_n 0, 1) := by decide +kernel
theorem dX25_next_165 : decode cX25_next 165 = .ok (.invokevirtual 68, 3) := by decide +kernel
theorem dX25_next_168 : decode cX25_next 168 = .ok (.putfield 193, 3) := by decide +kernel
theorem dX25_next_171 : decode cX25_next 171 = .ok (.aload_n 0, 1) := by decide +kernel
theorem dX25_next_172 : decode cX25_next 172 = .ok (.aload_n 0, 1) := by decide +kernel
theorem dX25_next_173 : decode cX25_next 173 = .ok (.getfield 25, 3) := by decide +kernel
theorem dX25_next_176 : decode cX25_next 176 = .ok (.putfield 200, 3) := by decide +kernel
theorem dX25_next_179 : decode cX25_next 179 = .ok (.aload_n 0, 1) := by decide +kernel
theorem dX25_next_180 : decode cX25_next 180 = .ok (.invokevirtual 85, 3) := by decide +kernel
theorem dX25_next_183 : decode cX25_next 183 = .ok (.istore_n 1, 1) := by decide +kernel
theorem dX25_next_184 : decode cX25_next 184 = .ok (.iload_n 1, 1) := by decide +kernel
theorem dX25_next_185 : decode cX25_next 185 = .ok (.ifCond .ge 11, 3) := by decide +kernel
theorem dX25_next_196 : decode cX25_next 196 = .ok (.iload_n 1, 1) := by decide +kernel
theorem dX25_next_197 : decode cX25_next 197 = .ok (.bipush 10, 2) := by decide +kernel
theorem dX25_next_199 : decode cX25_next 199 = .ok (.if_icmp .ne 11, 3) := by decide +kernel
theorem dX25_next_210 : decode cX25_next 210 = .ok (.iload_n 1, 1) := by decide +kernel
theorem dX25_next_211 : decode cX25_next 211 = .ok (.bipush 40, 2) := by decide +kernel
theorem dX25_next_213 : decode cX25_next 213 = .ok (.if_icmp .ne 12, 3) := by decide +kernel
theorem dX25_next_225 : decode cX25_next 225 = .ok (.iload_n 1, 1) := by decide +kernel
theorem dX25_next_226 : decode cX25_next 226 = .ok (.bipush 41, 2) := by decide +kernel
theorem dX25_next_228 : decode cX25_next 228 = .ok (.if_icmp .ne 12, 3) := by decide +kernel
theorem dX25_next_240 : decode cX25_next 240 = .ok (.iload_n 1, 1) := by decide +kernel
theorem dX25_next_241 : decode cX25_next 241 = .ok (.bipush 59, 2) := by decide +kernel
theorem dX25_next_243 : decode cX25_next 243 = .ok (.if_icmp .ne 15, 3) := by decide +kernel
theorem dX25_next_258 : decode cX25_next 258 = .ok (.iload_n 1, 1) := by decide +kernel
theorem dX25_next_259 : decode cX25_next 259 = .ok (.bipush 38, 2) := by decide +kernel
theorem dX25_next_261 : decode cX25_next 261 = .ok (.if_icmp .ne 14, 3) := by decide +kernel
theorem dX25_next_275 : decode cX25_next 275 = .ok (.iload_n 1, 1) := by decide +kernel
theorem dX25_next_276 : decode cX25_next 276 = .ok (.bipush 124, 2) := by decide +kernel
theorem dX25_next_278 : decode cX25_next 278 = .ok (.if_icmp .ne 15, 3) := by decide +kernel
theorem dX25_next_293 : decode cX25_next 293 = .ok (.iload_n 1, 1) := by decide +kernel
theorem dX25_next_294 : decode cX25_next 294 = .ok (.bipush 62, 2) := by decide +kernel
theorem dX25_next_296 : decode cX25_next 296 = .ok (.if_icmp .ne 10, 3) := by decide +kernel
theorem dX25_next_306 : decode cX25_next 306 = .ok (.iload_n 1, 1) := by decide +kernel
theorem dX25_next_307 : decode cX25_next 307 = .ok (.bipush 60, 2) := by decide +kernel
theorem dX25_next_309 : decode cX25_next 309 = .ok (.if_icmp .ne 10, 3) := by decide +kernel
theorem dX25_next_319 : decode cX25_next 319 = .ok (.aload_n 0, 1) := by decide +kernel
theorem dX25_next_320 : decode cX25_next 320 = .ok (.invokevirtual 244, 3) := by decide +kernel
theorem dX25_next_323 : decode cX25_next 323 = .ok (.aload_n 0, 1) := by decide +kernel
theorem dX25_next_324 : decode cX25_next 324 = .ok (.getfield 203, 3) := by decide +kernel
theorem dX25_next_327 : decode cX25_next 327 = .ok (.ifCond .eq 18, 3) := by decide +kernel
theorem dX25_next_330 : decode cX25_next 330 = .ok (.aload_n 0, 1) := by decide +kernel
theorem dX25_next_331 : decode cX25_next 331 = .ok (.getfield 190, 3) := by decide +kernel
theorem dX25_next_334 : decode cX25_next 334 = .ok (.bipush 10, 2) := by decide +kernel
theorem dX25_next_336 : decode cX25_next 336 = .ok (.if_icmp .ne 9, 3) := by decide +kernel
theorem dX25_next_339 : decode cX25_next 339 = .ok (.aload_n 0, 1) := by decide +kernel
theorem dX25_next_340 : decode cX25_next 340 = .ok (.iconst 0, 1) := by decide +kernel
theorem dX25_next_341 : decode cX25_next 341 = .ok (.iconst 1, 1) := by decide +kernel
theorem dX25_next_342 : decode cX25_next 342 = .ok (.invokevirtual 247, 3) := by decide +kernel
theorem dX25_next_345 : decode cX25_next 345 = .ok (.return_, 1) := by decide +kernel
theorem dX25_aWord_0 : decode cX25_aWord 0 = .ok (.aload_n 0, 1) := by decide +kernel
theorem dX25_aWord_1 : decode cX25_aWord 1 = .ok (.new 251, 3) := by decide +kernel
theorem dX25_aWord_4 : decode cX25_aWord 4 = .ok (.dup, 1) := by decide +kernel
theorem dX25_aWord_5 : decode cX25_aWord 5 = .ok (.invokespecial 253, 3) := by decide +kernel
theorem dX25_aWord_8 : decode cX25_aWord 8 = .ok (.putfield 196, 3) := by decide +kernel
theorem dX25_aWord_11 : decode cX25_aWord 11 = .ok (.aload_n 0, 1) := by decide +kernel
theorem dX25_aWord_12 : decode cX25_aWord 12 = .ok (.getfield 196, 3) := by decide +kernel
theorem dX25_aWord_15 : decode cX25_aWord 15 = .ok (.aload_n 0, 1) := by decide +kernel
theorem dX25_aWord_16 : decode cX25_aWord 16 = .ok (.getfield 193, 3) := by decide +kernel
theorem dX25_aWord_19 : decode cX25_aWord 19 = .ok (.putfield 254, 3) := by decide +kernel
theorem dX25_aWord_22 : decode cX25_aWord 22 = .ok (.aload_n 0, 1) := by decide +kernel
theorem dX25_aWord_23 : decode cX25_aWord 23 = .ok (.getfield 255, 3) := by decide +kernel
theorem dX25_aWord_26 : decode cX25_aWord 26 = .ok (.ifCond .eq 14, 3) := by decide +kernel
theorem dX25_aWord_29 : decode cX25_aWord 29 = .ok (.aload_n 0, 1) := by decide +kernel
theorem dX25_aWord_30 : decode cX25_aWord 30 = .ok (.getfield 52, 3) := by decide +kernel
theorem dX25_aWord_33 : decode cX25_aWord 33 = .ok (.ifCond .ne 7, 3) := by decide +kernel
theorem dX25_aWord_36 : decode cX25_aWord 36 = .ok (.iconst 1, 1) := by decide +kernel
theorem dX25_aWord_37 : decode cX25_aWord 37 = .ok (.goto 4, 3) := by decide +kernel
theorem dX25_aWord_41 : decode cX25_aWord 41 = .ok (.istore_n 1, 1) := by decide +kernel
theorem dX25_aWord_42 : decode cX25_aWord 42 = .ok (.iload_n 1, 1) := by decide +kernel
theorem dX25_aWord_43 : decode cX25_aWord 43 = .ok (.ifCond .eq 22, 3) := by decide +kernel
theorem dX25_aWord_46 : decode cX25_aWord 46 = .ok (.aload_n 0, 1) := by decide +kernel
theorem dX25_aWord_47 : decode cX25_aWord 47 = .ok (.getfield 9, 3) := by decide +kernel
theorem dX25_aWord_50 : decode cX25_aWord 50 = .ok (.getfield 58, 3) := by decide +kernel
theorem dX25_aWord_53 : decode cX25_aWord 53 = .ok (.iconst 0, 1) := by decide +kernel
theorem dX25_aWord_54 : decode cX25_aWord 54 = .ok (.putfield 84, 3) := by decide +kernel
theorem dX25_aWord_57 : decode cX25_aWord 57 = .ok (.aload_n 0, 1) := by decide +kernel
theorem dX25_aWord_58 : decode cX25_aWord 58 = .ok (.aload_n 0, 1) := by decide +kernel
theorem dX25_aWord_59 : decode cX25_aWord 59 = .ok (.getfield 25, 3) := by decide +kernel
theorem dX25_aWord_62 : decode cX25_aWord 62 = .ok (.putfield 55, 3) := by decide +kernel
theorem dX25_aWord_65 : decode cX25_aWord 65 = .ok (.aload_n 0, 1) := by decide +kernel
theorem dX25_aWord_66 : decode cX25_aWord 66 = .ok (.dup, 1) := by decide +kernel
theorem dX25_aWord_67 : decode cX25_aWord 67 = .ok (.getfield 52, 3) := by decide +kernel
theorem dX25_aWord_70 : decode cX25_aWord 70 = .ok (.aload_n 0, 1) := by decide +kernel
theorem dX25_aWord_71 : decode cX25_aWord 71 = .ok (.getfield 255, 3) := by decide +kernel
theorem dX25_aWord_74 : decode cX25_aWord 74 = .ok (.ifCond .eq 7, 3) := by decide +kernel
theorem dX25_aWord_77 : decode cX25_aWord 77 = .ok (.iconst 1, 1) := by decide +kernel
theorem dX25_aWord_78 : decode cX25_aWord 78 = .ok (.goto 4, 3) := by decide +kernel
theorem dX25_aWord_82 : decode cX25_aWord 82 = .ok (.iadd, 1) := by decide +kernel
theorem dX25_aWord_83 : decode cX25_aWord 83 = .ok (.putfield 52, 3) := by decide +kernel
theorem dX25_aWord_86 : decode cX25_aWord 86 = .ok (.aload_n 0, 1) := by decide +kernel
theorem dX25_aWord_87 : decode cX25_aWord 87 = .ok (.getfield 196, 3) := by decide +kernel
theorem dX25_aWord_90 : decode cX25_aWord 90 = .ok (.aload_n 0, 1) := by decide +kernel
theorem dX25_aWord_91 : decode cX25_aWord 91 = .ok (.iconst 0, 1) := by decide +kernel
theorem dX25_aWord_92 : decode cX25_aWord 92 = .ok (.invokevirtual 140, 3) := by decide +kernel
theorem dX25_aWord_95 : decode cX25_aWord 95 = .ok (.putfield 258, 3) := by decide +kernel
theorem dX25_aWord_98 : decode cX25_aWord 98 = .ok (.aload_n 0, 1) := by decide +kernel
theorem dX25_aWord_99 : decode cX25_aWord 99 = .ok (.dup, 1) := by decide +kernel
theorem dX25_aWord_100 : decode cX25_aWord 100 = .ok (.getfield 52, 3) := by decide +kernel
theorem dX25_aWord_103 : decode cX25_aWord 103 = .ok (.aload_n 0, 1) := by decide +kernel
theorem dX25_aWord_104 : decode cX25_aWord 104 = .ok (.getfield 255, 3) := by decide +kernel
theorem dX25_aWord_107 : decode cX25_aWord 107 = .ok (.ifCond .eq 7, 3) := by decide +kernel
theorem dX25_aWord_110 : decode cX25_aWord 110 = .ok (.iconst 1, 1) := by decide +kernel
theorem dX25_aWord_111 : decode cX25_aWord 111 = .ok (.goto 4, 3) := by decide +kernel
theorem dX25_aWord_115 : decode cX25_aWord 115 = .ok (.isub, 1) := by decide +kernel
theorem dX25_aWord_116 : decode cX25_aWord 116 = .ok (.putfield 52, 3) := by decide +kernel
theorem dX25_aWord_119 : decode cX25_aWord 119 = .ok (.iload_n 1, 1) := by decide +kernel
theorem dX25_aWord_120 : decode cX25_aWord 120 = .ok (.ifCond .eq 45, 3) := by decide +kernel
theorem dX25_aWord_123 : decode cX25_aWord 123 = .ok (.aload_n 0, 1) := by decide +kernel
theorem dX25_aWord_124 : decode cX25_aWord 124 = .ok (.getfield 19, 3) := by decide +kernel
theorem dX25_aWord_127 : decode cX25_aWord 127 = .ok (.ifCond .ne 38, 3) := by decide +kernel
theorem dX25_aWord_130 : decode cX25_aWord 130 = .ok (.aload_n 0, 1) := by decide +kernel
theorem dX25_aWord_131 : decode cX25_aWord 131 = .ok (.getfield 196, 3) := by decide +kernel
theorem dX25_aWord_134 : decode cX25_aWord 134 = .ok (.aload_n 0, 1) := by decide +kernel
theorem dX25_aWord_135 : decode cX25_aWord 135 = .ok (.getfield 9, 3) := by decide +kernel
theorem dX25_aWord_138 : decode cX25_aWord 138 = .ok (.aload_n 0, 1) := by decide +kernel
theorem dX25_aWord_139 : decode cX25_aWord 139 = .ok (.getfield 9, 3) := by decide +kernel
theorem dX25_aWord_142 : decode cX25_aWord 142 = .ok (.getfield 58, 3) := by decide +kernel
theorem dX25_aWord_145 : decode cX25_aWord 145 = .ok (.getfield 132, 3) := by decide +kernel
theorem dX25_aWord_148 : decode cX25_aWord 148 = .ok (.iconst 0, 1) := by decide +kernel
theorem dX25_aWord_149 : decode cX25_aWord 149 = .ok (.aload_n 0, 1) := by decide +kernel
theorem dX25_aWord_150 : decode cX25_aWord 150 = .ok (.getfield 9, 3) := by decide +kernel
theorem dX25_aWord_153 : decode cX25_aWord 153 = .ok (.getfield 58, 3) := by decide +kernel
theorem dX25_aWord_156 : decode cX25_aWord 156 = .ok (.getfield 84, 3) := by decide +kernel
theorem dX25_aWord_159 : decode cX25_aWord 159 = .ok (.invokevirtual 133, 3) := by decide +kernel
theorem dX25_aWord_162 : decode cX25_aWord 162 = .ok (.putfield 260, 3) := by decide +kernel
theorem dX25_aWord_165 : decode cX25_aWord 165 = .ok (.aload_n 0, 1) := by decide +kernel
theorem dX25_aWord_166 : decode cX25_aWord 166 = .ok (.bipush 10, 2) := by decide +kernel
theorem dX25_aWord_168 : decode cX25_aWord 168 = .ok (.putfield 190, 3) := by decide +kernel
theorem dX25_aWord_171 : decode cX25_aWord 171 = .ok (.aload_n 0, 1) := by decide +kernel
theorem dX25_aWord_172 : decode cX25_aWord 172 = .ok (.invokevirtual 262, 3) := by decide +kernel
theorem dX25_aWord_175 : decode cX25_aWord 175 = .ok (.astore_n 2, 1) := by decide +kernel
theorem dX25_aWord_176 : decode cX25_aWord 176 = .ok (.aload_n 0, 1) := by decide +kernel
theorem dX25_aWord_177 : decode cX25_aWord 177 = .ok (.invokevirtual 85, 3) := by decide +kernel
theorem dX25_aWord_180 : decode cX25_aWord 180 = .ok (.istore_n 3, 1) := by decide +kernel
theorem dX25_aWord_181 : decode cX25_aWord 181 = .ok (.aload_n 2, 1) := by decide +kernel
theorem dX25_aWord_182 : decode cX25_aWord 182 = .ok (.ifnull 46, 3) := by decide +kernel
theorem dX25_aWord_185 : decode cX25_aWord 185 = .ok (.aload_n 2, 1) := by decide +kernel
theorem dX25_aWord_186 : decode cX25_aWord 186 = .ok (.arraylength, 1) := by decide +kernel
theorem dX25_aWord_187 : decode cX25_aWord 187 = .ok (.iconst 1, 1) := by decide +kernel
theorem dX25_aWord_188 : decode cX25_aWord 188 = .ok (.if_icmp .ne 40, 3) := by decide +kernel
theorem dX25_aWord_191 : decode cX25_aWord 191 = .ok (.aload_n 2, 1) := by decide +kernel
theorem dX25_aWord_192 : decode cX25_aWord 192 = .ok (.iconst 0, 1) := by decide +kernel
theorem dX25_aWord_193 : decode cX25_aWord 193 = .ok (.baload, 1) := by decide +kernel
theorem dX25_aWord_194 : decode cX25_aWord 194 = .ok (.invokestatic 158, 3) := by decide +kernel
theorem dX25_aWord_197 : decode cX25_aWord 197 = .ok (.ifCond .eq 31, 3) := by decide +kernel
theorem dX25_aWord_228 : decode cX25_aWord 228 = .ok (.return_, 1) := by decide +kernel
theorem dX25_plain_0 : decode cX25_plain 0 = .ok (.aload_n 0, 1) := by decide +kernel
theorem dX25_plain_1 : decode cX25_plain 1 = .ok (.getfield 196, 3) := by decide +kernel
theorem dX25_plain_4 : decode cX25_plain 4 = .ok (.getfield 258, 3) := by decide +kernel
theorem dX25_plain_7 : decode cX25_plain 7 = .ok (.ifnull 42, 3) := by decide +kernel
theorem dX25_plain_10 : decode cX25_plain 10 = .ok (.aload_n 0, 1) := by decide +kernel
theorem dX25_plain_11 : decode cX25_plain 11 = .ok (.getfield 196, 3) := by decide +kernel
theorem dX25_plain_14 : decode cX25_plain 14 = .ok (.getfield 258, 3) := by decide +kernel
theorem dX25_plain_17 : decode cX25_plain 17 = .ok (.getfield 124, 3) := by decide +kernel
theorem dX25_plain_20 : decode cX25_plain 20 = .ok (.ifnonnull 29, 3) := by decide +kernel
theorem dX25_plain_23 : decode cX25_plain 23 = .ok (.aload_n 0, 1) := by decide +kernel
theorem dX25_plain_24 : decode cX25_plain 24 = .ok (.getfield 196, 3) := by decide +kernel
theorem dX25_plain_27 : decode cX25_plain 27 = .ok (.getfield 258, 3) := by decide +kernel
theorem dX25_plain_30 : decode cX25_plain 30 = .ok (.getfield 78, 3) := by decide +kernel
theorem dX25_plain_33 : decode cX25_plain 33 = .ok (.ifCond .ne 16, 3) := by decide +kernel
theorem dX25_plain_36 : decode cX25_plain 36 = .ok (.aload_n 0, 1) := by decide +kernel
theorem dX25_plain_37 : decode cX25_plain 37 = .ok (.getfield 196, 3) := by decide +kernel
theorem dX25_plain_40 : decode cX25_plain 40 = .ok (.getfield 258, 3) := by decide +kernel
theorem dX25_plain_43 : decode cX25_plain 43 = .ok (.getfield 137, 3) := by decide +kernel
theorem dX25_plain_46 : decode cX25_plain 46 = .ok (.goto 4, 3) := by decide +kernel
theorem dX25_plain_50 : decode cX25_plain 50 = .ok (.areturn, 1) := by decide +kernel
theorem dX25_isReserved_0 : decode cX25_isReserved 0 = .ok (.aload_n 0, 1) := by decide +kernel
theorem dX25_isReserved_1 : decode cX25_isReserved 1 = .ok (.getfield 190, 3) := by decide +kernel
theorem dX25_isReserved_4 : decode cX25_isReserved 4 = .ok (.bipush 10, 2) := by decide +kernel
theorem dX25_isReserved_6 : decode cX25_isReserved 6 = .ok (.if_icmp .ne 10, 3) := by decide +kernel
theorem dX25_isReserved_9 : decode cX25_isReserved 9 = .ok (.aload_n 0, 1) := by decide +kernel
theorem dX25_isReserved_10 : decode cX25_isReserved 10 = .ok (.invokevirtual 262, 3) := by decide +kernel
theorem dX25_isReserved_13 : decode cX25_isReserved 13 = .ok (.goto 4, 3) := by decide +kernel
theorem dX25_isReserved_17 : decode cX25_isReserved 17 = .ok (.astore_n 1, 1) := by decide +kernel
theorem dX25_isReserved_18 : decode cX25_isReserved 18 = .ok (.aload_n 1, 1) := by decide +kernel
theorem dX25_isReserved_19 : decode cX25_isReserved 19 = .ok (.ifnull 30, 3) := by decide +kernel
theorem dX25_isReserved_22 : decode cX25_isReserved 22 = .ok (.aload_n 1, 1) := by decide +kernel
theorem dX25_isReserved_23 : decode cX25_isReserved 23 = .ok (.arraylength, 1) := by decide +kernel
theorem dX25_isReserved_24 : decode cX25_isReserved 24 = .ok (.bipush 6, 2) := by decide +kernel
theorem dX25_isReserved_26 : decode cX25_isReserved 26 = .ok (.if_icmp .ge 23, 3) := by decide +kernel
theorem dX25_isReserved_29 : decode cX25_isReserved 29 = .ok (.aload_n 0, 1) := by decide +kernel
theorem dX25_isReserved_30 : decode cX25_isReserved 30 = .ok (.aload_n 1, 1) := by decide +kernel
theorem dX25_isReserved_31 : decode cX25_isReserved 31 = .ok (.invokevirtual 272, 3) := by decide +kernel
theorem dX25_isReserved_34 : decode cX25_isReserved 34 = .ok (.ifCond .ne 11, 3) := by decide +kernel
theorem dX25_isReserved_37 : decode cX25_isReserved 37 = .ok (.aload_n 0, 1) := by decide +kernel
theorem dX25_isReserved_38 : decode cX25_isReserved 38 = .ok (.aload_n 1, 1) := by decide +kernel
theorem dX25_isReserved_39 : decode cX25_isReserved 39 = .ok (.invokevirtual 276, 3) := by decide +kernel
theorem dX25_isReserved_42 : decode cX25_isReserved 42 = .ok (.ifCond .eq 7, 3) := by decide +kernel
theorem dX25_isReserved_49 : decode cX25_isReserved 49 = .ok (.iconst 0, 1) := by decide +kernel
theorem dX25_isReserved_50 : decode cX25_isReserved 50 = .ok (.ireturn, 1) := by decide +kernel
theorem dX25_begins_0 : decode cX25_begins 0 = .ok (.aload_n 1, 1) := by decide +kernel
theorem dX25_begins_1 : decode cX25_begins 1 = .ok (.ldc_w 279, 3) := by decide +kernel
theorem dX25_begins_4 : decode cX25_begins 4 = .ok (.invokestatic 281, 3) := by decide +kernel
theorem dX25_begins_7 : decode cX25_begins 7 = .ok (.ifCond .ne 63, 3) := by decide +kernel
theorem dX25_begins_10 : decode cX25_begins 10 = .ok (.aload_n 1, 1) := by decide +kernel
theorem dX25_begins_11 : decode cX25_begins 11 = .ok (.ldc_w 285, 3) := by decide +kernel
theorem dX25_begins_14 : decode cX25_begins 14 = .ok (.invokestatic 281, 3) := by decide +kernel
theorem dX25_begins_17 : decode cX25_begins 17 = .ok (.ifCond .ne 53, 3) := by decide +kernel
theorem dX25_begins_20 : decode cX25_begins 20 = .ok (.aload_n 1, 1) := by decide +kernel
theorem dX25_begins_21 : decode cX25_begins 21 = .ok (.ldc_w 287, 3) := by decide +kernel
theorem dX25_begins_24 : decode cX25_begins 24 = .ok (.invokestatic 281, 3) := by decide +kernel
theorem dX25_begins_27 : decode cX25_begins 27 = .ok (.ifCond .ne 43, 3) := by decide +kernel
theorem dX25_begins_30 : decode cX25_begins 30 = .ok (.aload_n 1, 1) := by decide +kernel
theorem dX25_begins_31 : decode cX25_begins 31 = .ok (.ldc_w 289, 3) := by decide +kernel
theorem dX25_begins_34 : decode cX25_begins 34 = .ok (.invokestatic 281, 3) := by decide +kernel
theorem dX25_begins_37 : decode cX25_begins 37 = .ok (.ifCond .ne 33, 3) := by decide +kernel
theorem dX25_begins_40 : decode cX25_begins 40 = .ok (.aload_n 1, 1) := by decide +kernel
theorem dX25_begins_41 : decode cX25_begins 41 = .ok (.ldc_w 291, 3) := by decide +kernel
theorem dX25_begins_44 : decode cX25_begins 44 = .ok (.invokestatic 281, 3) := by decide +kernel
theorem dX25_begins_47 : decode cX25_begins 47 = .ok (.ifCond .ne 23, 3) := by decide +kernel
theorem dX25_begins_50 : decode cX25_begins 50 = .ok (.aload_n 1, 1) := by decide +kernel
theorem dX25_begins_51 : decode cX25_begins 51 = .ok (.ldc_w 293, 3) := by decide +kernel
theorem dX25_begins_54 : decode cX25_begins 54 = .ok (.invokestatic 281, 3) := by decide +kernel
theorem dX25_begins_57 : decode cX25_begins 57 = .ok (.ifCond .ne 13, 3) := by decide +kernel
theorem dX25_begins_60 : decode cX25_begins 60 = .ok (.aload_n 1, 1) := by decide +kernel
theorem dX25_begins_61 : decode cX25_begins 61 = .ok (.ldc_w 295, 3) := by decide +kernel
theorem dX25_begins_64 : decode cX25_begins 64 = .ok (.invokestatic 281, 3) := by decide +kernel
theorem dX25_begins_67 : decode cX25_begins 67 = .ok (.ifCond .eq 7, 3) := by decide +kernel
theorem dX25_begins_74 : decode cX25_begins 74 = .ok (.iconst 0, 1) := by decide +kernel
theorem dX25_begins_75 : decode cX25_begins 75 = .ok (.ireturn, 1) := by decide +kernel
theorem dX25_closes_0 : decode cX25_closes 0 = .ok (.aload_n 1, 1) := by decide +kernel
theorem dX25_closes_1 : decode cX25_closes 1 = .ok (.ldc_w 297, 3) := by decide +kernel
theorem dX25_closes_4 : decode cX25_closes 4 = .ok (.invokestatic 281, 3) := by decide +kernel
theorem dX25_closes_7 : decode cX25_closes 7 = .ok (.ifCond .ne 83, 3) := by decide +kernel
theorem dX25_closes_10 : decode cX25_closes 10 = .ok (.aload_n 1, 1) := by decide +kernel
theorem dX25_closes_11 : decode cX25_closes 11 = .ok (.ldc_w 299, 3) := by decide +kernel
theorem dX25_closes_14 : decode cX25_closes 14 = .ok (.invokestatic 281, 3) := by decide +kernel
theorem dX25_closes_17 : decode cX25_closes 17 = .ok (.ifCond .ne 73, 3) := by decide +kernel
theorem dX25_closes_20 : decode cX25_closes 20 = .ok (.aload_n 1, 1) := by decide +kernel
theorem dX25_closes_21 : decode cX25_closes 21 = .ok (.ldc_w 301, 3) := by decide +kernel
theorem dX25_closes_24 : decode cX25_closes 24 = .ok (.invokestatic 281, 3) := by decide +kernel
theorem dX25_closes_27 : decode cX25_closes 27 = .ok (.ifCond .ne 63, 3) := by decide +kernel
theorem dX25_closes_30 : decode cX25_closes 30 = .ok (.aload_n 1, 1) := by decide +kernel
theorem dX25_closes_31 : decode cX25_closes 31 = .ok (.ldc_w 303, 3) := by decide +kernel
theorem dX25_closes_34 : decode cX25_closes 34 = .ok (.invokestatic 281, 3) := by decide +kernel
theorem dX25_closes_37 : decode cX25_closes 37 = .ok (.ifCond .ne 53, 3) := by decide +kernel
theorem dX25_closes_40 : decode cX25_closes 40 = .ok (.aload_n 1, 1) := by decide +kernel
theorem dX25_closes_41 : decode cX25_closes 41 = .ok (.ldc_w 305, 3) := by decide +kernel
theorem dX25_closes_44 : decode cX25_closes 44 = .ok (.invokestatic 281, 3) := by decide +kernel
theorem dX25_closes_47 : decode cX25_closes 47 = .ok (.ifCond .ne 43, 3) := by decide +kernel
theorem dX25_closes_50 : decode cX25_closes 50 = .ok (.aload_n 1, 1) := by decide +kernel
theorem dX25_closes_51 : decode cX25_closes 51 = .ok (.ldc_w 307, 3) := by decide +kernel
theorem dX25_closes_54 : decode cX25_closes 54 = .ok (.invokestatic 281, 3) := by decide +kernel
theorem dX25_closes_57 : decode cX25_closes 57 = .ok (.ifCond .ne 33, 3) := by decide +kernel
theorem dX25_closes_60 : decode cX25_closes 60 = .ok (.aload_n 1, 1) := by decide +kernel
theorem dX25_closes_61 : decode cX25_closes 61 = .ok (.ldc_w 309, 3) := by decide +kernel
theorem dX25_closes_64 : decode cX25_closes 64 = .ok (.invokestatic 281, 3) := by decide +kernel
theorem dX25_closes_67 : decode cX25_closes 67 = .ok (.ifCond .ne 23, 3) := by decide +kernel
theorem dX25_closes_70 : decode cX25_closes 70 = .ok (.aload_n 1, 1) := by decide +kernel
theorem dX25_closes_71 : decode cX25_closes 71 = .ok (.ldc_w 311, 3) := by decide +kernel
theorem dX25_closes_74 : decode cX25_closes 74 = .ok (.invokestatic 281, 3) := by decide +kernel
theorem dX25_closes_77 : decode cX25_closes 77 = .ok (.ifCond .ne 13, 3) := by decide +kernel
theorem dX25_closes_80 : decode cX25_closes 80 = .ok (.aload_n 1, 1) := by decide +kernel
theorem dX25_closes_81 : decode cX25_closes 81 = .ok (.ldc_w 312, 3) := by decide +kernel
theorem dX25_closes_84 : decode cX25_closes 84 = .ok (.invokestatic 281, 3) := by decide +kernel
theorem dX25_closes_87 : decode cX25_closes 87 = .ok (.ifCond .eq 7, 3) := by decide +kernel
theorem dX25_closes_94 : decode cX25_closes 94 = .ok (.iconst 0, 1) := by decide +kernel
theorem dX25_closes_95 : decode cX25_closes 95 = .ok (.ireturn, 1) := by decide +kernel
theorem dX25_aliases_0 : decode cX25_aliases 0 = .ok (.iconst 1, 1) := by decide +kernel
theorem dX25_aliases_1 : decode cX25_aliases 1 = .ok (.istore_n 3, 1) := by decide +kernel
theorem dX25_aliases_2 : decode cX25_aliases 2 = .ok (.iload_n 3, 1) := by decide +kernel
theorem dX25_aliases_3 : decode cX25_aliases 3 = .ok (.ifCond .eq 205, 3) := by decide +kernel
theorem dX25_aliases_6 : decode cX25_aliases 6 = .ok (.aload_n 0, 1) := by decide +kernel
theorem dX25_aliases_7 : decode cX25_aliases 7 = .ok (.getfield 190, 3) := by decide +kernel
theorem dX25_aliases_10 : decode cX25_aliases 10 = .ok (.bipush 10, 2) := by decide +kernel
theorem dX25_aliases_12 : decode cX25_aliases 12 = .ok (.if_icmp .ne 196, 3) := by decide +kernel
theorem dX25_aliases_15 : decode cX25_aliases 15 = .ok (.iload_n 1, 1) := by decide +kernel
theorem dX25_aliases_16 : decode cX25_aliases 16 = .ok (.ifCond .ne 10, 3) := by decide +kernel
theorem dX25_aliases_19 : decode cX25_aliases 19 = .ok (.aload_n 0, 1) := by decide +kernel
theorem dX25_aliases_20 : decode cX25_aliases 20 = .ok (.getfield 203, 3) := by decide +kernel
theorem dX25_aliases_23 : decode cX25_aliases 23 = .ok (.ifCond .eq 185, 3) := by decide +kernel
theorem dX25_aliases_26 : decode cX25_aliases 26 = .ok (.aload_n 0, 1) := by decide +kernel
theorem dX25_aliases_27 : decode cX25_aliases 27 = .ok (.invokevirtual 262, 3) := by decide +kernel
theorem dX25_aliases_30 : decode cX25_aliases 30 = .ok (.astore 4, 2) := by decide +kernel
theorem dX25_aliases_32 : decode cX25_aliases 32 = .ok (.aload 4, 2) := by decide +kernel
theorem dX25_aliases_34 : decode cX25_aliases 34 = .ok (.ifnull 26, 3) := by decide +kernel
theorem dX25_aliases_37 : decode cX25_aliases 37 = .ok (.iload_n 2, 1) := by decide +kernel
theorem dX25_aliases_38 : decode cX25_aliases 38 = .ok (.ifCond .eq 10, 3) := by decide +kernel
theorem dX25_aliases_41 : decode cX25_aliases 41 = .ok (.aload_n 0, 1) := by decide +kernel
theorem dX25_aliases_42 : decode cX25_aliases 42 = .ok (.invokevirtual 314, 3) := by decide +kernel
theorem dX25_aliases_45 : decode cX25_aliases 45 = .ok (.ifCond .ne 15, 3) := by decide +kernel
theorem dX25_aliases_48 : decode cX25_aliases 48 = .ok (.aload 4, 2) := by decide +kernel
theorem dX25_aliases_50 : decode cX25_aliases 50 = .ok (.invokestatic 318, 3) := by decide +kernel
theorem dX25_aliases_53 : decode cX25_aliases 53 = .ok (.ifCond .eq 7, 3) := by decide +kernel
theorem dX25_aliases_56 : decode cX25_aliases 56 = .ok (.iconst 1, 1) := by decide +kernel
theorem dX25_aliases_57 : decode cX25_aliases 57 = .ok (.goto 4, 3) := by decide +kernel
theorem dX25_aliases_61 : decode cX25_aliases 61 = .ok (.istore_n 3, 1) := by decide +kernel
theorem dX25_aliases_62 : decode cX25_aliases 62 = .ok (.iload_n 3, 1) := by decide +kernel
theorem dX25_aliases_63 : decode cX25_aliases 63 = .ok (.ifCond .eq 19, 3) := by decide +kernel
theorem dX25_aliases_66 : decode cX25_aliases 66 = .ok (.aload_n 0, 1) := by decide +kernel
theorem dX25_aliases_67 : decode cX25_aliases 67 = .ok (.getfield 9, 3) := by decide +kernel
theorem dX25_aliases_70 : decode cX25_aliases 70 = .ok (.getfield 321, 3) := by decide +kernel
theorem dX25_aliases_73 : decode cX25_aliases 73 = .ok (.aload 4, 2) := by decide +kernel
theorem dX25_aliases_75 : decode cX25_aliases 75 = .ok (.iconst 0, 1) := by decide +kernel
theorem dX25_aliases_76 : decode cX25_aliases 76 = .ok (.invokevirtual 324, 3) := by decide +kernel
theorem dX25_aliases_79 : decode cX25_aliases 79 = .ok (.goto 4, 3) := by decide +kernel
theorem dX25_aliases_83 : decode cX25_aliases 83 = .ok (.astore 5, 2) := by decide +kernel
theorem dX25_aliases_85 : decode cX25_aliases 85 = .ok (.aload 5, 2) := by decide +kernel
theorem dX25_aliases_87 : decode cX25_aliases 87 = .ok (.ifnull 24, 3) := by decide +kernel
theorem dX25_aliases_90 : decode cX25_aliases 90 = .ok (.aload 5, 2) := by decide +kernel
theorem dX25_aliases_92 : decode cX25_aliases 92 = .ok (.getfield 330, 3) := by decide +kernel
theorem dX25_aliases_95 : decode cX25_aliases 95 = .ok (.ifCond .eq 16, 3) := by decide +kernel
theorem dX25_aliases_98 : decode cX25_aliases 98 = .ok (.aload_n 0, 1) := by decide +kernel
theorem dX25_aliases_99 : decode cX25_aliases 99 = .ok (.aload 5, 2) := by decide +kernel
theorem dX25_aliases_101 : decode cX25_aliases 101 = .ok (.invokevirtual 335, 3) := by decide +kernel
theorem dX25_aliases_104 : decode cX25_aliases 104 = .ok (.ifCond .eq 7, 3) := by decide +kernel
theorem dX25_aliases_107 : decode cX25_aliases 107 = .ok (.iconst 1, 1) := by decide +kernel
theorem dX25_aliases_108 : decode cX25_aliases 108 = .ok (.goto 4, 3) := by decide +kernel
theorem dX25_aliases_112 : decode cX25_aliases 112 = .ok (.istore_n 3, 1) := by decide +kernel
theorem dX25_aliases_113 : decode cX25_aliases 113 = .ok (.iload_n 3, 1) := by decide +kernel
theorem dX25_aliases_114 : decode cX25_aliases 114 = .ok (.ifCond .ne 4, 3) := by decide +kernel
theorem dX25_aliases_118 : decode cX25_aliases 118 = .ok (.aload_n 0, 1) := by decide +kernel
theorem dX25_aliases_119 : decode cX25_aliases 119 = .ok (.getfield 9, 3) := by decide +kernel
theorem dX25_aliases_122 : decode cX25_aliases 122 = .ok (.aload 5, 2) := by decide +kernel
theorem dX25_aliases_124 : decode cX25_aliases 124 = .ok (.getfield 339, 3) := by decide +kernel
theorem dX25_aliases_127 : decode cX25_aliases 127 = .ok (.arraylength, 1) := by decide +kernel
theorem dX25_aliases_128 : decode cX25_aliases 128 = .ok (.invokevirtual 342, 3) := by decide +kernel
theorem dX25_aliases_131 : decode cX25_aliases 131 = .ok (.new 22, 3) := by decide +kernel
theorem dX25_aliases_134 : decode cX25_aliases 134 = .ok (.dup, 1) := by decide +kernel
theorem dX25_aliases_135 : decode cX25_aliases 135 = .ok (.invokespecial 24, 3) := by decide +kernel
theorem dX25_aliases_138 : decode cX25_aliases 138 = .ok (.astore 6, 2) := by decide +kernel
theorem dX25_aliases_140 : decode cX25_aliases 140 = .ok (.aload 6, 2) := by decide +kernel
theorem dX25_aliases_142 : decode cX25_aliases 142 = .ok (.aload 5, 2) := by decide +kernel
theorem dX25_aliases_144 : decode cX25_aliases 144 = .ok (.getfield 339, 3) := by decide +kernel
theorem dX25_aliases_147 : decode cX25_aliases 147 = .ok (.putfield 29, 3) := by decide +kernel
theorem dX25_aliases_150 : decode cX25_aliases 150 = .ok (.aload 6, 2) := by decide +kernel
theorem dX25_aliases_152 : decode cX25_aliases 152 = .ok (.aload 5, 2) := by decide +kernel
theorem dX25_aliases_154 : decode cX25_aliases 154 = .ok (.getfield 339, 3) := by decide +kernel
theorem dX25_aliases_157 : decode cX25_aliases 157 = .ok (.arraylength, 1) := by decide +kernel
theorem dX25_aliases_158 : decode cX25_aliases 158 = .ok (.putfield 33, 3) := by decide +kernel
theorem dX25_aliases_161 : decode cX25_aliases 161 = .ok (.aload 6, 2) := by decide +kernel
theorem dX25_aliases_163 : decode cX25_aliases 163 = .ok (.aload_n 0, 1) := by decide +kernel
theorem dX25_aliases_164 : decode cX25_aliases 164 = .ok (.getfield 193, 3) := by decide +kernel
theorem dX25_aliases_167 : decode cX25_aliases 167 = .ok (.putfield 46, 3) := by decide +kernel
theorem dX25_aliases_170 : decode cX25_aliases 170 = .ok (.aload 6, 2) := by decide +kernel
theorem dX25_aliases_172 : decode cX25_aliases 172 = .ok (.aload 5, 2) := by decide +kernel
theorem dX25_aliases_174 : decode cX25_aliases 174 = .ok (.putfield 345, 3) := by decide +kernel
theorem dX25_aliases_177 : decode cX25_aliases 177 = .ok (.aload 6, 2) := by decide +kernel
theorem dX25_aliases_179 : decode cX25_aliases 179 = .ok (.aload_n 0, 1) := by decide +kernel
theorem dX25_aliases_180 : decode cX25_aliases 180 = .ok (.getfield 25, 3) := by decide +kernel
theorem dX25_aliases_183 : decode cX25_aliases 183 = .ok (.putfield 229, 3) := by decide +kernel
theorem dX25_aliases_186 : decode cX25_aliases 186 = .ok (.aload 6, 2) := by decide +kernel
theorem dX25_aliases_188 : decode cX25_aliases 188 = .ok (.aload_n 0, 1) := by decide +kernel
theorem dX25_aliases_189 : decode cX25_aliases 189 = .ok (.getfield 200, 3) := by decide +kernel
theorem dX25_aliases_192 : decode cX25_aliases 192 = .ok (.putfield 36, 3) := by decide +kernel
theorem dX25_aliases_195 : decode cX25_aliases 195 = .ok (.aload_n 0, 1) := by decide +kernel
theorem dX25_aliases_196 : decode cX25_aliases 196 = .ok (.aload 6, 2) := by decide +kernel
theorem dX25_aliases_198 : decode cX25_aliases 198 = .ok (.putfield 25, 3) := by decide +kernel
theorem dX25_aliases_201 : decode cX25_aliases 201 = .ok (.aload_n 0, 1) := by decide +kernel
theorem dX25_aliases_202 : decode cX25_aliases 202 = .ok (.invokevirtual 206, 3) := by decide +kernel
theorem dX25_isFree_0 : decode cX25_isFree 0 = .ok (.iconst 0, 1) := by decide +kernel
theorem dX25_isFree_1 : decode cX25_isFree 1 = .ok (.istore_n 2, 1) := by decide +kernel
theorem dX25_isFree_2 : decode cX25_isFree 2 = .ok (.iconst 1, 1) := by decide +kernel
theorem dX25_isFree_3 : decode cX25_isFree 3 = .ok (.istore_n 3, 1) := by decide +kernel
theorem dX25_isFree_4 : decode cX25_isFree 4 = .ok (.aload_n 0, 1) := by decide +kernel
theorem dX25_isFree_5 : decode cX25_isFree 5 = .ok (.getfield 200, 3) := by decide +kernel
theorem dX25_isFree_8 : decode cX25_isFree 8 = .ok (.astore 4, 2) := by decide +kernel
theorem dX25_isFree_10 : decode cX25_isFree 10 = .ok (.aload 4, 2) := by decide +kernel
theorem dX25_isFree_12 : decode cX25_isFree 12 = .ok (.ifnull 48, 3) := by decide +kernel
theorem dX25_isFree_15 : decode cX25_isFree 15 = .ok (.iload_n 3, 1) := by decide +kernel
theorem dX25_isFree_16 : decode cX25_isFree 16 = .ok (.ifCond .eq 16, 3) := by decide +kernel
theorem dX25_isFree_19 : decode cX25_isFree 19 = .ok (.aload 4, 2) := by decide +kernel
theorem dX25_isFree_21 : decode cX25_isFree 21 = .ok (.getfield 345, 3) := by decide +kernel
theorem dX25_isFree_24 : decode cX25_isFree 24 = .ok (.aload_n 1, 1) := by decide +kernel
theorem dX25_isFree_25 : decode cX25_isFree 25 = .ok (.if_acmp .eq 7, 3) := by decide +kernel
theorem dX25_isFree_28 : decode cX25_isFree 28 = .ok (.iconst 1, 1) := by decide +kernel
theorem dX25_isFree_29 : decode cX25_isFree 29 = .ok (.goto 4, 3) := by decide +kernel
theorem dX25_isFree_33 : decode cX25_isFree 33 = .ok (.istore_n 3, 1) := by decide +kernel
theorem dX25_isFree_34 : decode cX25_isFree 34 = .ok (.iload_n 2, 1) := by decide +kernel
theorem dX25_isFree_35 : decode cX25_isFree 35 = .ok (.aload 4, 2) := by decide +kernel
theorem dX25_isFree_37 : decode cX25_isFree 37 = .ok (.getfield 345, 3) := by decide +kernel
theorem dX25_isFree_40 : decode cX25_isFree 40 = .ok (.ifnonnull 7, 3) := by decide +kernel
theorem dX25_isFree_43 : decode cX25_isFree 43 = .ok (.iconst 0, 1) := by decide +kernel
theorem dX25_isFree_44 : decode cX25_isFree 44 = .ok (.goto 4, 3) := by decide +kernel
theorem dX25_isFree_48 : decode cX25_isFree 48 = .ok (.iadd, 1) := by decide +kernel
theorem dX25_isFree_49 : decode cX25_isFree 49 = .ok (.istore_n 2, 1) := by decide +kernel
theorem dX25_isFree_50 : decode cX25_isFree 50 = .ok (.aload 4, 2) := by decide +kernel
theorem dX25_isFree_52 : decode cX25_isFree 52 = .ok (.getfield 36, 3) := by decide +kernel
theorem dX25_isFree_55 : decode cX25_isFree 55 = .ok (.astore 4, 2) := by decide +kernel
theorem dX25_isFree_57 : decode cX25_isFree 57 = .ok (.goto (-47), 3) := by decide +kernel
theorem dX25_isFree_60 : decode cX25_isFree 60 = .ok (.iload_n 3, 1) := by decide +kernel
theorem dX25_isFree_61 : decode cX25_isFree 61 = .ok (.ifCond .eq 13, 3) := by decide +kernel
theorem dX25_isFree_64 : decode cX25_isFree 64 = .ok (.iload_n 2, 1) := by decide +kernel
theorem dX25_isFree_65 : decode cX25_isFree 65 = .ok (.bipush 10, 2) := by decide +kernel
theorem dX25_isFree_67 : decode cX25_isFree 67 = .ok (.if_icmp .ge 7, 3) := by decide +kernel
theorem dX25_isFree_70 : decode cX25_isFree 70 = .ok (.iconst 1, 1) := by decide +kernel
theorem dX25_isFree_71 : decode cX25_isFree 71 = .ok (.goto 4, 3) := by decide +kernel
theorem dX25_isFree_75 : decode cX25_isFree 75 = .ok (.ireturn, 1) := by decide +kernel
theorem dX25_settle_0 : decode cX25_settle 0 = .ok (.aload_n 0, 1) := by decide +kernel
theorem dX25_settle_1 : decode cX25_settle 1 = .ok (.iconst 1, 1) := by decide +kernel
theorem dX25_settle_2 : decode cX25_settle 2 = .ok (.iconst 1, 1) := by decide +kernel
theorem dX25_settle_3 : decode cX25_settle 3 = .ok (.invokevirtual 247, 3) := by decide +kernel
theorem dX25_script_0 : decode cX25_script 0 = .ok (.aload_n 0, 1) := by decide +kernel
theorem dX25_script_1 : decode cX25_script 1 = .ok (.invokevirtual 397, 3) := by decide +kernel
theorem dX26_init_0 : decode cX26_init 0 = .ok (.aload_n 0, 1) := by decide +kernel
theorem dX26_init_1 : decode cX26_init 1 = .ok (.invokespecial 1, 3) := by decide +kernel
theorem dX26_init_4 : decode cX26_init 4 = .ok (.aload_n 0, 1) := by decide +kernel
theorem dX26_init_5 : decode cX26_init 5 = .ok (.new 7, 3) := by decide +kernel
theorem dX26_init_8 : decode cX26_init 8 = .ok (.dup, 1) := by decide +kernel
theorem dX26_init_9 : decode cX26_init 9 = .ok (.invokespecial 9, 3) := by decide +kernel
theorem dX26_init_12 : decode cX26_init 12 = .ok (.putfield 10, 3) := by decide +kernel
theorem dX26_init_15 : decode cX26_init 15 = .ok (.aload_n 0, 1) := by decide +kernel
theorem dX26_init_16 : decode cX26_init 16 = .ok (.sipush 512, 3) := by decide +kernel
theorem dX26_init_19 : decode cX26_init 19 = .ok (.anewarray 16, 3) := by decide +kernel
theorem dX26_init_22 : decode cX26_init 22 = .ok (.putfield 18, 3) := by decide +kernel
theorem dX26_init_25 : decode cX26_init 25 = .ok (.return_, 1) := by decide +kernel
theorem dX26_chain_0 : decode cX26_chain 0 = .ok (.iconst 0, 1) := by decide +kernel
theorem dX26_chain_1 : decode cX26_chain 1 = .ok (.istore_n 1, 1) := by decide +kernel
theorem dX26_chain_2 : decode cX26_chain 2 = .ok (.iconst 0, 1) := by decide +kernel
theorem dX26_chain_3 : decode cX26_chain 3 = .ok (.istore_n 2, 1) := by decide +kernel
theorem dX26_chain_4 : decode cX26_chain 4 = .ok (.iload_n 2, 1) := by decide +kernel
theorem dX26_chain_5 : decode cX26_chain 5 = .ok (.aload_n 0, 1) := by decide +kernel
theorem dX26_chain_6 : decode cX26_chain 6 = .ok (.arraylength, 1) := by decide +kernel
theorem dX26_chain_7 : decode cX26_chain 7 = .ok (.if_icmp .ge 18, 3) := by decide +kernel
theorem dX26_chain_10 : decode cX26_chain 10 = .ok (.bipush 31, 2) := by decide +kernel
theorem dX26_chain_12 : decode cX26_chain 12 = .ok (.iload_n 1, 1) := by decide +kernel
theorem dX26_chain_13 : decode cX26_chain 13 = .ok (.imul, 1) := by decide +kernel
theorem dX26_chain_14 : decode cX26_chain 14 = .ok (.aload_n 0, 1) := by decide +kernel
theorem dX26_chain_15 : decode cX26_chain 15 = .ok (.iload_n 2, 1) := by decide +kernel
theorem dX26_chain_16 : decode cX26_chain 16 = .ok (.baload, 1) := by decide +kernel
theorem dX26_chain_17 : decode cX26_chain 17 = .ok (.iadd, 1) := by decide +kernel
theorem dX26_chain_18 : decode cX26_chain 18 = .ok (.istore_n 1, 1) := by decide +kernel
theorem dX26_chain_19 : decode cX26_chain 19 = .ok (.iinc 2 1, 3) := by decide +kernel
theorem dX26_chain_22 : decode cX26_chain 22 = .ok (.goto (-18), 3) := by decide +kernel
theorem dX26_chain_25 : decode cX26_chain 25 = .ok (.iload_n 1, 1) := by decide +kernel
theorem dX26_chain_26 : decode cX26_chain 26 = .ok (.iload_n 1, 1) := by decide +kernel
theorem dX26_chain_27 : decode cX26_chain 27 = .ok (.bipush 9, 2) := by decide +kernel
theorem dX26_chain_29 : decode cX26_chain 29 = .ok (.iushr, 1) := by decide +kernel
theorem dX26_chain_30 : decode cX26_chain 30 = .ok (.ixor, 1) := by decide +kernel
theorem dX26_chain_31 : decode cX26_chain 31 = .ok (.sipush 511, 3) := by decide +kernel
theorem dX26_chain_34 : decode cX26_chain 34 = .ok (.iand, 1) := by decide +kernel
theorem dX26_chain_35 : decode cX26_chain 35 = .ok (.ireturn, 1) := by decide +kernel
theorem dX26_find_0 : decode cX26_find 0 = .ok (.aload_n 1, 1) := by decide +kernel
theorem dX26_find_1 : decode cX26_find 1 = .ok (.invokestatic 22, 3) := by decide +kernel
theorem dX26_find_4 : decode cX26_find 4 = .ok (.istore_n 3, 1) := by decide +kernel
theorem dX26_find_5 : decode cX26_find 5 = .ok (.aload_n 0, 1) := by decide +kernel
theorem dX26_find_6 : decode cX26_find 6 = .ok (.getfield 18, 3) := by decide +kernel
theorem dX26_find_9 : decode cX26_find 9 = .ok (.iload_n 3, 1) := by decide +kernel
theorem dX26_find_10 : decode cX26_find 10 = .ok (.aaload, 1) := by decide +kernel
theorem dX26_find_11 : decode cX26_find 11 = .ok (.astore 4, 2) := by decide +kernel
theorem dX26_find_13 : decode cX26_find 13 = .ok (.aload 4, 2) := by decide +kernel
theorem dX26_find_15 : decode cX26_find 15 = .ok (.ifnull 25, 3) := by decide +kernel
theorem dX26_find_18 : decode cX26_find 18 = .ok (.aload 4, 2) := by decide +kernel
theorem dX26_find_20 : decode cX26_find 20 = .ok (.getfield 26, 3) := by decide +kernel
theorem dX26_find_23 : decode cX26_find 23 = .ok (.aload_n 1, 1) := by decide +kernel
theorem dX26_find_24 : decode cX26_find 24 = .ok (.invokestatic 30, 3) := by decide +kernel
theorem dX26_find_27 : decode cX26_find 27 = .ok (.ifCond .ne 13, 3) := by decide +kernel
theorem dX26_find_40 : decode cX26_find 40 = .ok (.aload 4, 2) := by decide +kernel
theorem dX26_find_42 : decode cX26_find 42 = .ok (.ifnonnull 7, 3) := by decide +kernel
theorem dX26_find_45 : decode cX26_find 45 = .ok (.iload_n 2, 1) := by decide +kernel
theorem dX26_find_46 : decode cX26_find 46 = .ok (.ifCond .ne 6, 3) := by decide +kernel
theorem dX26_find_49 : decode cX26_find 49 = .ok (.aload 4, 2) := by decide +kernel
theorem dX26_find_51 : decode cX26_find 51 = .ok (.areturn, 1) := by decide +kernel
theorem dX26_find_52 : decode cX26_find 52 = .ok (.new 16, 3) := by decide +kernel
theorem dX26_find_55 : decode cX26_find 55 = .ok (.dup, 1) := by decide +kernel
theorem dX26_find_56 : decode cX26_find 56 = .ok (.invokespecial 40, 3) := by decide +kernel
theorem dX26_find_59 : decode cX26_find 59 = .ok (.astore 4, 2) := by decide +kernel
theorem dX26_find_61 : decode cX26_find 61 = .ok (.aload 4, 2) := by decide +kernel
theorem dX26_find_63 : decode cX26_find 63 = .ok (.aload_n 1, 1) := by decide +kernel
theorem dX26_find_64 : decode cX26_find 64 = .ok (.putfield 26, 3) := by decide +kernel
theorem dX26_find_67 : decode cX26_find 67 = .ok (.aload 4, 2) := by decide +kernel
theorem dX26_find_69 : decode cX26_find 69 = .ok (.aload_n 0, 1) := by decide +kernel
theorem dX26_find_70 : decode cX26_find 70 = .ok (.putfield 41, 3) := by decide +kernel
theorem dX26_find_73 : decode cX26_find 73 = .ok (.aload 4, 2) := by decide +kernel
theorem dX26_find_75 : decode cX26_find 75 = .ok (.aload_n 0, 1) := by decide +kernel
theorem dX26_find_76 : decode cX26_find 76 = .ok (.getfield 18, 3) := by decide +kernel
theorem dX26_find_79 : decode cX26_find 79 = .ok (.iload_n 3, 1) := by decide +kernel
theorem dX26_find_80 : decode cX26_find 80 = .ok (.aaload, 1) := by decide +kernel
theorem dX26_find_81 : decode cX26_find 81 = .ok (.putfield 36, 3) := by decide +kernel
theorem dX26_find_84 : decode cX26_find 84 = .ok (.aload_n 0, 1) := by decide +kernel
theorem dX26_find_85 : decode cX26_find 85 = .ok (.getfield 18, 3) := by decide +kernel
theorem dX26_find_88 : decode cX26_find 88 = .ok (.iload_n 3, 1) := by decide +kernel
theorem dX26_find_89 : decode cX26_find 89 = .ok (.aload 4, 2) := by decide +kernel
theorem dX26_find_91 : decode cX26_find 91 = .ok (.aastore, 1) := by decide +kernel
theorem dX26_find_92 : decode cX26_find 92 = .ok (.aload 4, 2) := by decide +kernel
theorem dX26_find_94 : decode cX26_find 94 = .ok (.areturn, 1) := by decide +kernel
theorem dX26_clear_0 : decode cX26_clear 0 = .ok (.iconst 0, 1) := by decide +kernel
theorem dX26_clear_1 : decode cX26_clear 1 = .ok (.istore_n 1, 1) := by decide +kernel
theorem dX26_clear_2 : decode cX26_clear 2 = .ok (.iload_n 1, 1) := by decide +kernel
theorem dX26_clear_3 : decode cX26_clear 3 = .ok (.sipush 512, 3) := by decide +kernel
theorem dX26_clear_6 : decode cX26_clear 6 = .ok (.if_icmp .ge 16, 3) := by decide +kernel
theorem dX26_clear_9 : decode cX26_clear 9 = .ok (.aload_n 0, 1) := by decide +kernel
theorem dX26_clear_10 : decode cX26_clear 10 = .ok (.getfield 18, 3) := by decide +kernel
theorem dX26_clear_13 : decode cX26_clear 13 = .ok (.iload_n 1, 1) := by decide +kernel
theorem dX26_clear_14 : decode cX26_clear 14 = .ok (.aconst_null, 1) := by decide +kernel
theorem dX26_clear_15 : decode cX26_clear 15 = .ok (.aastore, 1) := by decide +kernel
theorem dX26_clear_16 : decode cX26_clear 16 = .ok (.iinc 1 1, 3) := by decide +kernel
theorem dX26_clear_19 : decode cX26_clear 19 = .ok (.goto (-17), 3) := by decide +kernel
theorem dX26_clear_22 : decode cX26_clear 22 = .ok (.aload_n 0, 1) := by decide +kernel
theorem dX26_clear_23 : decode cX26_clear 23 = .ok (.iconst 0, 1) := by decide +kernel
theorem dX26_clear_24 : decode cX26_clear 24 = .ok (.putfield 45, 3) := by decide +kernel
theorem dX26_clear_27 : decode cX26_clear 27 = .ok (.aload_n 0, 1) := by decide +kernel
theorem dX26_clear_28 : decode cX26_clear 28 = .ok (.iconst 0, 1) := by decide +kernel
theorem dX26_clear_29 : decode cX26_clear 29 = .ok (.putfield 49, 3) := by decide +kernel
theorem dX26_clear_32 : decode cX26_clear 32 = .ok (.return_, 1) := by decide +kernel
theorem dX27_init_0 : decode cX27_init 0 = .ok (.aload_n 0, 1) := by decide +kernel
theorem dX27_init_1 : decode cX27_init 1 = .ok (.invokespecial 3, 3) := by decide +kernel
theorem dX27_init_4 : decode cX27_init 4 = .ok (.aload_n 0, 1) := by decide +kernel
theorem dX27_init_5 : decode cX27_init 5 = .ok (.iconst (-1), 1) := by decide +kernel
theorem dX27_init_6 : decode cX27_init 6 = .ok (.putfield 9, 3) := by decide +kernel
theorem dX27_init_9 : decode cX27_init 9 = .ok (.return_, 1) := by decide +kernel
theorem dX28_part_0 : decode cX28_part 0 = .ok (.iload_n 2, 1) := by decide +kernel
theorem dX28_part_1 : decode cX28_part 1 = .ok (.iload_n 1, 1) := by decide +kernel
theorem dX28_part_2 : decode cX28_part 2 = .ok (.isub, 1) := by decide +kernel
theorem dX28_part_3 : decode cX28_part 3 = .ok (.newarray .byte, 2) := by decide +kernel
theorem dX28_part_5 : decode cX28_part 5 = .ok (.astore_n 3, 1) := by decide +kernel
theorem dX28_part_6 : decode cX28_part 6 = .ok (.iload_n 1, 1) := by decide +kernel
theorem dX28_part_7 : decode cX28_part 7 = .ok (.istore 4, 2) := by decide +kernel
theorem dX28_part_9 : decode cX28_part 9 = .ok (.iload 4, 2) := by decide +kernel
theorem dX28_part_11 : decode cX28_part 11 = .ok (.iload_n 2, 1) := by decide +kernel
theorem dX28_part_12 : decode cX28_part 12 = .ok (.if_icmp .ge 19, 3) := by decide +kernel
theorem dX28_part_15 : decode cX28_part 15 = .ok (.aload_n 3, 1) := by decide +kernel
theorem dX28_part_16 : decode cX28_part 16 = .ok (.iload 4, 2) := by decide +kernel
theorem dX28_part_18 : decode cX28_part 18 = .ok (.iload_n 1, 1) := by decide +kernel
theorem dX28_part_19 : decode cX28_part 19 = .ok (.isub, 1) := by decide +kernel
theorem dX28_part_20 : decode cX28_part 20 = .ok (.aload_n 0, 1) := by decide +kernel
theorem dX28_part_21 : decode cX28_part 21 = .ok (.iload 4, 2) := by decide +kernel
theorem dX28_part_23 : decode cX28_part 23 = .ok (.baload, 1) := by decide +kernel
theorem dX28_part_24 : decode cX28_part 24 = .ok (.bastore, 1) := by decide +kernel
theorem dX28_part_25 : decode cX28_part 25 = .ok (.iinc 4 1, 3) := by decide +kernel
theorem dX28_part_28 : decode cX28_part 28 = .ok (.goto (-19), 3) := by decide +kernel
theorem dX28_part_31 : decode cX28_part 31 = .ok (.aload_n 3, 1) := by decide +kernel
theorem dX28_part_32 : decode cX28_part 32 = .ok (.areturn, 1) := by decide +kernel
theorem dX28_same_0 : decode cX28_same 0 = .ok (.aload_n 0, 1) := by decide +kernel
theorem dX28_same_1 : decode cX28_same 1 = .ok (.arraylength, 1) := by decide +kernel
theorem dX28_same_2 : decode cX28_same 2 = .ok (.aload_n 1, 1) := by decide +kernel
theorem dX28_same_3 : decode cX28_same 3 = .ok (.arraylength, 1) := by decide +kernel
theorem dX28_same_4 : decode cX28_same 4 = .ok (.if_icmp .eq 5, 3) := by decide +kernel
theorem dX28_same_9 : decode cX28_same 9 = .ok (.iconst 0, 1) := by decide +kernel
theorem dX28_same_10 : decode cX28_same 10 = .ok (.istore_n 2, 1) := by decide +kernel
theorem dX28_same_11 : decode cX28_same 11 = .ok (.iload_n 2, 1) := by decide +kernel
theorem dX28_same_12 : decode cX28_same 12 = .ok (.aload_n 0, 1) := by decide +kernel
theorem dX28_same_13 : decode cX28_same 13 = .ok (.arraylength, 1) := by decide +kernel
theorem dX28_same_14 : decode cX28_same 14 = .ok (.if_icmp .ge 18, 3) := by decide +kernel
theorem dX28_same_17 : decode cX28_same 17 = .ok (.aload_n 0, 1) := by decide +kernel
theorem dX28_same_18 : decode cX28_same 18 = .ok (.iload_n 2, 1) := by decide +kernel
theorem dX28_same_19 : decode cX28_same 19 = .ok (.baload, 1) := by decide +kernel
theorem dX28_same_20 : decode cX28_same 20 = .ok (.aload_n 1, 1) := by decide +kernel
theorem dX28_same_21 : decode cX28_same 21 = .ok (.iload_n 2, 1) := by decide +kernel
theorem dX28_same_22 : decode cX28_same 22 = .ok (.baload, 1) := by decide +kernel
theorem dX28_same_23 : decode cX28_same 23 = .ok (.if_icmp .ne 9, 3) := by decide +kernel
theorem dX28_same_26 : decode cX28_same 26 = .ok (.iinc 2 1, 3) := by decide +kernel
theorem dX28_same_29 : decode cX28_same 29 = .ok (.goto (-18), 3) := by decide +kernel
theorem dX28_same_32 : decode cX28_same 32 = .ok (.iload_n 2, 1) := by decide +kernel
theorem dX28_same_33 : decode cX28_same 33 = .ok (.aload_n 0, 1) := by decide +kernel
theorem dX28_same_34 : decode cX28_same 34 = .ok (.arraylength, 1) := by decide +kernel
theorem dX28_same_35 : decode cX28_same 35 = .ok (.if_icmp .ne 7, 3) := by decide +kernel
theorem dX28_same_38 : decode cX28_same 38 = .ok (.iconst 1, 1) := by decide +kernel
theorem dX28_same_39 : decode cX28_same 39 = .ok (.goto 4, 3) := by decide +kernel
theorem dX28_same_43 : decode cX28_same 43 = .ok (.ireturn, 1) := by decide +kernel
theorem dX28_is_0 : decode cX28_is 0 = .ok (.aload_n 0, 1) := by decide +kernel
theorem dX28_is_1 : decode cX28_is 1 = .ok (.ifnull 12, 3) := by decide +kernel
theorem dX28_is_4 : decode cX28_is 4 = .ok (.aload_n 0, 1) := by decide +kernel
theorem dX28_is_5 : decode cX28_is 5 = .ok (.arraylength, 1) := by decide +kernel
theorem dX28_is_6 : decode cX28_is 6 = .ok (.aload_n 1, 1) := by decide +kernel
theorem dX28_is_7 : decode cX28_is 7 = .ok (.invokevirtual 1, 3) := by decide +kernel
theorem dX28_is_10 : decode cX28_is 10 = .ok (.if_icmp .eq 5, 3) := by decide +kernel
theorem dX28_is_13 : decode cX28_is 13 = .ok (.iconst 0, 1) := by decide +kernel
theorem dX28_is_14 : decode cX28_is 14 = .ok (.ireturn, 1) := by decide +kernel
theorem dX28_is_15 : decode cX28_is 15 = .ok (.iconst 0, 1) := by decide +kernel
theorem dX28_is_16 : decode cX28_is 16 = .ok (.istore_n 2, 1) := by decide +kernel
theorem dX28_is_17 : decode cX28_is 17 = .ok (.iload_n 2, 1) := by decide +kernel
theorem dX28_is_18 : decode cX28_is 18 = .ok (.aload_n 0, 1) := by decide +kernel
theorem dX28_is_19 : decode cX28_is 19 = .ok (.arraylength, 1) := by decide +kernel
theorem dX28_is_20 : decode cX28_is 20 = .ok (.if_icmp .ge 20, 3) := by decide +kernel
theorem dX28_is_23 : decode cX28_is 23 = .ok (.aload_n 0, 1) := by decide +kernel
theorem dX28_is_24 : decode cX28_is 24 = .ok (.iload_n 2, 1) := by decide +kernel
theorem dX28_is_25 : decode cX28_is 25 = .ok (.baload, 1) := by decide +kernel
theorem dX28_is_26 : decode cX28_is 26 = .ok (.aload_n 1, 1) := by decide +kernel
theorem dX28_is_27 : decode cX28_is 27 = .ok (.iload_n 2, 1) := by decide +kernel
theorem dX28_is_28 : decode cX28_is 28 = .ok (.invokevirtual 7, 3) := by decide +kernel
theorem dX28_is_31 : decode cX28_is 31 = .ok (.if_icmp .ne 9, 3) := by decide +kernel
theorem dX28_is_40 : decode cX28_is 40 = .ok (.iload_n 2, 1) := by decide +kernel
theorem dX28_is_41 : decode cX28_is 41 = .ok (.aload_n 0, 1) := by decide +kernel
theorem dX28_is_42 : decode cX28_is 42 = .ok (.arraylength, 1) := by decide +kernel
theorem dX28_is_43 : decode cX28_is 43 = .ok (.if_icmp .ne 7, 3) := by decide +kernel
theorem dX28_is_50 : decode cX28_is 50 = .ok (.iconst 0, 1) := by decide +kernel
theorem dX28_is_51 : decode cX28_is 51 = .ok (.ireturn, 1) := by decide +kernel
theorem dX28_oneByte_0 : decode cX28_oneByte 0 = .ok (.aload_n 0, 1) := by decide +kernel
theorem dX28_oneByte_1 : decode cX28_oneByte 1 = .ok (.getfield 27, 3) := by decide +kernel
theorem dX28_oneByte_4 : decode cX28_oneByte 4 = .ok (.iload_n 1, 1) := by decide +kernel
theorem dX28_oneByte_5 : decode cX28_oneByte 5 = .ok (.aaload, 1) := by decide +kernel
theorem dX28_oneByte_6 : decode cX28_oneByte 6 = .ok (.ifnonnull 22, 3) := by decide +kernel
theorem dX28_oneByte_9 : decode cX28_oneByte 9 = .ok (.aload_n 0, 1) := by decide +kernel
theorem dX28_oneByte_10 : decode cX28_oneByte 10 = .ok (.getfield 27, 3) := by decide +kernel
theorem dX28_oneByte_13 : decode cX28_oneByte 13 = .ok (.iload_n 1, 1) := by decide +kernel
theorem dX28_oneByte_14 : decode cX28_oneByte 14 = .ok (.iconst 1, 1) := by decide +kernel
theorem dX28_oneByte_15 : decode cX28_oneByte 15 = .ok (.newarray .byte, 2) := by decide +kernel
theorem dX28_oneByte_17 : decode cX28_oneByte 17 = .ok (.aastore, 1) := by decide +kernel
theorem dX28_oneByte_18 : decode cX28_oneByte 18 = .ok (.aload_n 0, 1) := by decide +kernel
theorem dX28_oneByte_19 : decode cX28_oneByte 19 = .ok (.getfield 27, 3) := by decide +kernel
theorem dX28_oneByte_22 : decode cX28_oneByte 22 = .ok (.iload_n 1, 1) := by decide +kernel
theorem dX28_oneByte_23 : decode cX28_oneByte 23 = .ok (.aaload, 1) := by decide +kernel
theorem dX28_oneByte_24 : decode cX28_oneByte 24 = .ok (.iconst 0, 1) := by decide +kernel
theorem dX28_oneByte_25 : decode cX28_oneByte 25 = .ok (.iload_n 1, 1) := by decide +kernel
theorem dX28_oneByte_26 : decode cX28_oneByte 26 = .ok (.i2b, 1) := by decide +kernel
theorem dX28_oneByte_27 : decode cX28_oneByte 27 = .ok (.bastore, 1) := by decide +kernel
theorem dX28_oneByte_28 : decode cX28_oneByte 28 = .ok (.aload_n 0, 1) := by decide +kernel
theorem dX28_oneByte_29 : decode cX28_oneByte 29 = .ok (.getfield 27, 3) := by decide +kernel
theorem dX28_oneByte_32 : decode cX28_oneByte 32 = .ok (.iload_n 1, 1) := by decide +kernel
theorem dX28_oneByte_33 : decode cX28_oneByte 33 = .ok (.aaload, 1) := by decide +kernel
theorem dX28_oneByte_34 : decode cX28_oneByte 34 = .ok (.areturn, 1) := by decide +kernel
theorem dX28_rowOf_0 : decode cX28_rowOf 0 = .ok (.iload_n 3, 1) := by decide +kernel
theorem dX28_rowOf_1 : decode cX28_rowOf 1 = .ok (.iload_n 2, 1) := by decide +kernel
theorem dX28_rowOf_2 : decode cX28_rowOf 2 = .ok (.if_icmp .ne 10, 3) := by decide +kernel
theorem dX28_rowOf_12 : decode cX28_rowOf 12 = .ok (.iload_n 3, 1) := by decide +kernel
theorem dX28_rowOf_13 : decode cX28_rowOf 13 = .ok (.iload_n 2, 1) := by decide +kernel
theorem dX28_rowOf_14 : decode cX28_rowOf 14 = .ok (.iconst 1, 1) := by decide +kernel
theorem dX28_rowOf_15 : decode cX28_rowOf 15 = .ok (.iadd, 1) := by decide +kernel
theorem dX28_rowOf_16 : decode cX28_rowOf 16 = .ok (.if_icmp .ne 17, 3) := by decide +kernel
theorem dX28_rowOf_19 : decode cX28_rowOf 19 = .ok (.aload_n 0, 1) := by decide +kernel
theorem dX28_rowOf_20 : decode cX28_rowOf 20 = .ok (.aload_n 1, 1) := by decide +kernel
theorem dX28_rowOf_21 : decode cX28_rowOf 21 = .ok (.iload_n 2, 1) := by decide +kernel
theorem dX28_rowOf_22 : decode cX28_rowOf 22 = .ok (.baload, 1) := by decide +kernel
theorem dX28_rowOf_23 : decode cX28_rowOf 23 = .ok (.sipush 255, 3) := by decide +kernel
theorem dX28_rowOf_26 : decode cX28_rowOf 26 = .ok (.iand, 1) := by decide +kernel
theorem dX28_rowOf_27 : decode cX28_rowOf 27 = .ok (.invokevirtual 34, 3) := by decide +kernel
theorem dX28_rowOf_30 : decode cX28_rowOf 30 = .ok (.goto 9, 3) := by decide +kernel
theorem dX28_rowOf_39 : decode cX28_rowOf 39 = .ok (.areturn, 1) := by decide +kernel
theorem dX28_isLetter_0 : decode cX28_isLetter 0 = .ok (.iload_n 0, 1) := by decide +kernel
theorem dX28_isLetter_1 : decode cX28_isLetter 1 = .ok (.bipush 97, 2) := by decide +kernel
theorem dX28_isLetter_3 : decode cX28_isLetter 3 = .ok (.if_icmp .lt 9, 3) := by decide +kernel
theorem dX28_isLetter_6 : decode cX28_isLetter 6 = .ok (.iload_n 0, 1) := by decide +kernel
theorem dX28_isLetter_7 : decode cX28_isLetter 7 = .ok (.bipush 122, 2) := by decide +kernel
theorem dX28_isLetter_9 : decode cX28_isLetter 9 = .ok (.if_icmp .le 21, 3) := by decide +kernel
theorem dX28_isLetter_30 : decode cX28_isLetter 30 = .ok (.iconst 1, 1) := by decide +kernel
theorem dX28_isLetter_31 : decode cX28_isLetter 31 = .ok (.goto 4, 3) := by decide +kernel
theorem dX28_isLetter_35 : decode cX28_isLetter 35 = .ok (.ireturn, 1) := by decide +kernel
theorem dX28_isDigit_0 : decode cX28_isDigit 0 = .ok (.iload_n 0, 1) := by decide +kernel
theorem dX28_isDigit_1 : decode cX28_isDigit 1 = .ok (.bipush 48, 2) := by decide +kernel
theorem dX28_isDigit_3 : decode cX28_isDigit 3 = .ok (.if_icmp .lt 13, 3) := by decide +kernel
theorem dX28_isDigit_6 : decode cX28_isDigit 6 = .ok (.iload_n 0, 1) := by decide +kernel
theorem dX28_isDigit_7 : decode cX28_isDigit 7 = .ok (.bipush 57, 2) := by decide +kernel
theorem dX28_isDigit_9 : decode cX28_isDigit 9 = .ok (.if_icmp .gt 7, 3) := by decide +kernel
theorem dX28_isDigit_16 : decode cX28_isDigit 16 = .ok (.iconst 0, 1) := by decide +kernel
theorem dX28_isDigit_17 : decode cX28_isDigit 17 = .ok (.ireturn, 1) := by decide +kernel
theorem dX28_isName_0 : decode cX28_isName 0 = .ok (.aload_n 0, 1) := by decide +kernel
theorem dX28_isName_1 : decode cX28_isName 1 = .ok (.ifnull 22, 3) := by decide +kernel
theorem dX28_isName_4 : decode cX28_isName 4 = .ok (.aload_n 0, 1) := by decide +kernel
theorem dX28_isName_5 : decode cX28_isName 5 = .ok (.iconst 0, 1) := by decide +kernel
theorem dX28_isName_6 : decode cX28_isName 6 = .ok (.invokestatic 42, 3) := by decide +kernel
theorem dX28_isName_9 : decode cX28_isName 9 = .ok (.aload_n 0, 1) := by decide +kernel
theorem dX28_isName_10 : decode cX28_isName 10 = .ok (.arraylength, 1) := by decide +kernel
theorem dX28_isName_11 : decode cX28_isName 11 = .ok (.if_icmp .ne 12, 3) := by decide +kernel
theorem dX28_isName_14 : decode cX28_isName 14 = .ok (.aload_n 0, 1) := by decide +kernel
theorem dX28_isName_15 : decode cX28_isName 15 = .ok (.arraylength, 1) := by decide +kernel
theorem dX28_isName_16 : decode cX28_isName 16 = .ok (.ifCond .le 7, 3) := by decide +kernel
theorem dX28_isName_19 : decode cX28_isName 19 = .ok (.iconst 1, 1) := by decide +kernel
theorem dX28_isName_20 : decode cX28_isName 20 = .ok (.goto 4, 3) := by decide +kernel
theorem dX28_isName_24 : decode cX28_isName 24 = .ok (.ireturn, 1) := by decide +kernel
theorem dX28_nameEnd_0 : decode cX28_nameEnd 0 = .ok (.iload_n 1, 1) := by decide +kernel
theorem dX28_nameEnd_1 : decode cX28_nameEnd 1 = .ok (.aload_n 0, 1) := by decide +kernel
theorem dX28_nameEnd_2 : decode cX28_nameEnd 2 = .ok (.arraylength, 1) := by decide +kernel
theorem dX28_nameEnd_3 : decode cX28_nameEnd 3 = .ok (.if_icmp .ge 12, 3) := by decide +kernel
theorem dX28_nameEnd_6 : decode cX28_nameEnd 6 = .ok (.aload_n 0, 1) := by decide +kernel
theorem dX28_nameEnd_7 : decode cX28_nameEnd 7 = .ok (.iload_n 1, 1) := by decide +kernel
theorem dX28_nameEnd_8 : decode cX28_nameEnd 8 = .ok (.baload, 1) := by decide +kernel
theorem dX28_nameEnd_9 : decode cX28_nameEnd 9 = .ok (.invokestatic 46, 3) := by decide +kernel
theorem dX28_nameEnd_12 : decode cX28_nameEnd 12 = .ok (.ifCond .ne 5, 3) := by decide +kernel
theorem dX28_nameEnd_17 : decode cX28_nameEnd 17 = .ok (.iload_n 1, 1) := by decide +kernel
theorem dX28_nameEnd_18 : decode cX28_nameEnd 18 = .ok (.istore_n 2, 1) := by decide +kernel
theorem dX28_nameEnd_19 : decode cX28_nameEnd 19 = .ok (.iload_n 2, 1) := by decide +kernel
theorem dX28_nameEnd_20 : decode cX28_nameEnd 20 = .ok (.aload_n 0, 1) := by decide +kernel
theorem dX28_nameEnd_21 : decode cX28_nameEnd 21 = .ok (.arraylength, 1) := by decide +kernel
theorem dX28_nameEnd_22 : decode cX28_nameEnd 22 = .ok (.if_icmp .ge 27, 3) := by decide +kernel
theorem dX28_nameEnd_25 : decode cX28_nameEnd 25 = .ok (.aload_n 0, 1) := by decide +kernel
theorem dX28_nameEnd_26 : decode cX28_nameEnd 26 = .ok (.iload_n 2, 1) := by decide +kernel
theorem dX28_nameEnd_27 : decode cX28_nameEnd 27 = .ok (.baload, 1) := by decide +kernel
theorem dX28_nameEnd_28 : decode cX28_nameEnd 28 = .ok (.invokestatic 46, 3) := by decide +kernel
theorem dX28_nameEnd_31 : decode cX28_nameEnd 31 = .ok (.ifCond .ne 12, 3) := by decide +kernel
theorem dX28_nameEnd_43 : decode cX28_nameEnd 43 = .ok (.iinc 2 1, 3) := by decide +kernel
theorem dX28_nameEnd_46 : decode cX28_nameEnd 46 = .ok (.goto (-27), 3) := by decide +kernel
theorem dX28_nameEnd_49 : decode cX28_nameEnd 49 = .ok (.iload_n 2, 1) := by decide +kernel
theorem dX28_nameEnd_50 : decode cX28_nameEnd 50 = .ok (.ireturn, 1) := by decide +kernel
theorem dX28_isText_0 : decode cX28_isText 0 = .ok (.iconst 1, 1) := by decide +kernel
theorem dX28_isText_1 : decode cX28_isText 1 = .ok (.istore_n 1, 1) := by decide +kernel
theorem dX28_isText_2 : decode cX28_isText 2 = .ok (.iconst 0, 1) := by decide +kernel
theorem dX28_isText_3 : decode cX28_isText 3 = .ok (.istore_n 2, 1) := by decide +kernel
theorem dX28_isText_4 : decode cX28_isText 4 = .ok (.iload_n 2, 1) := by decide +kernel
theorem dX28_isText_5 : decode cX28_isText 5 = .ok (.aload_n 0, 1) := by decide +kernel
theorem dX28_isText_6 : decode cX28_isText 6 = .ok (.arraylength, 1) := by decide +kernel
theorem dX28_isText_7 : decode cX28_isText 7 = .ok (.if_icmp .ge 28, 3) := by decide +kernel
theorem dX28_isText_10 : decode cX28_isText 10 = .ok (.iload_n 1, 1) := by decide +kernel
theorem dX28_isText_11 : decode cX28_isText 11 = .ok (.ifCond .eq 16, 3) := by decide +kernel
theorem dX28_isText_14 : decode cX28_isText 14 = .ok (.aload_n 0, 1) := by decide +kernel
theorem dX28_isText_15 : decode cX28_isText 15 = .ok (.iload_n 2, 1) := by decide +kernel
theorem dX28_isText_16 : decode cX28_isText 16 = .ok (.baload, 1) := by decide +kernel
theorem dX28_isText_17 : decode cX28_isText 17 = .ok (.invokestatic 53, 3) := by decide +kernel
theorem dX28_isText_20 : decode cX28_isText 20 = .ok (.ifCond .eq 7, 3) := by decide +kernel
theorem dX28_isText_23 : decode cX28_isText 23 = .ok (.iconst 1, 1) := by decide +kernel
theorem dX28_isText_24 : decode cX28_isText 24 = .ok (.goto 4, 3) := by decide +kernel
theorem dX28_isText_28 : decode cX28_isText 28 = .ok (.istore_n 1, 1) := by decide +kernel
theorem dX28_isText_29 : decode cX28_isText 29 = .ok (.iinc 2 1, 3) := by decide +kernel
theorem dX28_isText_32 : decode cX28_isText 32 = .ok (.goto (-28), 3) := by decide +kernel
theorem dX28_isText_35 : decode cX28_isText 35 = .ok (.iload_n 1, 1) := by decide +kernel
theorem dX28_isText_36 : decode cX28_isText 36 = .ok (.ireturn, 1) := by decide +kernel
theorem dX28_isTextByte_0 : decode cX28_isTextByte 0 = .ok (.iload_n 0, 1) := by decide +kernel
theorem dX28_isTextByte_1 : decode cX28_isTextByte 1 = .ok (.bipush 9, 2) := by decide +kernel
theorem dX28_isTextByte_3 : decode cX28_isTextByte 3 = .ok (.if_icmp .eq 21, 3) := by decide +kernel
theorem dX28_isTextByte_6 : decode cX28_isTextByte 6 = .ok (.iload_n 0, 1) := by decide +kernel
theorem dX28_isTextByte_7 : decode cX28_isTextByte 7 = .ok (.bipush 10, 2) := by decide +kernel
theorem dX28_isTextByte_9 : decode cX28_isTextByte 9 = .ok (.if_icmp .eq 15, 3) := by decide +kernel
theorem dX28_isTextByte_12 : decode cX28_isTextByte 12 = .ok (.iload_n 0, 1) := by decide +kernel
theorem dX28_isTextByte_13 : decode cX28_isTextByte 13 = .ok (.bipush 31, 2) := by decide +kernel
theorem dX28_isTextByte_15 : decode cX28_isTextByte 15 = .ok (.if_icmp .le 13, 3) := by decide +kernel
theorem dX28_isTextByte_18 : decode cX28_isTextByte 18 = .ok (.iload_n 0, 1) := by decide +kernel
theorem dX28_isTextByte_19 : decode cX28_isTextByte 19 = .ok (.bipush 127, 2) := by decide +kernel
theorem dX28_isTextByte_21 : decode cX28_isTextByte 21 = .ok (.if_icmp .ge 7, 3) := by decide +kernel
theorem dX28_isTextByte_24 : decode cX28_isTextByte 24 = .ok (.iconst 1, 1) := by decide +kernel
theorem dX28_isTextByte_25 : decode cX28_isTextByte 25 = .ok (.goto 4, 3) := by decide +kernel
theorem dX28_isTextByte_29 : decode cX28_isTextByte 29 = .ok (.ireturn, 1) := by decide +kernel
theorem dX28_room_0 : decode cX28_room 0 = .ok (.aload_n 0, 1) := by decide +kernel
theorem dX28_room_1 : decode cX28_room 1 = .ok (.getfield 64, 3) := by decide +kernel
theorem dX28_room_4 : decode cX28_room 4 = .ok (.ldc2_w 68, 3) := by decide +kernel
theorem dX28_room_7 : decode cX28_room 7 = .ok (.ladd, 1) := by decide +kernel
theorem dX28_room_8 : decode cX28_room 8 = .ok (.iload_n 1, 1) := by decide +kernel
theorem dX28_room_9 : decode cX28_room 9 = .ok (.i2l, 1) := by decide +kernel
theorem dX28_room_10 : decode cX28_room 10 = .ok (.ladd, 1) := by decide +kernel
theorem dX28_room_11 : decode cX28_room 11 = .ok (.ldc2_w 70, 3) := by decide +kernel
theorem dX28_room_14 : decode cX28_room 14 = .ok (.lcmp, 1) := by decide +kernel
theorem dX28_room_15 : decode cX28_room 15 = .ok (.ifCond .le 11, 3) := by decide +kernel
theorem dX28_room_26 : decode cX28_room 26 = .ok (.aload_n 0, 1) := by decide +kernel
theorem dX28_room_27 : decode cX28_room 27 = .ok (.dup, 1) := by decide +kernel
theorem dX28_room_28 : decode cX28_room 28 = .ok (.getfield 64, 3) := by decide +kernel
theorem dX28_room_31 : decode cX28_room 31 = .ok (.bipush 16, 2) := by decide +kernel
theorem dX28_room_33 : decode cX28_room 33 = .ok (.iload_n 1, 1) := by decide +kernel
theorem dX28_room_34 : decode cX28_room 34 = .ok (.iadd, 1) := by decide +kernel
theorem dX28_room_35 : decode cX28_room 35 = .ok (.i2l, 1) := by decide +kernel
theorem dX28_room_36 : decode cX28_room 36 = .ok (.ladd, 1) := by decide +kernel
theorem dX28_room_37 : decode cX28_room 37 = .ok (.putfield 64, 3) := by decide +kernel
theorem dX28_room_40 : decode cX28_room 40 = .ok (.return_, 1) := by decide +kernel
theorem dX28_scriptOf_0 : decode cX28_scriptOf 0 = .ok (.aload_n 0, 1) := by decide +kernel
theorem dX28_scriptOf_1 : decode cX28_scriptOf 1 = .ok (.aload_n 1, 1) := by decide +kernel
theorem dX28_scriptOf_2 : decode cX28_scriptOf 2 = .ok (.arraylength, 1) := by decide +kernel
theorem dX28_scriptOf_3 : decode cX28_scriptOf 3 = .ok (.invokevirtual 76, 3) := by decide +kernel
theorem dX28_scriptOf_6 : decode cX28_scriptOf 6 = .ok (.aload_n 1, 1) := by decide +kernel
theorem dX28_scriptOf_7 : decode cX28_scriptOf 7 = .ok (.astore 5, 2) := by decide +kernel
theorem dX28_scriptOf_9 : decode cX28_scriptOf 9 = .ok (.aload_n 1, 1) := by decide +kernel
theorem dX28_scriptOf_10 : decode cX28_scriptOf 10 = .ok (.arraylength, 1) := by decide +kernel
theorem dX28_scriptOf_11 : decode cX28_scriptOf 11 = .ok (.ifCond .eq 14, 3) := by decide +kernel
theorem dX28_scriptOf_14 : decode cX28_scriptOf 14 = .ok (.aload_n 1, 1) := by decide +kernel
theorem dX28_scriptOf_15 : decode cX28_scriptOf 15 = .ok (.aload_n 1, 1) := by decide +kernel
theorem dX28_scriptOf_16 : decode cX28_scriptOf 16 = .ok (.arraylength, 1) := by decide +kernel
theorem dX28_scriptOf_17 : decode cX28_scriptOf 17 = .ok (.iconst 1, 1) := by decide +kernel
theorem dX28_scriptOf_18 : decode cX28_scriptOf 18 = .ok (.isub, 1) := by decide +kernel
theorem dX28_scriptOf_19 : decode cX28_scriptOf 19 = .ok (.baload, 1) := by decide +kernel
theorem dX28_scriptOf_20 : decode cX28_scriptOf 20 = .ok (.bipush 10, 2) := by decide +kernel
theorem dX28_scriptOf_22 : decode cX28_scriptOf 22 = .ok (.if_icmp .eq 43, 3) := by decide +kernel
theorem dX28_scriptOf_65 : decode cX28_scriptOf 65 = .ok (.new 80, 3) := by decide +kernel
theorem dX28_scriptOf_68 : decode cX28_scriptOf 68 = .ok (.dup, 1) := by decide +kernel
theorem dX28_scriptOf_69 : decode cX28_scriptOf 69 = .ok (.aload_n 0, 1) := by decide +kernel
theorem dX28_scriptOf_70 : decode cX28_scriptOf 70 = .ok (.aload 5, 2) := by decide +kernel
theorem dX28_scriptOf_72 : decode cX28_scriptOf 72 = .ok (.aload 5, 2) := by decide +kernel
theorem dX28_scriptOf_74 : decode cX28_scriptOf 74 = .ok (.arraylength, 1) := by decide +kernel
theorem dX28_scriptOf_75 : decode cX28_scriptOf 75 = .ok (.iload_n 2, 1) := by decide +kernel
theorem dX28_scriptOf_76 : decode cX28_scriptOf 76 = .ok (.iload_n 3, 1) := by decide +kernel
theorem dX28_scriptOf_77 : decode cX28_scriptOf 77 = .ok (.aload 4, 2) := by decide +kernel
theorem dX28_scriptOf_79 : decode cX28_scriptOf 79 = .ok (.invokespecial 82, 3) := by decide +kernel
theorem dX28_scriptOf_82 : decode cX28_scriptOf 82 = .ok (.astore 6, 2) := by decide +kernel
theorem dX28_scriptOf_84 : decode cX28_scriptOf 84 = .ok (.aload 6, 2) := by decide +kernel
theorem dX28_scriptOf_86 : decode cX28_scriptOf 86 = .ok (.iload_n 3, 1) := by decide +kernel
theorem dX28_scriptOf_87 : decode cX28_scriptOf 87 = .ok (.ifCond .ne 7, 3) := by decide +kernel
theorem dX28_scriptOf_90 : decode cX28_scriptOf 90 = .ok (.iconst 1, 1) := by decide +kernel
theorem dX28_scriptOf_91 : decode cX28_scriptOf 91 = .ok (.goto 4, 3) := by decide +kernel
theorem dX28_scriptOf_95 : decode cX28_scriptOf 95 = .ok (.putfield 86, 3) := by decide +kernel
theorem dX28_scriptOf_98 : decode cX28_scriptOf 98 = .ok (.aload 6, 2) := by decide +kernel
theorem dX28_scriptOf_100 : decode cX28_scriptOf 100 = .ok (.invokevirtual 90, 3) := by decide +kernel
theorem dX28_scriptOf_103 : decode cX28_scriptOf 103 = .ok (.aload 6, 2) := by decide +kernel
theorem dX28_scriptOf_105 : decode cX28_scriptOf 105 = .ok (.invokevirtual 94, 3) := by decide +kernel
theorem dX28_reads_0 : decode cX28_reads 0 = .ok (.aload_n 0, 1) := by decide +kernel
theorem dX28_reads_1 : decode cX28_reads 1 = .ok (.iconst 0, 1) := by decide +kernel
theorem dX28_reads_2 : decode cX28_reads 2 = .ok (.putfield 56, 3) := by decide +kernel
theorem dX28_reads_5 : decode cX28_reads 5 = .ok (.aload_n 0, 1) := by decide +kernel
theorem dX28_reads_6 : decode cX28_reads 6 = .ok (.getfield 118, 3) := by decide +kernel
theorem dX28_reads_9 : decode cX28_reads 9 = .ok (.iconst 0, 1) := by decide +kernel
theorem dX28_reads_10 : decode cX28_reads 10 = .ok (.putfield 122, 3) := by decide +kernel
theorem dX28_reads_13 : decode cX28_reads 13 = .ok (.aload_n 0, 1) := by decide +kernel
theorem dX28_reads_14 : decode cX28_reads 14 = .ok (.aconst_null, 1) := by decide +kernel
theorem dX28_reads_15 : decode cX28_reads 15 = .ok (.putfield 127, 3) := by decide +kernel
theorem dX28_reads_18 : decode cX28_reads 18 = .ok (.aload_n 1, 1) := by decide +kernel
theorem dX28_reads_19 : decode cX28_reads 19 = .ok (.invokestatic 131, 3) := by decide +kernel
theorem dX28_reads_22 : decode cX28_reads 22 = .ok (.ifCond .eq 11, 3) := by decide +kernel
theorem dX28_reads_25 : decode cX28_reads 25 = .ok (.aload_n 1, 1) := by decide +kernel
theorem dX28_reads_26 : decode cX28_reads 26 = .ok (.arraylength, 1) := by decide +kernel
theorem dX28_reads_27 : decode cX28_reads 27 = .ok (.sipush 16384, 3) := by decide +kernel
theorem dX28_reads_30 : decode cX28_reads 30 = .ok (.if_icmp .le 10, 3) := by decide +kernel
theorem dX28_reads_40 : decode cX28_reads 40 = .ok (.aload_n 0, 1) := by decide +kernel
theorem dX28_reads_41 : decode cX28_reads 41 = .ok (.aload_n 0, 1) := by decide +kernel
theorem dX28_reads_42 : decode cX28_reads 42 = .ok (.aload_n 1, 1) := by decide +kernel
theorem dX28_reads_43 : decode cX28_reads 43 = .ok (.iconst 0, 1) := by decide +kernel
theorem dX28_reads_44 : decode cX28_reads 44 = .ok (.iconst 0, 1) := by decide +kernel
theorem dX28_reads_45 : decode cX28_reads 45 = .ok (.aconst_null, 1) := by decide +kernel
theorem dX28_reads_46 : decode cX28_reads 46 = .ok (.invokevirtual 135, 3) := by decide +kernel
theorem dX28_opened_0 : decode cX28_opened 0 = .ok (.new 475, 3) := by decide +kernel
theorem dX28_opened_3 : decode cX28_opened 3 = .ok (.dup, 1) := by decide +kernel
theorem dX28_opened_4 : decode cX28_opened 4 = .ok (.invokespecial 477, 3) := by decide +kernel
theorem dX28_opened_7 : decode cX28_opened 7 = .ok (.astore 4, 2) := by decide +kernel
theorem dX28_opened_9 : decode cX28_opened 9 = .ok (.aload 4, 2) := by decide +kernel
theorem dX28_opened_11 : decode cX28_opened 11 = .ok (.iload_n 0, 1) := by decide +kernel
theorem dX28_opened_12 : decode cX28_opened 12 = .ok (.putfield 479, 3) := by decide +kernel
theorem dX28_opened_15 : decode cX28_opened 15 = .ok (.aload 4, 2) := by decide +kernel
theorem dX28_opened_17 : decode cX28_opened 17 = .ok (.aload_n 1, 1) := by decide +kernel
theorem dX28_opened_18 : decode cX28_opened 18 = .ok (.putfield 480, 3) := by decide +kernel
theorem dX28_opened_21 : decode cX28_opened 21 = .ok (.aload 4, 2) := by decide +kernel
theorem dX28_opened_23 : decode cX28_opened 23 = .ok (.iload_n 2, 1) := by decide +kernel
theorem dX28_opened_24 : decode cX28_opened 24 = .ok (.putfield 483, 3) := by decide +kernel
theorem dX28_opened_27 : decode cX28_opened 27 = .ok (.aload 4, 2) := by decide +kernel
theorem dX28_opened_29 : decode cX28_opened 29 = .ok (.aload_n 3, 1) := by decide +kernel
theorem dX28_opened_30 : decode cX28_opened 30 = .ok (.putfield 486, 3) := by decide +kernel
theorem dX28_opened_33 : decode cX28_opened 33 = .ok (.aload 4, 2) := by decide +kernel
theorem dX28_opened_35 : decode cX28_opened 35 = .ok (.areturn, 1) := by decide +kernel
theorem dX28_touch_0 : decode cX28_touch 0 = .ok (.aload_n 1, 1) := by decide +kernel
theorem dX28_touch_1 : decode cX28_touch 1 = .ok (.getfield 518, 3) := by decide +kernel
theorem dX28_touch_4 : decode cX28_touch 4 = .ok (.aload_n 0, 1) := by decide +kernel
theorem dX28_touch_5 : decode cX28_touch 5 = .ok (.getfield 523, 3) := by decide +kernel
theorem dX28_touch_8 : decode cX28_touch 8 = .ok (.if_icmp .lt 4, 3) := by decide +kernel
theorem dX28_touch_11 : decode cX28_touch 11 = .ok (.return_, 1) := by decide +kernel
theorem dX28_setTo_0 : decode cX28_setTo 0 = .ok (.aload_n 1, 1) := by decide +kernel
theorem dX28_setTo_1 : decode cX28_setTo 1 = .ok (.getfield 559, 3) := by decide +kernel
theorem dX28_setTo_4 : decode cX28_setTo 4 = .ok (.dup, 1) := by decide +kernel
theorem dX28_setTo_5 : decode cX28_setTo 5 = .ok (.getfield 563, 3) := by decide +kernel
theorem dX28_setTo_8 : decode cX28_setTo 8 = .ok (.iload_n 2, 1) := by decide +kernel
theorem dX28_setTo_9 : decode cX28_setTo 9 = .ok (.ifCond .eq 7, 3) := by decide +kernel
theorem dX28_setTo_12 : decode cX28_setTo 12 = .ok (.iconst 1, 1) := by decide +kernel
theorem dX28_setTo_13 : decode cX28_setTo 13 = .ok (.goto 4, 3) := by decide +kernel
theorem dX28_setTo_17 : decode cX28_setTo 17 = .ok (.aload_n 1, 1) := by decide +kernel
theorem dX28_setTo_18 : decode cX28_setTo 18 = .ok (.getfield 547, 3) := by decide +kernel
theorem dX28_setTo_21 : decode cX28_setTo 21 = .ok (.ifCond .eq 7, 3) := by decide +kernel
theorem dX28_setTo_28 : decode cX28_setTo 28 = .ok (.iconst 0, 1) := by decide +kernel
theorem dX28_setTo_29 : decode cX28_setTo 29 = .ok (.isub, 1) := by decide +kernel
theorem dX28_setTo_30 : decode cX28_setTo 30 = .ok (.iadd, 1) := by decide +kernel
theorem dX28_setTo_31 : decode cX28_setTo 31 = .ok (.putfield 563, 3) := by decide +kernel
theorem dX28_setTo_34 : decode cX28_setTo 34 = .ok (.aload_n 1, 1) := by decide +kernel
theorem dX28_setTo_35 : decode cX28_setTo 35 = .ok (.getfield 559, 3) := by decide +kernel
theorem dX28_setTo_38 : decode cX28_setTo 38 = .ok (.dup, 1) := by decide +kernel
theorem dX28_setTo_39 : decode cX28_setTo 39 = .ok (.getfield 568, 3) := by decide +kernel
theorem dX28_setTo_42 : decode cX28_setTo 42 = .ok (.iload_n 3, 1) := by decide +kernel
theorem dX28_setTo_43 : decode cX28_setTo 43 = .ok (.ifCond .eq 7, 3) := by decide +kernel
theorem dX28_setTo_50 : decode cX28_setTo 50 = .ok (.iconst 0, 1) := by decide +kernel
theorem dX28_setTo_51 : decode cX28_setTo 51 = .ok (.aload_n 1, 1) := by decide +kernel
theorem dX28_setTo_52 : decode cX28_setTo 52 = .ok (.getfield 549, 3) := by decide +kernel
theorem dX28_setTo_55 : decode cX28_setTo 55 = .ok (.ifCond .eq 7, 3) := by decide +kernel
theorem dX28_setTo_62 : decode cX28_setTo 62 = .ok (.iconst 0, 1) := by decide +kernel
theorem dX28_setTo_63 : decode cX28_setTo 63 = .ok (.isub, 1) := by decide +kernel
theorem dX28_setTo_64 : decode cX28_setTo 64 = .ok (.iadd, 1) := by decide +kernel
theorem dX28_setTo_65 : decode cX28_setTo 65 = .ok (.putfield 568, 3) := by decide +kernel
theorem dX28_setTo_68 : decode cX28_setTo 68 = .ok (.aload_n 1, 1) := by decide +kernel
theorem dX28_setTo_69 : decode cX28_setTo 69 = .ok (.iload_n 2, 1) := by decide +kernel
theorem dX28_setTo_70 : decode cX28_setTo 70 = .ok (.putfield 547, 3) := by decide +kernel
theorem dX28_setTo_73 : decode cX28_setTo 73 = .ok (.aload_n 1, 1) := by decide +kernel
theorem dX28_setTo_74 : decode cX28_setTo 74 = .ok (.iload_n 3, 1) := by decide +kernel
theorem dX28_setTo_75 : decode cX28_setTo 75 = .ok (.putfield 549, 3) := by decide +kernel
theorem dX28_setTo_78 : decode cX28_setTo 78 = .ok (.return_, 1) := by decide +kernel
theorem dX28_change_0 : decode cX28_change 0 = .ok (.aload_n 0, 1) := by decide +kernel
theorem dX28_change_1 : decode cX28_change 1 = .ok (.aload_n 1, 1) := by decide +kernel
theorem dX28_change_2 : decode cX28_change 2 = .ok (.invokevirtual 581, 3) := by decide +kernel
theorem dX28_change_5 : decode cX28_change 5 = .ok (.aload_n 1, 1) := by decide +kernel
theorem dX28_change_6 : decode cX28_change 6 = .ok (.aload_n 2, 1) := by decide +kernel
theorem dX28_change_7 : decode cX28_change 7 = .ok (.putfield 537, 3) := by decide +kernel
theorem dX28_change_10 : decode cX28_change 10 = .ok (.aload_n 0, 1) := by decide +kernel
theorem dX28_change_11 : decode cX28_change 11 = .ok (.aload_n 1, 1) := by decide +kernel
theorem dX28_change_12 : decode cX28_change 12 = .ok (.iload_n 3, 1) := by decide +kernel
theorem dX28_change_13 : decode cX28_change 13 = .ok (.aload_n 1, 1) := by decide +kernel
theorem dX28_change_14 : decode cX28_change 14 = .ok (.getfield 549, 3) := by decide +kernel
theorem dX28_change_17 : decode cX28_change 17 = .ok (.invokevirtual 555, 3) := by decide +kernel
theorem dX28_change_20 : decode cX28_change 20 = .ok (.return_, 1) := by decide +kernel
theorem dX28_isAliasText_0 : decode cX28_isAliasText 0 = .ok (.aload_n 0, 1) := by decide +kernel
theorem dX28_isAliasText_1 : decode cX28_isAliasText 1 = .ok (.invokestatic 131, 3) := by decide +kernel
theorem dX28_isAliasText_4 : decode cX28_isAliasText 4 = .ok (.istore_n 1, 1) := by decide +kernel
theorem dX28_isAliasText_5 : decode cX28_isAliasText 5 = .ok (.iconst 0, 1) := by decide +kernel
theorem dX28_isAliasText_6 : decode cX28_isAliasText 6 = .ok (.istore_n 2, 1) := by decide +kernel
theorem dX28_isAliasText_7 : decode cX28_isAliasText 7 = .ok (.iload_n 2, 1) := by decide +kernel
theorem dX28_isAliasText_8 : decode cX28_isAliasText 8 = .ok (.aload_n 0, 1) := by decide +kernel
theorem dX28_isAliasText_9 : decode cX28_isAliasText 9 = .ok (.arraylength, 1) := by decide +kernel
theorem dX28_isAliasText_10 : decode cX28_isAliasText 10 = .ok (.if_icmp .ge 27, 3) := by decide +kernel
theorem dX28_isAliasText_13 : decode cX28_isAliasText 13 = .ok (.iload_n 1, 1) := by decide +kernel
theorem dX28_isAliasText_14 : decode cX28_isAliasText 14 = .ok (.ifCond .eq 15, 3) := by decide +kernel
theorem dX28_isAliasText_17 : decode cX28_isAliasText 17 = .ok (.aload_n 0, 1) := by decide +kernel
theorem dX28_isAliasText_18 : decode cX28_isAliasText 18 = .ok (.iload_n 2, 1) := by decide +kernel
theorem dX28_isAliasText_19 : decode cX28_isAliasText 19 = .ok (.baload, 1) := by decide +kernel
theorem dX28_isAliasText_20 : decode cX28_isAliasText 20 = .ok (.bipush 10, 2) := by decide +kernel
theorem dX28_isAliasText_22 : decode cX28_isAliasText 22 = .ok (.if_icmp .eq 7, 3) := by decide +kernel
theorem dX28_isAliasText_25 : decode cX28_isAliasText 25 = .ok (.iconst 1, 1) := by decide +kernel
theorem dX28_isAliasText_26 : decode cX28_isAliasText 26 = .ok (.goto 4, 3) := by decide +kernel
theorem dX28_isAliasText_30 : decode cX28_isAliasText 30 = .ok (.istore_n 1, 1) := by decide +kernel
theorem dX28_isAliasText_31 : decode cX28_isAliasText 31 = .ok (.iinc 2 1, 3) := by decide +kernel
theorem dX28_isAliasText_34 : decode cX28_isAliasText 34 = .ok (.goto (-27), 3) := by decide +kernel
theorem dX28_isAliasText_37 : decode cX28_isAliasText 37 = .ok (.iload_n 1, 1) := by decide +kernel
theorem dX28_isAliasText_38 : decode cX28_isAliasText 38 = .ok (.ireturn, 1) := by decide +kernel
theorem dX28_init_0 : decode cX28_init 0 = .ok (.aload_n 0, 1) := by decide +kernel
theorem dX28_init_1 : decode cX28_init 1 = .ok (.invokespecial 1448, 3) := by decide +kernel
theorem dX28_init_4 : decode cX28_init 4 = .ok (.aload_n 0, 1) := by decide +kernel
theorem dX28_init_5 : decode cX28_init 5 = .ok (.sipush 256, 3) := by decide +kernel
theorem dX28_init_8 : decode cX28_init 8 = .ok (.anewarray 464, 3) := by decide +kernel
theorem dX28_init_11 : decode cX28_init 11 = .ok (.putfield 13, 3) := by decide +kernel
theorem dX28_init_14 : decode cX28_init 14 = .ok (.aload_n 0, 1) := by decide +kernel
theorem dX28_init_15 : decode cX28_init 15 = .ok (.iconst 0, 1) := by decide +kernel
theorem dX28_init_16 : decode cX28_init 16 = .ok (.newarray .byte, 2) := by decide +kernel
theorem dX28_init_18 : decode cX28_init 18 = .ok (.putfield 30, 3) := by decide +kernel
theorem dX28_init_21 : decode cX28_init 21 = .ok (.aload_n 0, 1) := by decide +kernel
theorem dX28_init_22 : decode cX28_init 22 = .ok (.sipush 256, 3) := by decide +kernel
theorem dX28_init_25 : decode cX28_init 25 = .ok (.anewarray 464, 3) := by decide +kernel
theorem dX28_init_28 : decode cX28_init 28 = .ok (.putfield 27, 3) := by decide +kernel
theorem dX28_init_31 : decode cX28_init 31 = .ok (.aload_n 0, 1) := by decide +kernel
theorem dX28_init_32 : decode cX28_init 32 = .ok (.new 139, 3) := by decide +kernel
theorem dX28_init_35 : decode cX28_init 35 = .ok (.dup, 1) := by decide +kernel
theorem dX28_init_36 : decode cX28_init 36 = .ok (.invokespecial 1451, 3) := by decide +kernel
theorem dX28_init_39 : decode cX28_init 39 = .ok (.putfield 60, 3) := by decide +kernel
theorem dX28_init_42 : decode cX28_init 42 = .ok (.aload_n 0, 1) := by decide +kernel
theorem dX28_init_43 : decode cX28_init 43 = .ok (.new 123, 3) := by decide +kernel
theorem dX28_init_46 : decode cX28_init 46 = .ok (.dup, 1) := by decide +kernel
theorem dX28_init_47 : decode cX28_init 47 = .ok (.invokespecial 753, 3) := by decide +kernel
theorem dX28_init_50 : decode cX28_init 50 = .ok (.putfield 1452, 3) := by decide +kernel
theorem dX28_init_53 : decode cX28_init 53 = .ok (.aload_n 0, 1) := by decide +kernel
theorem dX28_init_54 : decode cX28_init 54 = .ok (.new 123, 3) := by decide +kernel
theorem dX28_init_57 : decode cX28_init 57 = .ok (.dup, 1) := by decide +kernel
theorem dX28_init_58 : decode cX28_init 58 = .ok (.invokespecial 753, 3) := by decide +kernel
theorem dX28_init_61 : decode cX28_init 61 = .ok (.putfield 118, 3) := by decide +kernel
theorem dX28_init_64 : decode cX28_init 64 = .ok (.aload_n 0, 1) := by decide +kernel
theorem dX28_init_65 : decode cX28_init 65 = .ok (.bipush 64, 2) := by decide +kernel
theorem dX28_init_67 : decode cX28_init 67 = .ok (.newarray .int, 2) := by decide +kernel
theorem dX28_init_69 : decode cX28_init 69 = .ok (.putfield 1454, 3) := by decide +kernel
theorem dX28_init_72 : decode cX28_init 72 = .ok (.aload_n 0, 1) := by decide +kernel
theorem dX28_init_73 : decode cX28_init 73 = .ok (.new 123, 3) := by decide +kernel
theorem dX28_init_76 : decode cX28_init 76 = .ok (.dup, 1) := by decide +kernel
theorem dX28_init_77 : decode cX28_init 77 = .ok (.invokespecial 753, 3) := by decide +kernel
theorem dX28_init_80 : decode cX28_init 80 = .ok (.putfield 141, 3) := by decide +kernel
theorem dX28_init_83 : decode cX28_init 83 = .ok (.aload_n 0, 1) := by decide +kernel
theorem dX28_init_84 : decode cX28_init 84 = .ok (.new 359, 3) := by decide +kernel
theorem dX28_init_87 : decode cX28_init 87 = .ok (.dup, 1) := by decide +kernel
theorem dX28_init_88 : decode cX28_init 88 = .ok (.iconst 0, 1) := by decide +kernel
theorem dX28_init_89 : decode cX28_init 89 = .ok (.newarray .byte, 2) := by decide +kernel
theorem dX28_init_91 : decode cX28_init 91 = .ok (.iconst 1, 1) := by decide +kernel
theorem dX28_init_92 : decode cX28_init 92 = .ok (.invokespecial 420, 3) := by decide +kernel
theorem dX28_init_95 : decode cX28_init 95 = .ok (.putfield 374, 3) := by decide +kernel
theorem dX28_init_98 : decode cX28_init 98 = .ok (.aload_n 0, 1) := by decide +kernel
theorem dX28_init_99 : decode cX28_init 99 = .ok (.aload_n 0, 1) := by decide +kernel
theorem dX28_init_100 : decode cX28_init 100 = .ok (.getfield 374, 3) := by decide +kernel
theorem dX28_init_103 : decode cX28_init 103 = .ok (.putfield 823, 3) := by decide +kernel
theorem dX28_init_106 : decode cX28_init 106 = .ok (.aload_n 0, 1) := by decide +kernel
theorem dX28_init_107 : decode cX28_init 107 = .ok (.iconst 1, 1) := by decide +kernel
theorem dX28_init_108 : decode cX28_init 108 = .ok (.putfield 417, 3) := by decide +kernel
theorem dX28_init_111 : decode cX28_init 111 = .ok (.aload_n 0, 1) := by decide +kernel
theorem dX28_init_112 : decode cX28_init 112 = .ok (.new 446, 3) := by decide +kernel
theorem dX28_init_115 : decode cX28_init 115 = .ok (.dup, 1) := by decide +kernel
theorem dX28_init_116 : decode cX28_init 116 = .ok (.invokespecial 1064, 3) := by decide +kernel
theorem dX28_init_119 : decode cX28_init 119 = .ok (.putfield 441, 3) := by decide +kernel
theorem dX28_init_122 : decode cX28_init 122 = .ok (.aload_n 0, 1) := by decide +kernel
theorem dX28_init_123 : decode cX28_init 123 = .ok (.iconst 3, 1) := by decide +kernel
theorem dX28_init_124 : decode cX28_init 124 = .ok (.anewarray 475, 3) := by decide +kernel
theorem dX28_init_127 : decode cX28_init 127 = .ok (.putfield 754, 3) := by decide +kernel
theorem dX28_init_130 : decode cX28_init 130 = .ok (.aload_n 0, 1) := by decide +kernel
theorem dX28_init_131 : decode cX28_init 131 = .ok (.new 564, 3) := by decide +kernel
theorem dX28_init_134 : decode cX28_init 134 = .ok (.dup, 1) := by decide +kernel
theorem dX28_init_135 : decode cX28_init 135 = .ok (.invokespecial 1456, 3) := by decide +kernel
theorem dX28_init_138 : decode cX28_init 138 = .ok (.putfield 570, 3) := by decide +kernel
theorem dX28_init_141 : decode cX28_init 141 = .ok (.aload_n 0, 1) := by decide +kernel
theorem dX28_init_142 : decode cX28_init 142 = .ok (.new 564, 3) := by decide +kernel
theorem dX28_init_145 : decode cX28_init 145 = .ok (.dup, 1) := by decide +kernel
theorem dX28_init_146 : decode cX28_init 146 = .ok (.invokespecial 1456, 3) := by decide +kernel
theorem dX28_init_149 : decode cX28_init 149 = .ok (.putfield 1032, 3) := by decide +kernel
theorem dX28_init_152 : decode cX28_init 152 = .ok (.aload_n 0, 1) := by decide +kernel
theorem dX28_init_153 : decode cX28_init 153 = .ok (.new 564, 3) := by decide +kernel
theorem dX28_init_156 : decode cX28_init 156 = .ok (.dup, 1) := by decide +kernel
theorem dX28_init_157 : decode cX28_init 157 = .ok (.invokespecial 1456, 3) := by decide +kernel
theorem dX28_init_160 : decode cX28_init 160 = .ok (.putfield 1366, 3) := by decide +kernel
theorem dX28_init_163 : decode cX28_init 163 = .ok (.aload_n 0, 1) := by decide +kernel
theorem dX28_init_164 : decode cX28_init 164 = .ok (.iconst 0, 1) := by decide +kernel
theorem dX28_init_165 : decode cX28_init 165 = .ok (.anewarray 464, 3) := by decide +kernel
theorem dX28_init_168 : decode cX28_init 168 = .ok (.putfield 585, 3) := by decide +kernel
theorem dX28_init_171 : decode cX28_init 171 = .ok (.aload_n 0, 1) := by decide +kernel
theorem dX28_init_172 : decode cX28_init 172 = .ok (.new 446, 3) := by decide +kernel
theorem dX28_init_175 : decode cX28_init 175 = .ok (.dup, 1) := by decide +kernel
theorem dX28_init_176 : decode cX28_init 176 = .ok (.invokespecial 1064, 3) := by decide +kernel
theorem dX28_init_179 : decode cX28_init 179 = .ok (.putfield 524, 3) := by decide +kernel
theorem dX28_init_182 : decode cX28_init 182 = .ok (.aload_n 0, 1) := by decide +kernel
theorem dX28_init_183 : decode cX28_init 183 = .ok (.bipush 16, 2) := by decide +kernel
theorem dX28_init_185 : decode cX28_init 185 = .ok (.anewarray 464, 3) := by decide +kernel
theorem dX28_init_188 : decode cX28_init 188 = .ok (.putfield 534, 3) := by decide +kernel
theorem dX28_init_191 : decode cX28_init 191 = .ok (.aload_n 0, 1) := by decide +kernel
theorem dX28_init_192 : decode cX28_init 192 = .ok (.bipush 16, 2) := by decide +kernel
theorem dX28_init_194 : decode cX28_init 194 = .ok (.anewarray 208, 3) := by decide +kernel
theorem dX28_init_197 : decode cX28_init 197 = .ok (.putfield 540, 3) := by decide +kernel
theorem dX28_init_200 : decode cX28_init 200 = .ok (.aload_n 0, 1) := by decide +kernel
theorem dX28_init_201 : decode cX28_init 201 = .ok (.bipush 16, 2) := by decide +kernel
theorem dX28_init_203 : decode cX28_init 203 = .ok (.newarray .int, 2) := by decide +kernel
theorem dX28_init_205 : decode cX28_init 205 = .ok (.putfield 527, 3) := by decide +kernel
theorem dX28_init_208 : decode cX28_init 208 = .ok (.aload_n 0, 1) := by decide +kernel
theorem dX28_init_209 : decode cX28_init 209 = .ok (.iconst 4, 1) := by decide +kernel
theorem dX28_init_210 : decode cX28_init 210 = .ok (.newarray .byte, 2) := by decide +kernel
theorem dX28_init_212 : decode cX28_init 212 = .ok (.dup, 1) := by decide +kernel
theorem dX28_init_213 : decode cX28_init 213 = .ok (.iconst 0, 1) := by decide +kernel
theorem dX28_init_214 : decode cX28_init 214 = .ok (.bipush 72, 2) := by decide +kernel
theorem dX28_init_216 : decode cX28_init 216 = .ok (.bastore, 1) := by decide +kernel
theorem dX28_init_217 : decode cX28_init 217 = .ok (.dup, 1) := by decide +kernel
theorem dX28_init_218 : decode cX28_init 218 = .ok (.iconst 1, 1) := by decide +kernel
theorem dX28_init_219 : decode cX28_init 219 = .ok (.bipush 79, 2) := by decide +kernel
theorem dX28_init_221 : decode cX28_init 221 = .ok (.bastore, 1) := by decide +kernel
theorem dX28_init_222 : decode cX28_init 222 = .ok (.dup, 1) := by decide +kernel
theorem dX28_init_223 : decode cX28_init 223 = .ok (.iconst 2, 1) := by decide +kernel
theorem dX28_init_224 : decode cX28_init 224 = .ok (.bipush 77, 2) := by decide +kernel
theorem dX28_init_226 : decode cX28_init 226 = .ok (.bastore, 1) := by decide +kernel
theorem dX28_init_227 : decode cX28_init 227 = .ok (.dup, 1) := by decide +kernel
theorem dX28_init_228 : decode cX28_init 228 = .ok (.iconst 3, 1) := by decide +kernel
theorem dX28_init_229 : decode cX28_init 229 = .ok (.bipush 69, 2) := by decide +kernel
theorem dX28_init_231 : decode cX28_init 231 = .ok (.bastore, 1) := by decide +kernel
theorem dX28_init_232 : decode cX28_init 232 = .ok (.putfield 669, 3) := by decide +kernel
theorem dX28_init_235 : decode cX28_init 235 = .ok (.aload_n 0, 1) := by decide +kernel
theorem dX28_init_236 : decode cX28_init 236 = .ok (.iconst 3, 1) := by decide +kernel
theorem dX28_init_237 : decode cX28_init 237 = .ok (.newarray .byte, 2) := by decide +kernel
theorem dX28_init_239 : decode cX28_init 239 = .ok (.dup, 1) := by decide +kernel
theorem dX28_init_240 : decode cX28_init 240 = .ok (.iconst 0, 1) := by decide +kernel
theorem dX28_init_241 : decode cX28_init 241 = .ok (.bipush 73, 2) := by decide +kernel
theorem dX28_init_243 : decode cX28_init 243 = .ok (.bastore, 1) := by decide +kernel
theorem dX28_init_244 : decode cX28_init 244 = .ok (.dup, 1) := by decide +kernel
theorem dX28_init_245 : decode cX28_init 245 = .ok (.iconst 1, 1) := by decide +kernel
theorem dX28_init_246 : decode cX28_init 246 = .ok (.bipush 70, 2) := by decide +kernel
theorem dX28_init_248 : decode cX28_init 248 = .ok (.bastore, 1) := by decide +kernel
theorem dX28_init_249 : decode cX28_init 249 = .ok (.dup, 1) := by decide +kernel
theorem dX28_init_250 : decode cX28_init 250 = .ok (.iconst 2, 1) := by decide +kernel
theorem dX28_init_251 : decode cX28_init 251 = .ok (.bipush 83, 2) := by decide +kernel
theorem dX28_init_253 : decode cX28_init 253 = .ok (.bastore, 1) := by decide +kernel
theorem dX28_init_254 : decode cX28_init 254 = .ok (.putfield 731, 3) := by decide +kernel
theorem dX28_init_257 : decode cX28_init 257 = .ok (.aload_n 0, 1) := by decide +kernel
theorem dX28_init_258 : decode cX28_init 258 = .ok (.sipush 256, 3) := by decide +kernel
theorem dX28_init_261 : decode cX28_init 261 = .ok (.anewarray 598, 3) := by decide +kernel
theorem dX28_init_264 : decode cX28_init 264 = .ok (.putfield 594, 3) := by decide +kernel
theorem dX28_init_267 : decode cX28_init 267 = .ok (.aload_n 0, 1) := by decide +kernel
theorem dX28_init_268 : decode cX28_init 268 = .ok (.iconst 2, 1) := by decide +kernel
theorem dX28_init_269 : decode cX28_init 269 = .ok (.newarray .byte, 2) := by decide +kernel
theorem dX28_init_271 : decode cX28_init 271 = .ok (.dup, 1) := by decide +kernel
theorem dX28_init_272 : decode cX28_init 272 = .ok (.iconst 0, 1) := by decide +kernel
theorem dX28_init_273 : decode cX28_init 273 = .ok (.bipush 115, 2) := by decide +kernel
theorem dX28_init_275 : decode cX28_init 275 = .ok (.bastore, 1) := by decide +kernel
theorem dX28_init_276 : decode cX28_init 276 = .ok (.dup, 1) := by decide +kernel
theorem dX28_init_277 : decode cX28_init 277 = .ok (.iconst 1, 1) := by decide +kernel
theorem dX28_init_278 : decode cX28_init 278 = .ok (.bipush 104, 2) := by decide +kernel
theorem dX28_init_280 : decode cX28_init 280 = .ok (.bastore, 1) := by decide +kernel
theorem dX28_init_281 : decode cX28_init 281 = .ok (.putfield 678, 3) := by decide +kernel
theorem dX28_init_284 : decode cX28_init 284 = .ok (.aload_n 0, 1) := by decide +kernel
theorem dX28_init_285 : decode cX28_init 285 = .ok (.bipush 8, 2) := by decide +kernel
theorem dX28_init_287 : decode cX28_init 287 = .ok (.anewarray 464, 3) := by decide +kernel
theorem dX28_init_290 : decode cX28_init 290 = .ok (.dup, 1) := by decide +kernel
theorem dX28_init_291 : decode cX28_init 291 = .ok (.iconst 0, 1) := by decide +kernel
theorem dX28_init_292 : decode cX28_init 292 = .ok (.iconst 0, 1) := by decide +kernel
theorem dX28_init_293 : decode cX28_init 293 = .ok (.newarray .byte, 2) := by decide +kernel
theorem dX28_init_295 : decode cX28_init 295 = .ok (.aastore, 1) := by decide +kernel
theorem dX28_init_296 : decode cX28_init 296 = .ok (.dup, 1) := by decide +kernel
theorem dX28_init_297 : decode cX28_init 297 = .ok (.iconst 1, 1) := by decide +kernel
theorem dX28_init_298 : decode cX28_init 298 = .ok (.iconst 1, 1) := by decide +kernel
theorem dX28_init_299 : decode cX28_init 299 = .ok (.newarray .byte, 2) := by decide +kernel
theorem dX28_init_301 : decode cX28_init 301 = .ok (.dup, 1) := by decide +kernel
theorem dX28_init_302 : decode cX28_init 302 = .ok (.iconst 0, 1) := by decide +kernel
theorem dX28_init_303 : decode cX28_init 303 = .ok (.bipush 101, 2) := by decide +kernel
theorem dX28_init_305 : decode cX28_init 305 = .ok (.bastore, 1) := by decide +kernel
theorem dX28_init_306 : decode cX28_init 306 = .ok (.aastore, 1) := by decide +kernel
theorem dX28_init_307 : decode cX28_init 307 = .ok (.dup, 1) := by decide +kernel
theorem dX28_init_308 : decode cX28_init 308 = .ok (.iconst 2, 1) := by decide +kernel
theorem dX28_init_309 : decode cX28_init 309 = .ok (.iconst 1, 1) := by decide +kernel
theorem dX28_init_310 : decode cX28_init 310 = .ok (.newarray .byte, 2) := by decide +kernel
theorem dX28_init_312 : decode cX28_init 312 = .ok (.dup, 1) := by decide +kernel
theorem dX28_init_313 : decode cX28_init 313 = .ok (.iconst 0, 1) := by decide +kernel
theorem dX28_init_314 : decode cX28_init 314 = .ok (.bipush 102, 2) := by decide +kernel
theorem dX28_init_316 : decode cX28_init 316 = .ok (.bastore, 1) := by decide +kernel
theorem dX28_init_317 : decode cX28_init 317 = .ok (.aastore, 1) := by decide +kernel
theorem dX28_init_318 : decode cX28_init 318 = .ok (.dup, 1) := by decide +kernel
theorem dX28_init_319 : decode cX28_init 319 = .ok (.iconst 3, 1) := by decide +kernel
theorem dX28_init_320 : decode cX28_init 320 = .ok (.iconst 2, 1) := by decide +kernel
theorem dX28_init_321 : decode cX28_init 321 = .ok (.newarray .byte, 2) := by decide +kernel
theorem dX28_init_323 : decode cX28_init 323 = .ok (.dup, 1) := by decide +kernel
theorem dX28_init_324 : decode cX28_init 324 = .ok (.iconst 0, 1) := by decide +kernel
theorem dX28_init_325 : decode cX28_init 325 = .ok (.bipush 101, 2) := by decide +kernel
theorem dX28_init_327 : decode cX28_init 327 = .ok (.bastore, 1) := by decide +kernel
theorem dX28_init_328 : decode cX28_init 328 = .ok (.dup, 1) := by decide +kernel
theorem dX28_init_329 : decode cX28_init 329 = .ok (.iconst 1, 1) := by decide +kernel
theorem dX28_init_330 : decode cX28_init 330 = .ok (.bipush 102, 2) := by decide +kernel
theorem dX28_init_332 : decode cX28_init 332 = .ok (.bastore, 1) := by decide +kernel
theorem dX28_init_333 : decode cX28_init 333 = .ok (.aastore, 1) := by decide +kernel
theorem dX28_init_334 : decode cX28_init 334 = .ok (.dup, 1) := by decide +kernel
theorem dX28_init_335 : decode cX28_init 335 = .ok (.iconst 4, 1) := by decide +kernel
theorem dX28_init_336 : decode cX28_init 336 = .ok (.iconst 1, 1) := by decide +kernel
theorem dX28_init_337 : decode cX28_init 337 = .ok (.newarray .byte, 2) := by decide +kernel
theorem dX28_init_339 : decode cX28_init 339 = .ok (.dup, 1) := by decide +kernel
theorem dX28_init_340 : decode cX28_init 340 = .ok (.iconst 0, 1) := by decide +kernel
theorem dX28_init_341 : decode cX28_init 341 = .ok (.bipush 117, 2) := by decide +kernel
theorem dX28_init_343 : decode cX28_init 343 = .ok (.bastore, 1) := by decide +kernel
theorem dX28_init_344 : decode cX28_init 344 = .ok (.aastore, 1) := by decide +kernel
theorem dX28_init_345 : decode cX28_init 345 = .ok (.dup, 1) := by decide +kernel
theorem dX28_init_346 : decode cX28_init 346 = .ok (.iconst 5, 1) := by decide +kernel
theorem dX28_init_347 : decode cX28_init 347 = .ok (.iconst 2, 1) := by decide +kernel
theorem dX28_init_348 : decode cX28_init 348 = .ok (.newarray .byte, 2) := by decide +kernel
theorem dX28_init_350 : decode cX28_init 350 = .ok (.dup, 1) := by decide +kernel
theorem dX28_init_351 : decode cX28_init 351 = .ok (.iconst 0, 1) := by decide +kernel
theorem dX28_init_352 : decode cX28_init 352 = .ok (.bipush 101, 2) := by decide +kernel
theorem dX28_init_354 : decode cX28_init 354 = .ok (.bastore, 1) := by decide +kernel
theorem dX28_init_355 : decode cX28_init 355 = .ok (.dup, 1) := by decide +kernel
theorem dX28_init_356 : decode cX28_init 356 = .ok (.iconst 1, 1) := by decide +kernel
theorem dX28_init_357 : decode cX28_init 357 = .ok (.bipush 117, 2) := by decide +kernel
theorem dX28_init_359 : decode cX28_init 359 = .ok (.bastore, 1) := by decide +kernel
theorem dX28_init_360 : decode cX28_init 360 = .ok (.aastore, 1) := by decide +kernel
theorem dX28_init_361 : decode cX28_init 361 = .ok (.dup, 1) := by decide +kernel
theorem dX28_init_362 : decode cX28_init 362 = .ok (.bipush 6, 2) := by decide +kernel
theorem dX28_init_364 : decode cX28_init 364 = .ok (.iconst 2, 1) := by decide +kernel
theorem dX28_init_365 : decode cX28_init 365 = .ok (.newarray .byte, 2) := by decide +kernel
theorem dX28_init_367 : decode cX28_init 367 = .ok (.dup, 1) := by decide +kernel
theorem dX28_init_368 : decode cX28_init 368 = .ok (.iconst 0, 1) := by decide +kernel
theorem dX28_init_369 : decode cX28_init 369 = .ok (.bipush 102, 2) := by decide +kernel
theorem dX28_init_371 : decode cX28_init 371 = .ok (.bastore, 1) := by decide +kernel
theorem dX28_init_372 : decode cX28_init 372 = .ok (.dup, 1) := by decide +kernel
theorem dX28_init_373 : decode cX28_init 373 = .ok (.iconst 1, 1) := by decide +kernel
theorem dX28_init_374 : decode cX28_init 374 = .ok (.bipush 117, 2) := by decide +kernel
theorem dX28_init_376 : decode cX28_init 376 = .ok (.bastore, 1) := by decide +kernel
theorem dX28_init_377 : decode cX28_init 377 = .ok (.aastore, 1) := by decide +kernel
theorem dX28_init_378 : decode cX28_init 378 = .ok (.dup, 1) := by decide +kernel
theorem dX28_init_379 : decode cX28_init 379 = .ok (.bipush 7, 2) := by decide +kernel
theorem dX28_init_381 : decode cX28_init 381 = .ok (.iconst 3, 1) := by decide +kernel
theorem dX28_init_382 : decode cX28_init 382 = .ok (.newarray .byte, 2) := by decide +kernel
theorem dX28_init_384 : decode cX28_init 384 = .ok (.dup, 1) := by decide +kernel
theorem dX28_init_385 : decode cX28_init 385 = .ok (.iconst 0, 1) := by decide +kernel
theorem dX28_init_386 : decode cX28_init 386 = .ok (.bipush 101, 2) := by decide +kernel
theorem dX28_init_388 : decode cX28_init 388 = .ok (.bastore, 1) := by decide +kernel
theorem dX28_init_389 : decode cX28_init 389 = .ok (.dup, 1) := by decide +kernel
theorem dX28_init_390 : decode cX28_init 390 = .ok (.iconst 1, 1) := by decide +kernel
theorem dX28_init_391 : decode cX28_init 391 = .ok (.bipush 102, 2) := by decide +kernel
theorem dX28_init_393 : decode cX28_init 393 = .ok (.bastore, 1) := by decide +kernel
theorem dX28_init_394 : decode cX28_init 394 = .ok (.dup, 1) := by decide +kernel
theorem dX28_init_395 : decode cX28_init 395 = .ok (.iconst 2, 1) := by decide +kernel
theorem dX28_init_396 : decode cX28_init 396 = .ok (.bipush 117, 2) := by decide +kernel
theorem dX28_init_398 : decode cX28_init 398 = .ok (.bastore, 1) := by decide +kernel
theorem dX28_init_399 : decode cX28_init 399 = .ok (.aastore, 1) := by decide +kernel
theorem dX28_init_400 : decode cX28_init 400 = .ok (.putfield 687, 3) := by decide +kernel
theorem dX28_init_403 : decode cX28_init 403 = .ok (.aload_n 0, 1) := by decide +kernel
theorem dX28_init_404 : decode cX28_init 404 = .ok (.sipush 256, 3) := by decide +kernel
theorem dX28_init_407 : decode cX28_init 407 = .ok (.newarray .byte, 2) := by decide +kernel
theorem dX28_init_409 : decode cX28_init 409 = .ok (.putfield 798, 3) := by decide +kernel
theorem dX28_init_412 : decode cX28_init 412 = .ok (.aload_n 0, 1) := by decide +kernel
theorem dX28_init_413 : decode cX28_init 413 = .ok (.sipush 256, 3) := by decide +kernel
theorem dX28_init_416 : decode cX28_init 416 = .ok (.newarray .byte, 2) := by decide +kernel
theorem dX28_init_418 : decode cX28_init 418 = .ok (.putfield 801, 3) := by decide +kernel
theorem dX28_init_421 : decode cX28_init 421 = .ok (.aload_n 0, 1) := by decide +kernel
theorem dX28_init_422 : decode cX28_init 422 = .ok (.bipush 64, 2) := by decide +kernel
theorem dX28_init_424 : decode cX28_init 424 = .ok (.newarray .int, 2) := by decide +kernel
theorem dX28_init_426 : decode cX28_init 426 = .ok (.putfield 804, 3) := by decide +kernel
theorem dX28_init_429 : decode cX28_init 429 = .ok (.aload_n 0, 1) := by decide +kernel
theorem dX28_init_430 : decode cX28_init 430 = .ok (.bipush 64, 2) := by decide +kernel
theorem dX28_init_432 : decode cX28_init 432 = .ok (.newarray .int, 2) := by decide +kernel
theorem dX28_init_434 : decode cX28_init 434 = .ok (.putfield 807, 3) := by decide +kernel
theorem dX28_init_437 : decode cX28_init 437 = .ok (.aload_n 0, 1) := by decide +kernel
theorem dX28_init_438 : decode cX28_init 438 = .ok (.bipush 64, 2) := by decide +kernel
theorem dX28_init_440 : decode cX28_init 440 = .ok (.anewarray 359, 3) := by decide +kernel
theorem dX28_init_443 : decode cX28_init 443 = .ok (.putfield 810, 3) := by decide +kernel
theorem dX28_init_446 : decode cX28_init 446 = .ok (.aload_n 0, 1) := by decide +kernel
theorem dX28_init_447 : decode cX28_init 447 = .ok (.bipush 64, 2) := by decide +kernel
theorem dX28_init_449 : decode cX28_init 449 = .ok (.anewarray 359, 3) := by decide +kernel
theorem dX28_init_452 : decode cX28_init 452 = .ok (.putfield 814, 3) := by decide +kernel
theorem dX28_init_455 : decode cX28_init 455 = .ok (.aload_n 0, 1) := by decide +kernel
theorem dX28_init_456 : decode cX28_init 456 = .ok (.new 446, 3) := by decide +kernel
theorem dX28_init_459 : decode cX28_init 459 = .ok (.dup, 1) := by decide +kernel
theorem dX28_init_460 : decode cX28_init 460 = .ok (.invokespecial 1064, 3) := by decide +kernel
theorem dX28_init_463 : decode cX28_init 463 = .ok (.putfield 842, 3) := by decide +kernel
theorem dX28_init_466 : decode cX28_init 466 = .ok (.aload_n 0, 1) := by decide +kernel
theorem dX28_init_467 : decode cX28_init 467 = .ok (.bipush 64, 2) := by decide +kernel
theorem dX28_init_469 : decode cX28_init 469 = .ok (.newarray .byte, 2) := by decide +kernel
theorem dX28_init_471 : decode cX28_init 471 = .ok (.putfield 855, 3) := by decide +kernel
theorem dX28_init_474 : decode cX28_init 474 = .ok (.aload_n 0, 1) := by decide +kernel
theorem dX28_init_475 : decode cX28_init 475 = .ok (.bipush 64, 2) := by decide +kernel
theorem dX28_init_477 : decode cX28_init 477 = .ok (.newarray .int, 2) := by decide +kernel
theorem dX28_init_479 : decode cX28_init 479 = .ok (.putfield 869, 3) := by decide +kernel
theorem dX28_init_482 : decode cX28_init 482 = .ok (.aload_n 0, 1) := by decide +kernel
theorem dX28_init_483 : decode cX28_init 483 = .ok (.bipush 64, 2) := by decide +kernel
theorem dX28_init_485 : decode cX28_init 485 = .ok (.newarray .long, 2) := by decide +kernel
theorem dX28_init_487 : decode cX28_init 487 = .ok (.putfield 887, 3) := by decide +kernel
theorem dX28_init_490 : decode cX28_init 490 = .ok (.aload_n 0, 1) := by decide +kernel
theorem dX28_init_491 : decode cX28_init 491 = .ok (.bipush 65, 2) := by decide +kernel
theorem dX28_init_493 : decode cX28_init 493 = .ok (.newarray .boolean, 2) := by decide +kernel
theorem dX28_init_495 : decode cX28_init 495 = .ok (.putfield 872, 3) := by decide +kernel
theorem dX28_init_498 : decode cX28_init 498 = .ok (.aload_n 0, 1) := by decide +kernel
theorem dX28_init_499 : decode cX28_init 499 = .ok (.bipush 65, 2) := by decide +kernel
theorem dX28_init_501 : decode cX28_init 501 = .ok (.newarray .boolean, 2) := by decide +kernel
theorem dX28_init_503 : decode cX28_init 503 = .ok (.putfield 876, 3) := by decide +kernel
theorem dX28_init_506 : decode cX28_init 506 = .ok (.aload_n 0, 1) := by decide +kernel
theorem dX28_init_507 : decode cX28_init 507 = .ok (.new 446, 3) := by decide +kernel
theorem dX28_init_510 : decode cX28_init 510 = .ok (.dup, 1) := by decide +kernel
theorem dX28_init_511 : decode cX28_init 511 = .ok (.invokespecial 1064, 3) := by decide +kernel
theorem dX28_init_514 : decode cX28_init 514 = .ok (.putfield 994, 3) := by decide +kernel
theorem dX28_init_517 : decode cX28_init 517 = .ok (.aload_n 0, 1) := by decide +kernel
theorem dX28_init_518 : decode cX28_init 518 = .ok (.bipush 64, 2) := by decide +kernel
theorem dX28_init_520 : decode cX28_init 520 = .ok (.newarray .int, 2) := by decide +kernel
theorem dX28_init_522 : decode cX28_init 522 = .ok (.putfield 1385, 3) := by decide +kernel
theorem dX28_init_525 : decode cX28_init 525 = .ok (.aload_n 0, 1) := by decide +kernel
theorem dX28_init_526 : decode cX28_init 526 = .ok (.new 123, 3) := by decide +kernel
theorem dX28_init_529 : decode cX28_init 529 = .ok (.dup, 1) := by decide +kernel
theorem dX28_init_530 : decode cX28_init 530 = .ok (.invokespecial 753, 3) := by decide +kernel
theorem dX28_init_533 : decode cX28_init 533 = .ok (.putfield 1457, 3) := by decide +kernel
theorem dX28_init_536 : decode cX28_init 536 = .ok (.aload_n 0, 1) := by decide +kernel
theorem dX28_init_537 : decode cX28_init 537 = .ok (.new 123, 3) := by decide +kernel
theorem dX28_init_540 : decode cX28_init 540 = .ok (.dup, 1) := by decide +kernel
theorem dX28_init_541 : decode cX28_init 541 = .ok (.invokespecial 753, 3) := by decide +kernel
theorem dX28_init_544 : decode cX28_init 544 = .ok (.putfield 1460, 3) := by decide +kernel
theorem dX28_init_547 : decode cX28_init 547 = .ok (.aload_n 0, 1) := by decide +kernel
theorem dX28_init_548 : decode cX28_init 548 = .ok (.new 123, 3) := by decide +kernel
theorem dX28_init_551 : decode cX28_init 551 = .ok (.dup, 1) := by decide +kernel
theorem dX28_init_552 : decode cX28_init 552 = .ok (.invokespecial 753, 3) := by decide +kernel
theorem dX28_init_555 : decode cX28_init 555 = .ok (.putfield 1463, 3) := by decide +kernel
theorem dX28_init_558 : decode cX28_init 558 = .ok (.aload_n 0, 1) := by decide +kernel
theorem dX28_init_559 : decode cX28_init 559 = .ok (.new 123, 3) := by decide +kernel
theorem dX28_init_562 : decode cX28_init 562 = .ok (.dup, 1) := by decide +kernel
theorem dX28_init_563 : decode cX28_init 563 = .ok (.invokespecial 753, 3) := by decide +kernel
theorem dX28_init_566 : decode cX28_init 566 = .ok (.putfield 1466, 3) := by decide +kernel
theorem dX28_init_569 : decode cX28_init 569 = .ok (.aload_n 0, 1) := by decide +kernel
theorem dX28_init_570 : decode cX28_init 570 = .ok (.new 123, 3) := by decide +kernel
theorem dX28_init_573 : decode cX28_init 573 = .ok (.dup, 1) := by decide +kernel
theorem dX28_init_574 : decode cX28_init 574 = .ok (.invokespecial 753, 3) := by decide +kernel
theorem dX28_init_577 : decode cX28_init 577 = .ok (.putfield 1469, 3) := by decide +kernel
theorem dX28_init_580 : decode cX28_init 580 = .ok (.aload_n 0, 1) := by decide +kernel
theorem dX28_init_581 : decode cX28_init 581 = .ok (.invokevirtual 1472, 3) := by decide +kernel
theorem dX28_init_584 : decode cX28_init 584 = .ok (.return_, 1) := by decide +kernel
theorem dX28_fails_0 : decode cX28_fails 0 = .ok (.aload_n 0, 1) := by decide +kernel
theorem dX28_fails_1 : decode cX28_fails 1 = .ok (.iload_n 1, 1) := by decide +kernel
theorem dX28_fails_2 : decode cX28_fails 2 = .ok (.ifCond .eq 7, 3) := by decide +kernel
theorem dX28_fails_9 : decode cX28_fails 9 = .ok (.iload_n 2, 1) := by decide +kernel
theorem dX28_fails_10 : decode cX28_fails 10 = .ok (.ifCond .eq 7, 3) := by decide +kernel
theorem dX28_fails_17 : decode cX28_fails 17 = .ok (.iconst 0, 1) := by decide +kernel
theorem dX28_fails_18 : decode cX28_fails 18 = .ok (.putfield 1475, 3) := by decide +kernel
theorem dX28_fails_21 : decode cX28_fails 21 = .ok (.aload_n 0, 1) := by decide +kernel
theorem dX28_fails_22 : decode cX28_fails 22 = .ok (.getfield 1475, 3) := by decide +kernel
theorem dX28_fails_25 : decode cX28_fails 25 = .ok (.ifCond .le 7, 3) := by decide +kernel
theorem dX28_fails_32 : decode cX28_fails 32 = .ok (.iconst 0, 1) := by decide +kernel
theorem dX28_fails_33 : decode cX28_fails 33 = .ok (.ireturn, 1) := by decide +kernel
theorem dX28_begin0_0 : decode cX28_begin0 0 = .ok (.aload_n 0, 1) := by decide +kernel
theorem dX28_begin0_1 : decode cX28_begin0 1 = .ok (.getfield 570, 3) := by decide +kernel
theorem dX28_begin0_4 : decode cX28_begin0 4 = .ok (.invokevirtual 1478, 3) := by decide +kernel
theorem dX28_begin0_7 : decode cX28_begin0 7 = .ok (.aload_n 0, 1) := by decide +kernel
theorem dX28_begin0_8 : decode cX28_begin0 8 = .ok (.getfield 1032, 3) := by decide +kernel
theorem dX28_begin0_11 : decode cX28_begin0 11 = .ok (.invokevirtual 1478, 3) := by decide +kernel
theorem dX28_begin0_14 : decode cX28_begin0 14 = .ok (.aload_n 0, 1) := by decide +kernel
theorem dX28_begin0_15 : decode cX28_begin0 15 = .ok (.getfield 1366, 3) := by decide +kernel
theorem dX28_begin0_18 : decode cX28_begin0 18 = .ok (.invokevirtual 1478, 3) := by decide +kernel
theorem dX28_begin0_21 : decode cX28_begin0 21 = .ok (.aload_n 0, 1) := by decide +kernel
theorem dX28_begin0_22 : decode cX28_begin0 22 = .ok (.iconst 0, 1) := by decide +kernel
theorem dX28_begin0_23 : decode cX28_begin0 23 = .ok (.anewarray 464, 3) := by decide +kernel
theorem dX28_begin0_26 : decode cX28_begin0 26 = .ok (.putfield 585, 3) := by decide +kernel
theorem dX28_begin0_29 : decode cX28_begin0 29 = .ok (.aload_n 0, 1) := by decide +kernel
theorem dX28_begin0_30 : decode cX28_begin0 30 = .ok (.iconst 0, 1) := by decide +kernel
theorem dX28_begin0_31 : decode cX28_begin0 31 = .ok (.putfield 588, 3) := by decide +kernel
theorem dX28_begin0_34 : decode cX28_begin0 34 = .ok (.aload_n 0, 1) := by decide +kernel
theorem dX28_begin0_35 : decode cX28_begin0 35 = .ok (.iconst 0, 1) := by decide +kernel
theorem dX28_begin0_36 : decode cX28_begin0 36 = .ok (.putfield 644, 3) := by decide +kernel
theorem dX28_begin0_39 : decode cX28_begin0 39 = .ok (.aload_n 0, 1) := by decide +kernel
theorem dX28_begin0_40 : decode cX28_begin0 40 = .ok (.iconst 0, 1) := by decide +kernel
theorem dX28_begin0_41 : decode cX28_begin0 41 = .ok (.putfield 690, 3) := by decide +kernel
theorem dX28_begin0_44 : decode cX28_begin0 44 = .ok (.aload_n 0, 1) := by decide +kernel
theorem dX28_begin0_45 : decode cX28_begin0 45 = .ok (.iconst 0, 1) := by decide +kernel
theorem dX28_begin0_46 : decode cX28_begin0 46 = .ok (.putfield 693, 3) := by decide +kernel
theorem dX28_begin0_49 : decode cX28_begin0 49 = .ok (.aload_n 0, 1) := by decide +kernel
theorem dX28_begin0_50 : decode cX28_begin0 50 = .ok (.iconst 0, 1) := by decide +kernel
theorem dX28_begin0_51 : decode cX28_begin0 51 = .ok (.putfield 696, 3) := by decide +kernel
theorem dX28_begin0_54 : decode cX28_begin0 54 = .ok (.aload_n 0, 1) := by decide +kernel
theorem dX28_begin0_55 : decode cX28_begin0 55 = .ok (.iconst 0, 1) := by decide +kernel
theorem dX28_begin0_56 : decode cX28_begin0 56 = .ok (.putfield 506, 3) := by decide +kernel
theorem dX28_begin0_59 : decode cX28_begin0 59 = .ok (.aload_n 0, 1) := by decide +kernel
theorem dX28_begin0_60 : decode cX28_begin0 60 = .ok (.new 359, 3) := by decide +kernel
theorem dX28_begin0_63 : decode cX28_begin0 63 = .ok (.dup, 1) := by decide +kernel
theorem dX28_begin0_64 : decode cX28_begin0 64 = .ok (.iconst 0, 1) := by decide +kernel
theorem dX28_begin0_65 : decode cX28_begin0 65 = .ok (.newarray .byte, 2) := by decide +kernel
theorem dX28_begin0_67 : decode cX28_begin0 67 = .ok (.iconst 1, 1) := by decide +kernel
theorem dX28_begin0_68 : decode cX28_begin0 68 = .ok (.invokespecial 420, 3) := by decide +kernel
theorem dX28_begin0_71 : decode cX28_begin0 71 = .ok (.putfield 374, 3) := by decide +kernel
theorem dX28_begin0_74 : decode cX28_begin0 74 = .ok (.aload_n 0, 1) := by decide +kernel
theorem dX28_begin0_75 : decode cX28_begin0 75 = .ok (.aload_n 0, 1) := by decide +kernel
theorem dX28_begin0_76 : decode cX28_begin0 76 = .ok (.getfield 374, 3) := by decide +kernel
theorem dX28_begin0_79 : decode cX28_begin0 79 = .ok (.putfield 823, 3) := by decide +kernel
theorem dX28_begin0_82 : decode cX28_begin0 82 = .ok (.aload_n 0, 1) := by decide +kernel
theorem dX28_begin0_83 : decode cX28_begin0 83 = .ok (.iconst 0, 1) := by decide +kernel
theorem dX28_begin0_84 : decode cX28_begin0 84 = .ok (.putfield 414, 3) := by decide +kernel
theorem dX28_begin0_87 : decode cX28_begin0 87 = .ok (.aload_n 0, 1) := by decide +kernel
theorem dX28_begin0_88 : decode cX28_begin0 88 = .ok (.iconst 1, 1) := by decide +kernel
theorem dX28_begin0_89 : decode cX28_begin0 89 = .ok (.putfield 417, 3) := by decide +kernel
theorem dX28_begin0_92 : decode cX28_begin0 92 = .ok (.aload_n 0, 1) := by decide +kernel
theorem dX28_begin0_93 : decode cX28_begin0 93 = .ok (.iconst 0, 1) := by decide +kernel
theorem dX28_begin0_94 : decode cX28_begin0 94 = .ok (.putfield 434, 3) := by decide +kernel
theorem dX28_begin0_97 : decode cX28_begin0 97 = .ok (.aload_n 0, 1) := by decide +kernel
theorem dX28_begin0_98 : decode cX28_begin0 98 = .ok (.aconst_null, 1) := by decide +kernel
theorem dX28_begin0_99 : decode cX28_begin0 99 = .ok (.putfield 1479, 3) := by decide +kernel
theorem dX28_begin0_102 : decode cX28_begin0 102 = .ok (.aload_n 0, 1) := by decide +kernel
theorem dX28_begin0_103 : decode cX28_begin0 103 = .ok (.iconst 0, 1) := by decide +kernel
theorem dX28_begin0_104 : decode cX28_begin0 104 = .ok (.putfield 1480, 3) := by decide +kernel
theorem dX28_begin0_107 : decode cX28_begin0 107 = .ok (.aload_n 0, 1) := by decide +kernel
theorem dX28_begin0_108 : decode cX28_begin0 108 = .ok (.iconst 0, 1) := by decide +kernel
theorem dX28_begin0_109 : decode cX28_begin0 109 = .ok (.putfield 1482, 3) := by decide +kernel
theorem dX28_begin0_112 : decode cX28_begin0 112 = .ok (.aload_n 0, 1) := by decide +kernel
theorem dX28_begin0_113 : decode cX28_begin0 113 = .ok (.iconst 0, 1) := by decide +kernel
theorem dX28_begin0_114 : decode cX28_begin0 114 = .ok (.putfield 1485, 3) := by decide +kernel
theorem dX28_begin0_117 : decode cX28_begin0 117 = .ok (.aload_n 0, 1) := by decide +kernel
theorem dX28_begin0_118 : decode cX28_begin0 118 = .ok (.iconst 0, 1) := by decide +kernel
theorem dX28_begin0_119 : decode cX28_begin0 119 = .ok (.putfield 1100, 3) := by decide +kernel
theorem dX28_begin0_122 : decode cX28_begin0 122 = .ok (.aload_n 0, 1) := by decide +kernel
theorem dX28_begin0_123 : decode cX28_begin0 123 = .ok (.getfield 1463, 3) := by decide +kernel
theorem dX28_begin0_126 : decode cX28_begin0 126 = .ok (.iconst 0, 1) := by decide +kernel
theorem dX28_begin0_127 : decode cX28_begin0 127 = .ok (.putfield 122, 3) := by decide +kernel
theorem dX28_begin0_130 : decode cX28_begin0 130 = .ok (.aload_n 0, 1) := by decide +kernel
theorem dX28_begin0_131 : decode cX28_begin0 131 = .ok (.getfield 1466, 3) := by decide +kernel
theorem dX28_begin0_134 : decode cX28_begin0 134 = .ok (.iconst 0, 1) := by decide +kernel
theorem dX28_begin0_135 : decode cX28_begin0 135 = .ok (.putfield 122, 3) := by decide +kernel
theorem dX28_begin0_138 : decode cX28_begin0 138 = .ok (.aload_n 0, 1) := by decide +kernel
theorem dX28_begin0_139 : decode cX28_begin0 139 = .ok (.iconst 0, 1) := by decide +kernel
theorem dX28_begin0_140 : decode cX28_begin0 140 = .ok (.new 123, 3) := by decide +kernel
theorem dX28_begin0_143 : decode cX28_begin0 143 = .ok (.dup, 1) := by decide +kernel
theorem dX28_begin0_144 : decode cX28_begin0 144 = .ok (.invokespecial 753, 3) := by decide +kernel
theorem dX28_begin0_147 : decode cX28_begin0 147 = .ok (.iconst 0, 1) := by decide +kernel
theorem dX28_begin0_148 : decode cX28_begin0 148 = .ok (.aconst_null, 1) := by decide +kernel
theorem dX28_begin0_149 : decode cX28_begin0 149 = .ok (.invokestatic 758, 3) := by decide +kernel
theorem dX28_begin0_152 : decode cX28_begin0 152 = .ok (.putfield 1488, 3) := by decide +kernel
theorem dX28_begin0_155 : decode cX28_begin0 155 = .ok (.return_, 1) := by decide +kernel
theorem dX28_feed_0 : decode cX28_feed 0 = .ok (.aload_n 0, 1) := by decide +kernel
theorem dX28_feed_1 : decode cX28_feed 1 = .ok (.iconst 0, 1) := by decide +kernel
theorem dX28_feed_2 : decode cX28_feed 2 = .ok (.putfield 1475, 3) := by decide +kernel
theorem dX28_feed_5 : decode cX28_feed 5 = .ok (.aload_n 0, 1) := by decide +kernel
theorem dX28_feed_6 : decode cX28_feed 6 = .ok (.getfield 1457, 3) := by decide +kernel
theorem dX28_feed_9 : decode cX28_feed 9 = .ok (.getfield 122, 3) := by decide +kernel
theorem dX28_feed_12 : decode cX28_feed 12 = .ok (.bipush 20, 2) := by decide +kernel
theorem dX28_feed_14 : decode cX28_feed 14 = .ok (.iadd, 1) := by decide +kernel
theorem dX28_feed_15 : decode cX28_feed 15 = .ok (.sipush 16384, 3) := by decide +kernel
theorem dX28_feed_18 : decode cX28_feed 18 = .ok (.if_icmp .le 5, 3) := by decide +kernel
theorem dX28_feed_23 : decode cX28_feed 23 = .ok (.aload_n 0, 1) := by decide +kernel
theorem dX28_feed_24 : decode cX28_feed 24 = .ok (.iload_n 1, 1) := by decide +kernel
theorem dX28_feed_25 : decode cX28_feed 25 = .ok (.invokevirtual 1492, 3) := by decide +kernel
theorem dX28_feed_28 : decode cX28_feed 28 = .ok (.aload_n 0, 1) := by decide +kernel
theorem dX28_feed_29 : decode cX28_feed 29 = .ok (.iload_n 2, 1) := by decide +kernel
theorem dX28_feed_30 : decode cX28_feed 30 = .ok (.invokevirtual 1492, 3) := by decide +kernel
theorem dX28_feed_33 : decode cX28_feed 33 = .ok (.aload_n 0, 1) := by decide +kernel
theorem dX28_feed_34 : decode cX28_feed 34 = .ok (.iload_n 3, 1) := by decide +kernel
theorem dX28_feed_35 : decode cX28_feed 35 = .ok (.invokevirtual 1492, 3) := by decide +kernel
theorem dX28_feed_38 : decode cX28_feed 38 = .ok (.aload_n 0, 1) := by decide +kernel
theorem dX28_feed_39 : decode cX28_feed 39 = .ok (.iload 4, 2) := by decide +kernel
theorem dX28_feed_41 : decode cX28_feed 41 = .ok (.invokevirtual 1492, 3) := by decide +kernel
theorem dX28_feed_44 : decode cX28_feed 44 = .ok (.aload_n 0, 1) := by decide +kernel
theorem dX28_feed_45 : decode cX28_feed 45 = .ok (.iload 5, 2) := by decide +kernel
theorem dX28_feed_47 : decode cX28_feed 47 = .ok (.invokevirtual 1492, 3) := by decide +kernel
theorem dX28_feed_50 : decode cX28_feed 50 = .ok (.aload_n 0, 1) := by decide +kernel
theorem dX28_feed_51 : decode cX28_feed 51 = .ok (.getfield 1457, 3) := by decide +kernel
theorem dX28_feed_54 : decode cX28_feed 54 = .ok (.getfield 122, 3) := by decide +kernel
theorem dX28_feed_57 : decode cX28_feed 57 = .ok (.ireturn, 1) := by decide +kernel
theorem dX28_five_0 : decode cX28_five 0 = .ok (.iconst 3, 1) := by decide +kernel
theorem dX28_five_1 : decode cX28_five 1 = .ok (.istore_n 2, 1) := by decide +kernel
theorem dX28_five_2 : decode cX28_five 2 = .ok (.iload_n 2, 1) := by decide +kernel
theorem dX28_five_3 : decode cX28_five 3 = .ok (.ifCond .lt 22, 3) := by decide +kernel
theorem dX28_five_6 : decode cX28_five 6 = .ok (.aload_n 0, 1) := by decide +kernel
theorem dX28_five_7 : decode cX28_five 7 = .ok (.getfield 1457, 3) := by decide +kernel
theorem dX28_five_10 : decode cX28_five 10 = .ok (.iload_n 1, 1) := by decide +kernel
theorem dX28_five_11 : decode cX28_five 11 = .ok (.bipush 8, 2) := by decide +kernel
theorem dX28_five_13 : decode cX28_five 13 = .ok (.iload_n 2, 1) := by decide +kernel
theorem dX28_five_14 : decode cX28_five 14 = .ok (.imul, 1) := by decide +kernel
theorem dX28_five_15 : decode cX28_five 15 = .ok (.ishr, 1) := by decide +kernel
theorem dX28_five_16 : decode cX28_five 16 = .ok (.invokevirtual 144, 3) := by decide +kernel
theorem dX28_five_19 : decode cX28_five 19 = .ok (.iinc 2 (-1), 3) := by decide +kernel
theorem dX28_five_22 : decode cX28_five 22 = .ok (.goto (-20), 3) := by decide +kernel
theorem dX28_five_25 : decode cX28_five 25 = .ok (.return_, 1) := by decide +kernel
theorem dX28_taken_0 : decode cX28_taken 0 = .ok (.aload_n 0, 1) := by decide +kernel
theorem dX28_taken_1 : decode cX28_taken 1 = .ok (.getfield 1457, 3) := by decide +kernel
theorem dX28_taken_4 : decode cX28_taken 4 = .ok (.getfield 497, 3) := by decide +kernel
theorem dX28_taken_7 : decode cX28_taken 7 = .ok (.iconst 0, 1) := by decide +kernel
theorem dX28_taken_8 : decode cX28_taken 8 = .ok (.iload_n 1, 1) := by decide +kernel
theorem dX28_taken_9 : decode cX28_taken 9 = .ok (.invokestatic 38, 3) := by decide +kernel
theorem dX28_taken_12 : decode cX28_taken 12 = .ok (.astore_n 2, 1) := by decide +kernel
theorem dX28_taken_13 : decode cX28_taken 13 = .ok (.aload_n 0, 1) := by decide +kernel
theorem dX28_taken_14 : decode cX28_taken 14 = .ok (.getfield 1457, 3) := by decide +kernel
theorem dX28_taken_17 : decode cX28_taken 17 = .ok (.iconst 0, 1) := by decide +kernel
theorem dX28_taken_18 : decode cX28_taken 18 = .ok (.putfield 122, 3) := by decide +kernel
theorem dX28_taken_21 : decode cX28_taken 21 = .ok (.aload_n 2, 1) := by decide +kernel
theorem dX28_taken_22 : decode cX28_taken 22 = .ok (.areturn, 1) := by decide +kernel
theorem dX28_has__0 : decode cX28_has_ 0 = .ok (.lload_n 1, 1) := by decide +kernel
theorem dX28_has__1 : decode cX28_has_ 1 = .ok (.lconst 0, 1) := by decide +kernel
theorem dX28_has__2 : decode cX28_has_ 2 = .ok (.lcmp, 1) := by decide +kernel
theorem dX28_has__3 : decode cX28_has_ 3 = .ok (.ifCond .lt 20, 3) := by decide +kernel
theorem dX28_has__6 : decode cX28_has_ 6 = .ok (.lload_n 1, 1) := by decide +kernel
theorem dX28_has__7 : decode cX28_has_ 7 = .ok (.aload_n 0, 1) := by decide +kernel
theorem dX28_has__8 : decode cX28_has_ 8 = .ok (.getfield 1457, 3) := by decide +kernel
theorem dX28_has__11 : decode cX28_has_ 11 = .ok (.getfield 122, 3) := by decide +kernel
theorem dX28_has__14 : decode cX28_has_ 14 = .ok (.i2l, 1) := by decide +kernel
theorem dX28_has__15 : decode cX28_has_ 15 = .ok (.lcmp, 1) := by decide +kernel
theorem dX28_has__16 : decode cX28_has_ 16 = .ok (.ifCond .gt 7, 3) := by decide +kernel
theorem dX28_has__19 : decode cX28_has_ 19 = .ok (.iconst 1, 1) := by decide +kernel
theorem dX28_has__20 : decode cX28_has_ 20 = .ok (.goto 4, 3) := by decide +kernel
theorem dX28_has__24 : decode cX28_has_ 24 = .ok (.istore_n 3, 1) := by decide +kernel
theorem dX28_has__25 : decode cX28_has_ 25 = .ok (.iconst 0, 1) := by decide +kernel
theorem dX28_has__26 : decode cX28_has_ 26 = .ok (.istore 4, 2) := by decide +kernel
theorem dX28_has__28 : decode cX28_has_ 28 = .ok (.iload_n 3, 1) := by decide +kernel
theorem dX28_has__29 : decode cX28_has_ 29 = .ok (.ifCond .eq 31, 3) := by decide +kernel
theorem dX28_has__32 : decode cX28_has_ 32 = .ok (.iload 4, 2) := by decide +kernel
theorem dX28_has__34 : decode cX28_has_ 34 = .ok (.i2l, 1) := by decide +kernel
theorem dX28_has__35 : decode cX28_has_ 35 = .ok (.lload_n 1, 1) := by decide +kernel
theorem dX28_has__36 : decode cX28_has_ 36 = .ok (.lcmp, 1) := by decide +kernel
theorem dX28_has__37 : decode cX28_has_ 37 = .ok (.ifCond .ge 23, 3) := by decide +kernel
theorem dX28_has__40 : decode cX28_has_ 40 = .ok (.aload_n 0, 1) := by decide +kernel
theorem dX28_has__41 : decode cX28_has_ 41 = .ok (.getfield 1457, 3) := by decide +kernel
theorem dX28_has__44 : decode cX28_has_ 44 = .ok (.getfield 497, 3) := by decide +kernel
theorem dX28_has__47 : decode cX28_has_ 47 = .ok (.iload 4, 2) := by decide +kernel
theorem dX28_has__49 : decode cX28_has_ 49 = .ok (.baload, 1) := by decide +kernel
theorem dX28_has__50 : decode cX28_has_ 50 = .ok (.invokestatic 53, 3) := by decide +kernel
theorem dX28_has__53 : decode cX28_has_ 53 = .ok (.istore_n 3, 1) := by decide +kernel
theorem dX28_has__54 : decode cX28_has_ 54 = .ok (.iinc 4 1, 3) := by decide +kernel
theorem dX28_has__57 : decode cX28_has_ 57 = .ok (.goto (-29), 3) := by decide +kernel
theorem dX28_has__60 : decode cX28_has_ 60 = .ok (.iload_n 3, 1) := by decide +kernel
theorem dX28_has__61 : decode cX28_has_ 61 = .ok (.ireturn, 1) := by decide +kernel
theorem dX28_read__0 : decode cX28_read_ 0 = .ok (.aload_n 0, 1) := by decide +kernel
theorem dX28_read__1 : decode cX28_read_ 1 = .ok (.aload_n 0, 1) := by decide +kernel
theorem dX28_read__2 : decode cX28_read_ 2 = .ok (.iload_n 1, 1) := by decide +kernel
theorem dX28_read__3 : decode cX28_read_ 3 = .ok (.i2l, 1) := by decide +kernel
theorem dX28_read__4 : decode cX28_read_ 4 = .ok (.invokevirtual 1495, 3) := by decide +kernel
theorem dX28_read__7 : decode cX28_read_ 7 = .ok (.ifCond .ne 7, 3) := by decide +kernel
theorem dX28_read__14 : decode cX28_read_ 14 = .ok (.iconst 0, 1) := by decide +kernel
theorem dX28_read__15 : decode cX28_read_ 15 = .ok (.iconst 0, 1) := by decide +kernel
theorem dX28_read__16 : decode cX28_read_ 16 = .ok (.invokevirtual 1498, 3) := by decide +kernel
theorem dX28_read__19 : decode cX28_read_ 19 = .ok (.ifCond .eq 5, 3) := by decide +kernel
theorem dX28_read__24 : decode cX28_read_ 24 = .ok (.aload_n 0, 1) := by decide +kernel
theorem dX28_read__25 : decode cX28_read_ 25 = .ok (.iload_n 1, 1) := by decide +kernel
theorem dX28_read__26 : decode cX28_read_ 26 = .ok (.invokevirtual 1502, 3) := by decide +kernel
theorem dX28_read__29 : decode cX28_read_ 29 = .ok (.astore_n 2, 1) := by decide +kernel
theorem dX28_read__30 : decode cX28_read_ 30 = .ok (.aload_n 0, 1) := by decide +kernel
theorem dX28_read__31 : decode cX28_read_ 31 = .ok (.iconst 0, 1) := by decide +kernel
theorem dX28_read__32 : decode cX28_read_ 32 = .ok (.putfield 1482, 3) := by decide +kernel
theorem dX28_read__35 : decode cX28_read_ 35 = .ok (.aload_n 0, 1) := by decide +kernel
theorem dX28_read__36 : decode cX28_read_ 36 = .ok (.aload_n 0, 1) := by decide +kernel
theorem dX28_read__37 : decode cX28_read_ 37 = .ok (.aload_n 2, 1) := by decide +kernel
theorem dX28_read__38 : decode cX28_read_ 38 = .ok (.invokevirtual 1183, 3) := by decide +kernel
theorem dX28_put__0 : decode cX28_put_ 0 = .ok (.iload_n 2, 1) := by decide +kernel
theorem dX28_put__1 : decode cX28_put_ 1 = .ok (.ifCond .lt 32, 3) := by decide +kernel
theorem dX28_put__4 : decode cX28_put_ 4 = .ok (.iload_n 3, 1) := by decide +kernel
theorem dX28_put__5 : decode cX28_put_ 5 = .ok (.ifCond .lt 28, 3) := by decide +kernel
theorem dX28_put__8 : decode cX28_put_ 8 = .ok (.aload_n 0, 1) := by decide +kernel
theorem dX28_put__9 : decode cX28_put_ 9 = .ok (.iload_n 2, 1) := by decide +kernel
theorem dX28_put__10 : decode cX28_put_ 10 = .ok (.i2l, 1) := by decide +kernel
theorem dX28_put__11 : decode cX28_put_ 11 = .ok (.iload_n 3, 1) := by decide +kernel
theorem dX28_put__12 : decode cX28_put_ 12 = .ok (.i2l, 1) := by decide +kernel
theorem dX28_put__13 : decode cX28_put_ 13 = .ok (.ladd, 1) := by decide +kernel
theorem dX28_put__14 : decode cX28_put_ 14 = .ok (.invokevirtual 1495, 3) := by decide +kernel
theorem dX28_put__17 : decode cX28_put_ 17 = .ok (.ifCond .eq 16, 3) := by decide +kernel
theorem dX28_put__20 : decode cX28_put_ 20 = .ok (.iload_n 1, 1) := by decide +kernel
theorem dX28_put__21 : decode cX28_put_ 21 = .ok (.ifCond .lt 12, 3) := by decide +kernel
theorem dX28_put__24 : decode cX28_put_ 24 = .ok (.iload_n 1, 1) := by decide +kernel
theorem dX28_put__25 : decode cX28_put_ 25 = .ok (.iconst 4, 1) := by decide +kernel
theorem dX28_put__26 : decode cX28_put_ 26 = .ok (.if_icmp .ge 7, 3) := by decide +kernel
theorem dX28_put__29 : decode cX28_put_ 29 = .ok (.iconst 1, 1) := by decide +kernel
theorem dX28_put__30 : decode cX28_put_ 30 = .ok (.goto 4, 3) := by decide +kernel
theorem dX28_put__34 : decode cX28_put_ 34 = .ok (.istore 4, 2) := by decide +kernel
theorem dX28_put__36 : decode cX28_put_ 36 = .ok (.aload_n 0, 1) := by decide +kernel
theorem dX28_put__37 : decode cX28_put_ 37 = .ok (.iload 4, 2) := by decide +kernel
theorem dX28_put__39 : decode cX28_put_ 39 = .ok (.ifCond .ne 7, 3) := by decide +kernel
theorem dX28_put__46 : decode cX28_put_ 46 = .ok (.iconst 0, 1) := by decide +kernel
theorem dX28_put__47 : decode cX28_put_ 47 = .ok (.iconst 0, 1) := by decide +kernel
theorem dX28_put__48 : decode cX28_put_ 48 = .ok (.invokevirtual 1498, 3) := by decide +kernel
theorem dX28_put__51 : decode cX28_put_ 51 = .ok (.ifCond .eq 5, 3) := by decide +kernel
theorem dX28_put__56 : decode cX28_put_ 56 = .ok (.aload_n 0, 1) := by decide +kernel
theorem dX28_put__57 : decode cX28_put_ 57 = .ok (.getfield 1457, 3) := by decide +kernel
theorem dX28_put__60 : decode cX28_put_ 60 = .ok (.getfield 497, 3) := by decide +kernel
theorem dX28_put__63 : decode cX28_put_ 63 = .ok (.iconst 0, 1) := by decide +kernel
theorem dX28_put__64 : decode cX28_put_ 64 = .ok (.iload_n 2, 1) := by decide +kernel
theorem dX28_put__65 : decode cX28_put_ 65 = .ok (.invokestatic 38, 3) := by decide +kernel
theorem dX28_put__68 : decode cX28_put_ 68 = .ok (.astore 5, 2) := by decide +kernel
theorem dX28_put__70 : decode cX28_put_ 70 = .ok (.aload_n 0, 1) := by decide +kernel
theorem dX28_put__71 : decode cX28_put_ 71 = .ok (.getfield 1457, 3) := by decide +kernel
theorem dX28_put__74 : decode cX28_put_ 74 = .ok (.getfield 497, 3) := by decide +kernel
theorem dX28_put__77 : decode cX28_put_ 77 = .ok (.iload_n 2, 1) := by decide +kernel
theorem dX28_put__78 : decode cX28_put_ 78 = .ok (.iload_n 2, 1) := by decide +kernel
theorem dX28_put__79 : decode cX28_put_ 79 = .ok (.iload_n 3, 1) := by decide +kernel
theorem dX28_put__80 : decode cX28_put_ 80 = .ok (.iadd, 1) := by decide +kernel
theorem dX28_put__81 : decode cX28_put_ 81 = .ok (.invokestatic 38, 3) := by decide +kernel
theorem dX28_put__84 : decode cX28_put_ 84 = .ok (.astore 6, 2) := by decide +kernel
theorem dX28_put__86 : decode cX28_put_ 86 = .ok (.aload_n 0, 1) := by decide +kernel
theorem dX28_put__87 : decode cX28_put_ 87 = .ok (.getfield 1457, 3) := by decide +kernel
theorem dX28_put__90 : decode cX28_put_ 90 = .ok (.iconst 0, 1) := by decide +kernel
theorem dX28_put__91 : decode cX28_put_ 91 = .ok (.putfield 122, 3) := by decide +kernel
theorem dX28_put__94 : decode cX28_put_ 94 = .ok (.iload_n 1, 1) := by decide +kernel
theorem dX28_put__95 : decode cX28_put_ 95 = .ok (.ifCond .ne 46, 3) := by decide +kernel
theorem dX28_put__141 : decode cX28_put_ 141 = .ok (.iload_n 1, 1) := by decide +kernel
theorem dX28_put__142 : decode cX28_put_ 142 = .ok (.iconst 2, 1) := by decide +kernel
theorem dX28_put__143 : decode cX28_put_ 143 = .ok (.if_icmp .ne 40, 3) := by decide +kernel
theorem dX28_put__146 : decode cX28_put_ 146 = .ok (.aload 5, 2) := by decide +kernel
theorem dX28_put__148 : decode cX28_put_ 148 = .ok (.invokestatic 1204, 3) := by decide +kernel
theorem dX28_put__151 : decode cX28_put_ 151 = .ok (.ifCond .eq 11, 3) := by decide +kernel
theorem dX28_put__154 : decode cX28_put_ 154 = .ok (.aload 6, 2) := by decide +kernel
theorem dX28_put__156 : decode cX28_put_ 156 = .ok (.invokestatic 1369, 3) := by decide +kernel
theorem dX28_put__159 : decode cX28_put_ 159 = .ok (.ifCond .ne 5, 3) := by decide +kernel
theorem dX28_put__164 : decode cX28_put_ 164 = .ok (.aload_n 0, 1) := by decide +kernel
theorem dX28_put__165 : decode cX28_put_ 165 = .ok (.aload_n 0, 1) := by decide +kernel
theorem dX28_put__166 : decode cX28_put_ 166 = .ok (.getfield 1366, 3) := by decide +kernel
theorem dX28_put__169 : decode cX28_put_ 169 = .ok (.aload 5, 2) := by decide +kernel
theorem dX28_put__171 : decode cX28_put_ 171 = .ok (.iconst 1, 1) := by decide +kernel
theorem dX28_put__172 : decode cX28_put_ 172 = .ok (.invokevirtual 573, 3) := by decide +kernel
theorem dX28_put__175 : decode cX28_put_ 175 = .ok (.aload 6, 2) := by decide +kernel
theorem dX28_put__177 : decode cX28_put_ 177 = .ok (.iconst 1, 1) := by decide +kernel
theorem dX28_put__178 : decode cX28_put_ 178 = .ok (.invokevirtual 577, 3) := by decide +kernel
theorem dX28_put__181 : decode cX28_put_ 181 = .ok (.iconst 1, 1) := by decide +kernel
theorem dX28_put__182 : decode cX28_put_ 182 = .ok (.ireturn, 1) := by decide +kernel
theorem dJ0_length_8abf5_0 : decode cJ0_length_8abf5 0 = .ok (.aload_n 0, 1) := by decide +kernel
theorem dJ0_length_8abf5_1 : decode cJ0_length_8abf5 1 = .ok (.getfield 9, 3) := by decide +kernel
theorem dJ0_length_8abf5_4 : decode cJ0_length_8abf5 4 = .ok (.arraylength, 1) := by decide +kernel
theorem dJ0_length_8abf5_5 : decode cJ0_length_8abf5 5 = .ok (.aload_n 0, 1) := by decide +kernel
theorem dJ0_length_8abf5_6 : decode cJ0_length_8abf5 6 = .ok (.invokevirtual 335, 3) := by decide +kernel
theorem dJ0_length_8abf5_9 : decode cJ0_length_8abf5 9 = .ok (.ishr, 1) := by decide +kernel
theorem dJ0_length_8abf5_10 : decode cJ0_length_8abf5 10 = .ok (.ireturn, 1) := by decide +kernel
theorem dJ0_charAt_5068e_0 : decode cJ0_charAt_5068e 0 = .ok (.aload_n 0, 1) := by decide +kernel
theorem dJ0_charAt_5068e_1 : decode cJ0_charAt_5068e 1 = .ok (.invokevirtual 492, 3) := by decide +kernel
theorem dJ0_charAt_5068e_4 : decode cJ0_charAt_5068e 4 = .ok (.ifCond .eq 12, 3) := by decide +kernel
theorem dJ0_charAt_5068e_7 : decode cJ0_charAt_5068e 7 = .ok (.aload_n 0, 1) := by decide +kernel
theorem dJ0_charAt_5068e_8 : decode cJ0_charAt_5068e 8 = .ok (.getfield 9, 3) := by decide +kernel
theorem dJ0_charAt_5068e_11 : decode cJ0_charAt_5068e 11 = .ok (.iload_n 1, 1) := by decide +kernel
theorem dJ0_charAt_5068e_12 : decode cJ0_charAt_5068e 12 = .ok (.invokestatic 495, 3) := by decide +kernel
theorem dJ0_charAt_5068e_15 : decode cJ0_charAt_5068e 15 = .ok (.ireturn, 1) := by decide +kernel
theorem dJ0_coder_7d493_0 : decode cJ0_coder_7d493 0 = .ok (.getstatic 38, 3) := by decide +kernel
theorem dJ0_coder_7d493_3 : decode cJ0_coder_7d493 3 = .ok (.ifCond .eq 10, 3) := by decide +kernel
theorem dJ0_coder_7d493_6 : decode cJ0_coder_7d493 6 = .ok (.aload_n 0, 1) := by decide +kernel
theorem dJ0_coder_7d493_7 : decode cJ0_coder_7d493 7 = .ok (.getfield 15, 3) := by decide +kernel
theorem dJ0_coder_7d493_10 : decode cJ0_coder_7d493 10 = .ok (.goto 4, 3) := by decide +kernel
theorem dJ0_coder_7d493_14 : decode cJ0_coder_7d493 14 = .ok (.ireturn, 1) := by decide +kernel
theorem dJ0_isLatin1_aae02_0 : decode cJ0_isLatin1_aae02 0 = .ok (.getstatic 38, 3) := by decide +kernel
theorem dJ0_isLatin1_aae02_3 : decode cJ0_isLatin1_aae02 3 = .ok (.ifCond .eq 14, 3) := by decide +kernel
theorem dJ0_isLatin1_aae02_6 : decode cJ0_isLatin1_aae02 6 = .ok (.aload_n 0, 1) := by decide +kernel
theorem dJ0_isLatin1_aae02_7 : decode cJ0_isLatin1_aae02 7 = .ok (.getfield 15, 3) := by decide +kernel
theorem dJ0_isLatin1_aae02_10 : decode cJ0_isLatin1_aae02 10 = .ok (.ifCond .ne 7, 3) := by decide +kernel
theorem dJ0_isLatin1_aae02_13 : decode cJ0_isLatin1_aae02 13 = .ok (.iconst 1, 1) := by decide +kernel
theorem dJ0_isLatin1_aae02_14 : decode cJ0_isLatin1_aae02 14 = .ok (.goto 4, 3) := by decide +kernel
theorem dJ0_isLatin1_aae02_18 : decode cJ0_isLatin1_aae02 18 = .ok (.ireturn, 1) := by decide +kernel
theorem dJ0_checkIndex_df160_0 : decode cJ0_checkIndex_df160 0 = .ok (.iload_n 0, 1) := by decide +kernel
theorem dJ0_checkIndex_df160_1 : decode cJ0_checkIndex_df160 1 = .ok (.iload_n 1, 1) := by decide +kernel
theorem dJ0_checkIndex_df160_2 : decode cJ0_checkIndex_df160 2 = .ok (.getstatic 1053, 3) := by decide +kernel
theorem dJ0_checkIndex_df160_5 : decode cJ0_checkIndex_df160 5 = .ok (.invokestatic 1059, 3) := by decide +kernel
theorem dJ0_checkIndex_df160_8 : decode cJ0_checkIndex_df160 8 = .ok (.pop, 1) := by decide +kernel
theorem dJ0_checkIndex_df160_9 : decode cJ0_checkIndex_df160 9 = .ok (.return_, 1) := by decide +kernel
theorem dJ1_charAt_3b067_0 : decode cJ1_charAt_3b067 0 = .ok (.iload_n 1, 1) := by decide +kernel
theorem dJ1_charAt_3b067_1 : decode cJ1_charAt_3b067 1 = .ok (.aload_n 0, 1) := by decide +kernel
theorem dJ1_charAt_3b067_2 : decode cJ1_charAt_3b067 2 = .ok (.arraylength, 1) := by decide +kernel
theorem dJ1_charAt_3b067_3 : decode cJ1_charAt_3b067 3 = .ok (.invokestatic 9, 3) := by decide +kernel
theorem dJ1_charAt_3b067_6 : decode cJ1_charAt_3b067 6 = .ok (.aload_n 0, 1) := by decide +kernel
theorem dJ1_charAt_3b067_7 : decode cJ1_charAt_3b067 7 = .ok (.iload_n 1, 1) := by decide +kernel
theorem dJ1_charAt_3b067_8 : decode cJ1_charAt_3b067 8 = .ok (.baload, 1) := by decide +kernel
theorem dJ1_charAt_3b067_9 : decode cJ1_charAt_3b067 9 = .ok (.sipush 255, 3) := by decide +kernel
theorem dJ1_charAt_3b067_12 : decode cJ1_charAt_3b067 12 = .ok (.iand, 1) := by decide +kernel
theorem dJ1_charAt_3b067_13 : decode cJ1_charAt_3b067 13 = .ok (.i2c, 1) := by decide +kernel
theorem dJ1_charAt_3b067_14 : decode cJ1_charAt_3b067 14 = .ok (.ireturn, 1) := by decide +kernel
theorem dJxa1e45_init_da8c8_0 : decode cJxa1e45_init_da8c8 0 = .ok (.aload_n 0, 1) := by decide +kernel
theorem dJxa1e45_init_da8c8_1 : decode cJxa1e45_init_da8c8 1 = .ok (.invokespecial 1, 3) := by decide +kernel
theorem dJxa1e45_init_da8c8_4 : decode cJxa1e45_init_da8c8 4 = .ok (.return_, 1) := by decide +kernel
theorem dJxc12de_init_da8c8_0 : decode cJxc12de_init_da8c8 0 = .ok (.aload_n 0, 1) := by decide +kernel
theorem dJxc12de_init_da8c8_1 : decode cJxc12de_init_da8c8 1 = .ok (.invokespecial 1, 3) := by decide +kernel
theorem dJxc12de_init_da8c8_4 : decode cJxc12de_init_da8c8 4 = .ok (.aload_n 0, 1) := by decide +kernel
theorem dJxc12de_init_da8c8_5 : decode cJxc12de_init_da8c8 5 = .ok (.iconst 0, 1) := by decide +kernel
theorem dJxc12de_init_da8c8_6 : decode cJxc12de_init_da8c8 6 = .ok (.putfield 7, 3) := by decide +kernel
theorem dJxc12de_init_da8c8_9 : decode cJxc12de_init_da8c8 9 = .ok (.return_, 1) := by decide +kernel
theorem dJx4a65c_init_da8c8_0 : decode cJx4a65c_init_da8c8 0 = .ok (.aload_n 0, 1) := by decide +kernel
theorem dJx4a65c_init_da8c8_1 : decode cJx4a65c_init_da8c8 1 = .ok (.invokespecial 1, 3) := by decide +kernel
theorem dJx4a65c_init_da8c8_4 : decode cJx4a65c_init_da8c8 4 = .ok (.aload_n 0, 1) := by decide +kernel
theorem dJx4a65c_init_da8c8_5 : decode cJx4a65c_init_da8c8 5 = .ok (.getstatic 39, 3) := by decide +kernel
theorem dJx4a65c_init_da8c8_8 : decode cJx4a65c_init_da8c8 8 = .ok (.putfield 9, 3) := by decide +kernel
theorem dJx4a65c_init_da8c8_11 : decode cJx4a65c_init_da8c8 11 = .ok (.return_, 1) := by decide +kernel
theorem dJ3_checkIndex_8e157_0 : decode cJ3_checkIndex_8e157 0 = .ok (.iload_n 0, 1) := by decide +kernel
theorem dJ3_checkIndex_8e157_1 : decode cJ3_checkIndex_8e157 1 = .ok (.ifCond .lt 8, 3) := by decide +kernel
theorem dJ3_checkIndex_8e157_4 : decode cJ3_checkIndex_8e157 4 = .ok (.iload_n 0, 1) := by decide +kernel
theorem dJ3_checkIndex_8e157_5 : decode cJ3_checkIndex_8e157 5 = .ok (.iload_n 1, 1) := by decide +kernel
theorem dJ3_checkIndex_8e157_6 : decode cJ3_checkIndex_8e157 6 = .ok (.if_icmp .lt 10, 3) := by decide +kernel
theorem dJ3_checkIndex_8e157_16 : decode cJ3_checkIndex_8e157 16 = .ok (.iload_n 0, 1) := by decide +kernel
theorem dJ3_checkIndex_8e157_17 : decode cJ3_checkIndex_8e157 17 = .ok (.ireturn, 1) := by decide +kernel
theorem dL_read_0 : decode cL_read 0 = .ok (.aload_n 2, 1) := by decide +kernel
theorem dL_read_1 : decode cL_read 1 = .ok (.iconst 0, 1) := by decide +kernel
theorem dL_read_2 : decode cL_read 2 = .ok (.aload_n 0, 1) := by decide +kernel
theorem dL_read_3 : decode cL_read 3 = .ok (.iload_n 1, 1) := by decide +kernel
theorem dL_read_4 : decode cL_read 4 = .ok (.invokevirtual 7, 3) := by decide +kernel
theorem dL_read_7 : decode cL_read 7 = .ok (.i2l, 1) := by decide +kernel
theorem dL_read_8 : decode cL_read 8 = .ok (.lastore, 1) := by decide +kernel
theorem dL_read_9 : decode cL_read 9 = .ok (.goto 6, 3) := by decide +kernel
theorem dL_read_15 : decode cL_read 15 = .ok (.iconst 0, 1) := by decide +kernel
theorem dL_read_16 : decode cL_read 16 = .ok (.ireturn, 1) := by decide +kernel
theorem dL_put_0 : decode cL_put 0 = .ok (.aload 4, 2) := by decide +kernel
theorem dL_put_2 : decode cL_put 2 = .ok (.iconst 0, 1) := by decide +kernel
theorem dL_put_3 : decode cL_put 3 = .ok (.aload_n 0, 1) := by decide +kernel
theorem dL_put_4 : decode cL_put 4 = .ok (.iload_n 1, 1) := by decide +kernel
theorem dL_put_5 : decode cL_put 5 = .ok (.iload_n 2, 1) := by decide +kernel
theorem dL_put_6 : decode cL_put 6 = .ok (.iload_n 3, 1) := by decide +kernel
theorem dL_put_7 : decode cL_put 7 = .ok (.invokevirtual 28, 3) := by decide +kernel
theorem dL_put_10 : decode cL_put 10 = .ok (.ifCond .eq 7, 3) := by decide +kernel
theorem dL_put_13 : decode cL_put 13 = .ok (.lconst 1, 1) := by decide +kernel
theorem dL_put_14 : decode cL_put 14 = .ok (.goto 4, 3) := by decide +kernel
theorem dL_put_18 : decode cL_put 18 = .ok (.lastore, 1) := by decide +kernel
theorem dL_put_19 : decode cL_put 19 = .ok (.goto 7, 3) := by decide +kernel
theorem dL_put_26 : decode cL_put 26 = .ok (.iconst 0, 1) := by decide +kernel
theorem dL_put_27 : decode cL_put 27 = .ok (.ireturn, 1) := by decide +kernel
theorem dL_law_0 : decode cL_law 0 = .ok (.new 8, 3) := by decide +kernel
theorem dL_law_3 : decode cL_law 3 = .ok (.dup, 1) := by decide +kernel
theorem dL_law_4 : decode cL_law 4 = .ok (.invokespecial 36, 3) := by decide +kernel
theorem dL_law_7 : decode cL_law 7 = .ok (.astore_n 1, 1) := by decide +kernel
theorem dL_law_8 : decode cL_law 8 = .ok (.new 37, 3) := by decide +kernel
theorem dL_law_11 : decode cL_law 11 = .ok (.dup, 1) := by decide +kernel
theorem dL_law_12 : decode cL_law 12 = .ok (.invokespecial 39, 3) := by decide +kernel
theorem dL_law_15 : decode cL_law 15 = .ok (.astore_n 2, 1) := by decide +kernel
theorem dL_law_16 : decode cL_law 16 = .ok (.iconst 1, 1) := by decide +kernel
theorem dL_law_17 : decode cL_law 17 = .ok (.newarray .long, 2) := by decide +kernel
theorem dL_law_19 : decode cL_law 19 = .ok (.astore_n 3, 1) := by decide +kernel
theorem dL_law_20 : decode cL_law 20 = .ok (.iconst 0, 1) := by decide +kernel
theorem dL_law_21 : decode cL_law 21 = .ok (.istore 4, 2) := by decide +kernel
theorem dL_law_23 : decode cL_law 23 = .ok (.iload 4, 2) := by decide +kernel
theorem dL_law_25 : decode cL_law 25 = .ok (.aload_n 0, 1) := by decide +kernel
theorem dL_law_26 : decode cL_law 26 = .ok (.arraylength, 1) := by decide +kernel
theorem dL_law_27 : decode cL_law 27 = .ok (.bipush 6, 2) := by decide +kernel
theorem dL_law_29 : decode cL_law 29 = .ok (.isub, 1) := by decide +kernel
theorem dL_law_30 : decode cL_law 30 = .ok (.if_icmp .gt 435, 3) := by decide +kernel
theorem dL_law_33 : decode cL_law 33 = .ok (.aload_n 0, 1) := by decide +kernel
theorem dL_law_34 : decode cL_law 34 = .ok (.iload 4, 2) := by decide +kernel
theorem dL_law_36 : decode cL_law 36 = .ok (.iaload, 1) := by decide +kernel
theorem dL_law_37 : decode cL_law 37 = .ok (.bipush 15, 2) := by decide +kernel
theorem dL_law_39 : decode cL_law 39 = .ok (.iand, 1) := by decide +kernel
theorem dL_law_40 : decode cL_law 40 = .ok (.tableswitch 419 0 10 #[60, 133, 161, 177, 205, 241, 293, 333, 370, 383, 394], 60) := by decide +kernel
theorem dL_law_100 : decode cL_law 100 = .ok (.aload_n 1, 1) := by decide +kernel
theorem dL_law_101 : decode cL_law 101 = .ok (.aload_n 0, 1) := by decide +kernel
theorem dL_law_102 : decode cL_law 102 = .ok (.iload 4, 2) := by decide +kernel
theorem dL_law_104 : decode cL_law 104 = .ok (.iconst 1, 1) := by decide +kernel
theorem dL_law_105 : decode cL_law 105 = .ok (.iadd, 1) := by decide +kernel
theorem dL_law_106 : decode cL_law 106 = .ok (.iaload, 1) := by decide +kernel
theorem dL_law_107 : decode cL_law 107 = .ok (.aload_n 0, 1) := by decide +kernel
theorem dL_law_108 : decode cL_law 108 = .ok (.iload 4, 2) := by decide +kernel
theorem dL_law_110 : decode cL_law 110 = .ok (.iconst 2, 1) := by decide +kernel
theorem dL_law_111 : decode cL_law 111 = .ok (.iadd, 1) := by decide +kernel
theorem dL_law_112 : decode cL_law 112 = .ok (.iaload, 1) := by decide +kernel
theorem dL_law_113 : decode cL_law 113 = .ok (.aload_n 0, 1) := by decide +kernel
theorem dL_law_114 : decode cL_law 114 = .ok (.iload 4, 2) := by decide +kernel
theorem dL_law_116 : decode cL_law 116 = .ok (.iconst 3, 1) := by decide +kernel
theorem dL_law_117 : decode cL_law 117 = .ok (.iadd, 1) := by decide +kernel
theorem dL_law_118 : decode cL_law 118 = .ok (.iaload, 1) := by decide +kernel
theorem dL_law_119 : decode cL_law 119 = .ok (.aload_n 0, 1) := by decide +kernel
theorem dL_law_120 : decode cL_law 120 = .ok (.iload 4, 2) := by decide +kernel
theorem dL_law_122 : decode cL_law 122 = .ok (.iconst 4, 1) := by decide +kernel
theorem dL_law_123 : decode cL_law 123 = .ok (.iadd, 1) := by decide +kernel
theorem dL_law_124 : decode cL_law 124 = .ok (.iaload, 1) := by decide +kernel
theorem dL_law_125 : decode cL_law 125 = .ok (.aload_n 0, 1) := by decide +kernel
theorem dL_law_126 : decode cL_law 126 = .ok (.iload 4, 2) := by decide +kernel
theorem dL_law_128 : decode cL_law 128 = .ok (.iconst 5, 1) := by decide +kernel
theorem dL_law_129 : decode cL_law 129 = .ok (.iadd, 1) := by decide +kernel
theorem dL_law_130 : decode cL_law 130 = .ok (.iaload, 1) := by decide +kernel
theorem dL_law_131 : decode cL_law 131 = .ok (.invokevirtual 40, 3) := by decide +kernel
theorem dL_law_134 : decode cL_law 134 = .ok (.pop, 1) := by decide +kernel
theorem dL_law_135 : decode cL_law 135 = .ok (.aload_n 2, 1) := by decide +kernel
theorem dL_law_136 : decode cL_law 136 = .ok (.aload_n 0, 1) := by decide +kernel
theorem dL_law_137 : decode cL_law 137 = .ok (.iload 4, 2) := by decide +kernel
theorem dL_law_139 : decode cL_law 139 = .ok (.iconst 1, 1) := by decide +kernel
theorem dL_law_140 : decode cL_law 140 = .ok (.iadd, 1) := by decide +kernel
theorem dL_law_141 : decode cL_law 141 = .ok (.iaload, 1) := by decide +kernel
theorem dL_law_142 : decode cL_law 142 = .ok (.aload_n 0, 1) := by decide +kernel
theorem dL_law_143 : decode cL_law 143 = .ok (.iload 4, 2) := by decide +kernel
theorem dL_law_145 : decode cL_law 145 = .ok (.iconst 2, 1) := by decide +kernel
theorem dL_law_146 : decode cL_law 146 = .ok (.iadd, 1) := by decide +kernel
theorem dL_law_147 : decode cL_law 147 = .ok (.iaload, 1) := by decide +kernel
theorem dL_law_148 : decode cL_law 148 = .ok (.aload_n 0, 1) := by decide +kernel
theorem dL_law_149 : decode cL_law 149 = .ok (.iload 4, 2) := by decide +kernel
theorem dL_law_151 : decode cL_law 151 = .ok (.iconst 3, 1) := by decide +kernel
theorem dL_law_152 : decode cL_law 152 = .ok (.iadd, 1) := by decide +kernel
theorem dL_law_153 : decode cL_law 153 = .ok (.iaload, 1) := by decide +kernel
theorem dL_law_154 : decode cL_law 154 = .ok (.aload_n 0, 1) := by decide +kernel
theorem dL_law_155 : decode cL_law 155 = .ok (.iload 4, 2) := by decide +kernel
theorem dL_law_157 : decode cL_law 157 = .ok (.iconst 4, 1) := by decide +kernel
theorem dL_law_158 : decode cL_law 158 = .ok (.iadd, 1) := by decide +kernel
theorem dL_law_159 : decode cL_law 159 = .ok (.iaload, 1) := by decide +kernel
theorem dL_law_160 : decode cL_law 160 = .ok (.aload_n 0, 1) := by decide +kernel
theorem dL_law_161 : decode cL_law 161 = .ok (.iload 4, 2) := by decide +kernel
theorem dL_law_163 : decode cL_law 163 = .ok (.iconst 5, 1) := by decide +kernel
theorem dL_law_164 : decode cL_law 164 = .ok (.iadd, 1) := by decide +kernel
theorem dL_law_165 : decode cL_law 165 = .ok (.iaload, 1) := by decide +kernel
theorem dL_law_166 : decode cL_law 166 = .ok (.invokevirtual 44, 3) := by decide +kernel
theorem dL_law_169 : decode cL_law 169 = .ok (.pop, 1) := by decide +kernel
theorem dL_law_170 : decode cL_law 170 = .ok (.goto 289, 3) := by decide +kernel
theorem dL_law_173 : decode cL_law 173 = .ok (.aload_n 1, 1) := by decide +kernel
theorem dL_law_174 : decode cL_law 174 = .ok (.aload_n 0, 1) := by decide +kernel
theorem dL_law_175 : decode cL_law 175 = .ok (.iload 4, 2) := by decide +kernel
theorem dL_law_177 : decode cL_law 177 = .ok (.iconst 1, 1) := by decide +kernel
theorem dL_law_178 : decode cL_law 178 = .ok (.iadd, 1) := by decide +kernel
theorem dL_law_179 : decode cL_law 179 = .ok (.iaload, 1) := by decide +kernel
theorem dL_law_180 : decode cL_law 180 = .ok (.aload_n 3, 1) := by decide +kernel
theorem dL_law_181 : decode cL_law 181 = .ok (.invokestatic 45, 3) := by decide +kernel
theorem dL_law_184 : decode cL_law 184 = .ok (.istore 5, 2) := by decide +kernel
theorem dL_law_186 : decode cL_law 186 = .ok (.aload_n 2, 1) := by decide +kernel
theorem dL_law_187 : decode cL_law 187 = .ok (.aload_n 0, 1) := by decide +kernel
theorem dL_law_188 : decode cL_law 188 = .ok (.iload 4, 2) := by decide +kernel
theorem dL_law_190 : decode cL_law 190 = .ok (.iconst 1, 1) := by decide +kernel
theorem dL_law_191 : decode cL_law 191 = .ok (.iadd, 1) := by decide +kernel
theorem dL_law_192 : decode cL_law 192 = .ok (.iaload, 1) := by decide +kernel
theorem dL_law_193 : decode cL_law 193 = .ok (.invokevirtual 50, 3) := by decide +kernel
theorem dL_law_281 : decode cL_law 281 = .ok (.aload_n 1, 1) := by decide +kernel
theorem dL_law_282 : decode cL_law 282 = .ok (.aload_n 0, 1) := by decide +kernel
theorem dL_law_283 : decode cL_law 283 = .ok (.iload 4, 2) := by decide +kernel
theorem dL_law_285 : decode cL_law 285 = .ok (.iconst 1, 1) := by decide +kernel
theorem dL_law_286 : decode cL_law 286 = .ok (.iadd, 1) := by decide +kernel
theorem dL_law_287 : decode cL_law 287 = .ok (.iaload, 1) := by decide +kernel
theorem dL_law_288 : decode cL_law 288 = .ok (.aload_n 0, 1) := by decide +kernel
theorem dL_law_289 : decode cL_law 289 = .ok (.iload 4, 2) := by decide +kernel
theorem dL_law_291 : decode cL_law 291 = .ok (.iconst 2, 1) := by decide +kernel
theorem dL_law_292 : decode cL_law 292 = .ok (.iadd, 1) := by decide +kernel
theorem dL_law_293 : decode cL_law 293 = .ok (.iaload, 1) := by decide +kernel
theorem dL_law_294 : decode cL_law 294 = .ok (.aload_n 0, 1) := by decide +kernel
theorem dL_law_295 : decode cL_law 295 = .ok (.iload 4, 2) := by decide +kernel
theorem dL_law_297 : decode cL_law 297 = .ok (.iconst 3, 1) := by decide +kernel
theorem dL_law_298 : decode cL_law 298 = .ok (.iadd, 1) := by decide +kernel
theorem dL_law_299 : decode cL_law 299 = .ok (.iaload, 1) := by decide +kernel
theorem dL_law_300 : decode cL_law 300 = .ok (.aload_n 3, 1) := by decide +kernel
theorem dL_law_301 : decode cL_law 301 = .ok (.invokestatic 65, 3) := by decide +kernel
theorem dL_law_304 : decode cL_law 304 = .ok (.istore 5, 2) := by decide +kernel
theorem dL_law_306 : decode cL_law 306 = .ok (.aload_n 2, 1) := by decide +kernel
theorem dL_law_307 : decode cL_law 307 = .ok (.aload_n 0, 1) := by decide +kernel
theorem dL_law_308 : decode cL_law 308 = .ok (.iload 4, 2) := by decide +kernel
theorem dL_law_310 : decode cL_law 310 = .ok (.iconst 1, 1) := by decide +kernel
theorem dL_law_311 : decode cL_law 311 = .ok (.iadd, 1) := by decide +kernel
theorem dL_law_312 : decode cL_law 312 = .ok (.iaload, 1) := by decide +kernel
theorem dL_law_313 : decode cL_law 313 = .ok (.aload_n 0, 1) := by decide +kernel
theorem dL_law_314 : decode cL_law 314 = .ok (.iload 4, 2) := by decide +kernel
theorem dL_law_316 : decode cL_law 316 = .ok (.iconst 2, 1) := by decide +kernel
theorem dL_law_317 : decode cL_law 317 = .ok (.iadd, 1) := by decide +kernel
theorem dL_law_318 : decode cL_law 318 = .ok (.iaload, 1) := by decide +kernel
theorem dL_law_319 : decode cL_law 319 = .ok (.aload_n 0, 1) := by decide +kernel
theorem dL_law_320 : decode cL_law 320 = .ok (.iload 4, 2) := by decide +kernel
theorem dL_law_322 : decode cL_law 322 = .ok (.iconst 3, 1) := by decide +kernel
theorem dL_law_323 : decode cL_law 323 = .ok (.iadd, 1) := by decide +kernel
theorem dL_law_324 : decode cL_law 324 = .ok (.iaload, 1) := by decide +kernel
theorem dL_law_325 : decode cL_law 325 = .ok (.invokevirtual 68, 3) := by decide +kernel
theorem dL_law_328 : decode cL_law 328 = .ok (.istore 6, 2) := by decide +kernel
theorem dL_law_330 : decode cL_law 330 = .ok (.goto 129, 3) := by decide +kernel
theorem dL_law_459 : decode cL_law 459 = .ok (.iinc 4 6, 3) := by decide +kernel
theorem dL_law_462 : decode cL_law 462 = .ok (.goto (-439), 3) := by decide +kernel
end KV12_names
