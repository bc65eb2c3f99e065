noncomputable section KV30_pf
/-! THE TABLES: classes, kinds of arrays, words (printed by wip/ev/pf2.py). -/
def ev_cl : List vw_C := [(RX6, TX6, 2), (RX12, TX12, 10), (RX2, TX2, 21), (RX5, TX5, 22), (RX7, TX7, 24), (RX0, TX0, 22), (RX10, TX10, 18), (RX3, TX3, 10), (RX9, TX9, 11), (RX1, TX1, 19), (RX4, TX4, 12), (RX11, TX11, 15), (RX8, TX8, 9), (RX28, TX28, 104), (RJxb5711, TJxb5711, 0), (RX14, TX14, 2), (RX21, TX21, 7), (RJx4a65c, TJx4a65c, 3), (RX26, TX26, 4), (RX18, TX18, 8), (RX22, TX22, 5), (RX25, TX25, 17), (RX19, TX19, 8), (RX27, TX27, 9), (RX23, TX23, 7)]
def ev_tys : List FieldType := [.int, .object "TextShell$Row", .object "TextShell$Node", .object "TextShell$Name", .char, .object "TextShell$Frame", .object "TextShell$Tree", .object "TextShell$Stream", .long, .boolean, .array .byte, .byte, .object "TextShellModel$Open", .object "TextShellModel$Cmd", .array .int, .object "TextShellModel$Node", .object "TextShellModel$Entry"]
def ev_ty (i : Nat) : FieldType := match ev_lg ev_tys i with
  | some t => t
  | none => .int
def ev_g0 : List Cond := [.selects RX12 yX12_feedFour yX12_feedFour, .selects RX6 yX6_add yX6_add, .selects RX6 yX6_at yX6_at, .selects RX12 yX12_holds yX12_holds, .selects RX6 yX6_part yX6_part, .selects RX12 yX12_putAlias yX12_putAlias, .selects RX6 yX6_isName yX6_isName, .selects RX6 yX6_isAliasText yX6_isAliasText, .selects RX2 yX2_name yX2_name, .selects RX5 yX5_parse yX5_parse, .selects RX2 yX2_tellReserved yX2_tellReserved, .selects RX2 yX2_tellCommands yX2_tellCommands, .selects RX6 yX6_same yX6_same, .selects RX2 yX2_find yX2_find, .selects RX6 yX6_addText yX6_addText, .selects RX2 yX2_command yX2_command, .selects RX2 yX2_reserve yX2_reserve, .selects RX5 yX5_atBegin yX5_atBegin, .selects RX5 yX5_replaced yX5_replaced, .selects RX1 yX1_has yX1_has, .selects RX5 yX5_newline yX5_newline, .selects RX5 yX5_closeByToken yX5_closeByToken, .selects RX5 yX5_look yX5_look, .selects RX5 yX5_endWord yX5_endWord, .selects RX5 yX5_pass yX5_pass, .selects RX5 yX5_emit yX5_emit, .selects RX5 yX5_endText yX5_endText, .selects RX5 yX5_cutCode yX5_cutCode, .selects RX5 yX5_told yX5_told, .selects RX5 yX5_reservedAs yX5_reservedAs, .selects RX1 yX1_set yX1_set, .selects RX5 yX5_skipBlanks yX5_skipBlanks, .selects RX5 yX5_operator yX5_operator, .selects RX5 yX5_enter yX5_enter, .selects RX5 yX5_begins yX5_begins, .selects RX5 yX5_openText yX5_openText, .selects RX5 yX5_top yX5_top, .selects RX5 yX5_accept yX5_accept, .selects RX5 yX5_nextToken yX5_nextToken, .selects RX5 yX5_bareSign yX5_bareSign, .selects RX6 yX6_isText yX6_isText, .selects RX6 yX6_place yX6_place, .selects RX6 yX6_isNameUpTo yX6_isNameUpTo, .selects RX28 yX28_begin0 yX28_begin0, .selects RX28 yX28_touch yX28_touch, .selects RX28 yX28_setTo yX28_setTo, .selects RX28 yX28_five yX28_five, .selects RX28 yX28_has_ yX28_has_, .selects RX28 yX28_fails yX28_fails, .selects RX28 yX28_change yX28_change, .selects RX28 yX28_taken yX28_taken, .selects RX28 yX28_reads yX28_reads, .selects RX28 yX28_scriptOf yX28_scriptOf, .selects RX28 yX28_oneByte yX28_oneByte, .selects RX28 yX28_room yX28_room, .selects RX25 yX25_next yX25_next, .selects RX25 yX25_script yX25_script, .selects RX25 yX25_parts yX25_parts, .selects RX28 yX28_rowOf yX28_rowOf, .selects RX25 yX25_plain yX25_plain, .selects RX25 yX25_look yX25_look, .selects RX25 yX25_isReserved yX25_isReserved, .selects RX25 yX25_isFree yX25_isFree, .selects RX25 yX25_made yX25_made, .selects RX25 yX25_begins yX25_begins, .selects RX25 yX25_closes yX25_closes, .selects RX25 yX25_isBlank yX25_isBlank, .selects RX25 yX25_take yX25_take, .selects RX25 yX25_line yX25_line, .selects RX25 yX25_aWord yX25_aWord, .selects RX25 yX25_aliases yX25_aliases, .selects RX25 yX25_ends yX25_ends, .selects RX25 yX25_flushed yX25_flushed, .selects RX25 yX25_linked yX25_linked, .selects RX25 yX25_settle yX25_settle]
def ev_g1 : List Cond := [.methodLink RX12 1 objectInit, .instanceMethod objectInit, .code objectInit ⟨#[0xb1]⟩ 1 none, .classLink RX12 7 RX6, .instantiable RX6 2, .initialized RX6, .code yX6_init cX6_init 2 none, .instanceMethod yX6_init, .classLink RX12 24 RX2, .instantiable RX2 21, .initialized RX2, .code yX2_init cX2_init 1 none, .instanceMethod yX2_init, .initialized RX5, .initialized RX7, .initialized RX0, .initialized RX10, .initialized RX12, .code yX6_add cX6_add 3 none, .instanceMethod yX6_add, .code yX6_part cX6_part 5 (some (.object "TextShell$Row")), .instanceMethod yX6_part, .code yX2_name cX2_name 5 (some (.object "TextShell$Name")), .instanceMethod yX2_name, .arrayClass .int, .initialized RX9, .methodLink RX2 3 objectInit, .classLink RX2 11 RX3, .classLink RX2 27 RX4, .classLink RX2 33 RX6, .instantiable RX4 12, .initialized RX4, .code yX4_init cX4_init 4 none, .instanceMethod yX4_init, .code yX2_row cX2_row 2 (some (.object "TextShell$Row")), .methodLink RX2 58 yX2_row, .static yX2_row, .methodLink RX2 62 yX2_name, .code yX6_same cX6_same 3 (some .boolean), .instanceMethod yX6_same, .code yX2_find cX2_find 4 (some (.object "TextShell$Name")), .methodLink RX2 233 yX2_find, .instanceMethod yX2_find, .instantiable RX3 10, .initialized RX3, .code yJ0_length_8abf5 cJ0_length_8abf5 1 (some .int), .initialized RJ0, .methodLink RX2 81 yJ0_length_8abf5, .instanceMethod yJ0_length_8abf5, .selects RJ0 yJ0_length_8abf5 yJ0_length_8abf5, .code yX6_addText cX6_addText 3 none, .instanceMethod yX6_addText, .methodLink RX4 3 objectInit, .fieldLink RX4 9 "TextShell$Node" "directories" "I", .fieldLink RX4 15 "TextShell$Node" "name" "LTextShell$Row;", .fieldLink RX4 19 "TextShell$Node" "parent" "LTextShell$Node;", .fieldLink RX4 23 "TextShell$Node" "root" "LTextShell$Node;", .fieldLink RX4 31 "TextShell$Node" "data" "LTextShell$Row;", .initialized RX1, .initialized RJ9, .initialized RX11, .initialized RX8, .methodLink RX6 3 objectInit, .arrayClass .char, .fieldLink RX6 9 "TextShell$Row" "signs" "[C", .fieldLink RX6 15 "TextShell$Row" "length" "I", .methodLink RX6 19 ⟨"java/lang/System", "arraycopy", "(Ljava/lang/Object;ILjava/lang/Object;II)V"⟩, .native ⟨"java/lang/System", "arraycopy", "(Ljava/lang/Object;ILjava/lang/Object;II)V"⟩, .static ⟨"java/lang/System", "arraycopy", "(Ljava/lang/Object;ILjava/lang/Object;II)V"⟩, .initialized "java/lang/System", .methodLink RX6 33 yJ0_length_8abf5, .code yJ0_charAt_5068e cJ0_charAt_5068e 2 (some .char), .methodLink RX6 38 yJ0_charAt_5068e, .instanceMethod yJ0_charAt_5068e, .selects RJ0 yJ0_charAt_5068e yJ0_charAt_5068e, .methodLink RX6 29 yX6_add, .classLink RL 8 RX12, .instantiable RX12 10, .code yX12_init cX12_init 2 none, .methodLink RL 36 yX12_init, .instanceMethod yX12_init, .initialized RX28, .initialized RL, .initialized "java/lang/IllegalStateException", .initialized RX14, .initialized RX21, .initialized RJx4a65c, .initialized RX26, .initialized RX22, .initialized RX25, .initialized RX19, .initialized RX27, .initialized RX23, .initialized RX18, .code yJ0_isLatin1_aae02 cJ0_isLatin1_aae02 1 (some .boolean), .methodLink RJ0 492 yJ0_isLatin1_aae02, .instanceMethod yJ0_isLatin1_aae02, .selects RJ0 yJ0_isLatin1_aae02 yJ0_isLatin1_aae02, .code yJ1_charAt_3b067 cJ1_charAt_3b067 2 (some .char), .initialized RJ1, .methodLink RJ0 495 yJ1_charAt_3b067, .static yJ1_charAt_3b067, .fieldLink RJ0 1053 "jdk/internal/util/Preconditions" "SIOOBE_FORMATTER" "Ljava/util/function/BiFunction;", .code yJ3_checkIndex_8e157 cJ3_checkIndex_8e157 3 (some .int), .initialized RJ3, .methodLink RJ0 1059 yJ3_checkIndex_8e157, .static yJ3_checkIndex_8e157, .fieldLink RJ0 38 "java/lang/String" "COMPACT_STRINGS" "Z", .code yJ0_coder_7d493 cJ0_coder_7d493 1 (some .byte), .methodLink RJ0 335 yJ0_coder_7d493, .instanceMethod yJ0_coder_7d493, .selects RJ0 yJ0_coder_7d493 yJ0_coder_7d493, .code yJ0_checkIndex_df160 cJ0_checkIndex_df160 2 none, .methodLink RJ1 9 yJ0_checkIndex_df160, .static yJ0_checkIndex_df160, .initialized RJxa1e45, .initialized RJxc12de, .lays RX6 "TextShell$Row" "signs" "[C", .lays RX6 "TextShell$Row" "length" "I", .lays RX4 "TextShell$Node" "name" "LTextShell$Row;", .lays RX4 "TextShell$Node" "parent" "LTextShell$Node;", .lays RX4 "TextShell$Node" "next" "LTextShell$Node;", .lays RX4 "TextShell$Node" "first" "LTextShell$Node;", .laysFinal RX4 "TextShell$Node" "root" "LTextShell$Node;", .laysFinal RX4 "TextShell$Node" "data" "LTextShell$Row;", .lays RX4 "TextShell$Node" "gone" "Z", .lays RX4 "TextShell$Node" "part" "I", .lays RX4 "TextShell$Node" "fits" "Z", .lays RX4 "TextShell$Node" "files" "I", .lays RX4 "TextShell$Node" "directories" "I", .lays RX4 "TextShell$Node" "bytes" "I", .initialized "java/lang/String", .initialized "jdk/internal/util/Preconditions", .initialized "java/util/ArrayList", .initialized "java/lang/Throwable"]
def ev_g2 : List Cond := [.classLink RX12 31 RX5, .instantiable RX5 22, .code yX5_init cX5_init 2 none, .instanceMethod yX5_init, .fieldLink RX2 13 "TextShell$Memory" "buckets" "[LTextShell$Name;", .fieldLink RX2 17 "TextShell$Memory" "names" "[LTextShell$Name;", .fieldLink RX2 20 "TextShell$Memory" "log" "[LTextShell$Name;", .fieldLink RX2 23 "TextShell$Memory" "saves" "[I", .fieldLink RX2 29 "TextShell$Memory" "places" "[LTextShell$Node;", .fieldLink RX2 35 "TextShell$Memory" "pool" "[LTextShell$Row;", .fieldLink RX2 45 "TextShell$Memory" "root" "LTextShell$Node;", .fieldLink RX2 49 "TextShell$Memory" "here" "LTextShell$Node;", .fieldLink RX2 52 "TextShell$Memory" "nothing" "LTextShell$Row;", .fieldLink RX2 66 "TextShell$Memory" "separators" "LTextShell$Name;", .fieldLink RX2 72 "TextShell$Memory" "home" "LTextShell$Name;", .code yX2_tellReserved cX2_tellReserved 1 none, .methodLink RX2 75 yX2_tellReserved, .instanceMethod yX2_tellReserved, .code yX2_tellCommands cX2_tellCommands 1 none, .methodLink RX2 78 yX2_tellCommands, .instanceMethod yX2_tellCommands, .fieldLink RX2 220 "TextShell$Memory" "bucket" "I", .fieldLink RX2 236 "TextShell$Memory" "size" "I", .code yX3_init cX3_init 3 none, .instanceMethod yX3_init, .code yX2_command cX2_command 3 none, .methodLink RX2 136 yX2_command, .instanceMethod yX2_command, .code yX2_reserve cX2_reserve 3 none, .methodLink RX2 97 yX2_reserve, .instanceMethod yX2_reserve, .methodLink RX3 1 objectInit, .fieldLink RX3 7 "TextShell$Name" "text" "LTextShell$Row;", .fieldLink RX3 13 "TextShell$Name" "index" "I", .methodLink RX5 3 objectInit, .classLink RX5 9 RX1, .fieldLink RX5 11 "TextShell$Reader" "frames" "[LTextShell$Frame;", .fieldLink RX5 17 "TextShell$Reader" "code" "[I", .classLink RX5 21 RX11, .fieldLink RX5 23 "TextShell$Reader" "scripts" "[LTextShell$Tree;", .classLink RX5 27 RX6, .fieldLink RX5 32 "TextShell$Reader" "spelled" "LTextShell$Row;", .fieldLink RX5 36 "TextShell$Reader" "memory" "LTextShell$Memory;", .fieldLink RX5 50 "TextShell$Reader" "codes" "I", .fieldLink RX5 47 "TextShell$Reader" "depth" "I", .fieldLink RX5 56 "TextShell$Reader" "inner" "I", .fieldLink RX5 117 "TextShell$Reader" "in" "LTextShell$Stream;", .fieldLink RX5 40 "TextShell$Reader" "fault" "I", .fieldLink RX5 44 "TextShell$Reader" "faultLine" "I", .fieldLink RX5 53 "TextShell$Reader" "nested" "I", .classLink RX6 10 RX6, .methodLink RX6 48 yX6_init, .arrayClass .byte, .laysFinal RX2 "TextShell$Memory" "buckets" "[LTextShell$Name;", .lays RX2 "TextShell$Memory" "bucket" "I", .lays RX2 "TextShell$Memory" "names" "[LTextShell$Name;", .lays RX2 "TextShell$Memory" "size" "I", .lays RX2 "TextShell$Memory" "log" "[LTextShell$Name;", .lays RX2 "TextShell$Memory" "logged" "I", .lays RX2 "TextShell$Memory" "subshells" "I", .laysFinal RX2 "TextShell$Memory" "saves" "[I", .laysFinal RX2 "TextShell$Memory" "places" "[LTextShell$Node;", .lays RX2 "TextShell$Memory" "pool" "[LTextShell$Row;", .lays RX2 "TextShell$Memory" "base" "I", .lays RX2 "TextShell$Memory" "parameters" "I", .lays RX2 "TextShell$Memory" "floor" "I", .lays RX2 "TextShell$Memory" "options" "I", .lays RX2 "TextShell$Memory" "loops" "I", .lays RX2 "TextShell$Memory" "calls" "I", .laysFinal RX2 "TextShell$Memory" "root" "LTextShell$Node;", .lays RX2 "TextShell$Memory" "here" "LTextShell$Node;", .laysFinal RX2 "TextShell$Memory" "separators" "LTextShell$Name;", .laysFinal RX2 "TextShell$Memory" "home" "LTextShell$Name;", .laysFinal RX2 "TextShell$Memory" "nothing" "LTextShell$Row;", .laysFinal RX3 "TextShell$Name" "text" "LTextShell$Row;", .laysFinal RX3 "TextShell$Name" "index" "I", .lays RX3 "TextShell$Name" "of" "LTextShell$Name;", .lays RX3 "TextShell$Name" "next" "LTextShell$Name;", .lays RX3 "TextShell$Name" "value" "LTextShell$Row;", .lays RX3 "TextShell$Name" "readOnly" "Z", .lays RX3 "TextShell$Name" "function" "LTextShell$Tree;", .lays RX3 "TextShell$Name" "alias" "LTextShell$Row;", .lays RX3 "TextShell$Name" "command" "I", .lays RX3 "TextShell$Name" "reserved" "I"]
def ev_g3 : List Cond := [.classLink RX12 40 RX7, .instantiable RX7 24, .code yX7_init cX7_init 3 none, .instanceMethod yX7_init, .classLink RX12 49 RX0, .instantiable RX0 22, .code yX0_init cX0_init 4 none, .instanceMethod yX0_init, .methodLink RX0 3 objectInit, .classLink RX0 15 RX6, .classLink RX0 43 RX4, .classLink RX0 61 RX9, .instantiable RX9 11, .code yX9_init cX9_init 2 none, .instanceMethod yX9_init, .fieldLink RX5 114 "TextShell$Reader" "token" "I", .fieldLink RX5 193 "TextShell$Reader" "reserved" "I", .fieldLink RX5 133 "TextShell$Reader" "source" "I", .fieldLink RX5 62 "TextShell$Reader" "script" "LTextShell$Tree;", .fieldLink RX5 250 "TextShell$Reader" "word" "LTextShell$Tree;", .fieldLink RX5 130 "TextShell$Reader" "tokenLine" "I", .fieldLink RX5 253 "TextShell$Reader" "tokenFollows" "Z", .fieldLink RX5 77 "TextShell$Reader" "due" "I", .fieldLink RX5 59 "TextShell$Reader" "commands" "I", .methodLink RX7 3 objectInit, .classLink RX7 9 RX8, .fieldLink RX7 11 "TextShell$Shell" "base" "[LTextShell$Stream;", .fieldLink RX7 17 "TextShell$Shell" "open" "[LTextShell$Stream;", .instantiable RX8 9, .code yX8_init cX8_init 5 none, .instanceMethod yX8_init, .fieldLink RX7 23 "TextShell$Shell" "closed" "LTextShell$Stream;", .fieldLink RX7 27 "TextShell$Shell" "savedStreams" "[LTextShell$Stream;", .fieldLink RX7 30 "TextShell$Shell" "savedNumbers" "[I", .classLink RX7 34 RX3, .fieldLink RX7 36 "TextShell$Shell" "lentNames" "[LTextShell$Name;", .classLink RX7 40 RX6, .fieldLink RX7 42 "TextShell$Shell" "lentValues" "[LTextShell$Row;", .fieldLink RX7 46 "TextShell$Shell" "substituted" "I", .fieldLink RX7 50 "TextShell$Shell" "captures" "[LTextShell$Stream;", .fieldLink RX7 53 "TextShell$Shell" "memory" "LTextShell$Memory;", .fieldLink RX7 57 "TextShell$Shell" "reader" "LTextShell$Reader;", .constant RX7 64 (65536), .methodLink RX8 3 objectInit, .fieldLink RX8 9 "TextShell$Stream" "data" "LTextShell$Row;", .fieldLink RX8 15 "TextShell$Stream" "file" "LTextShell$Node;", .fieldLink RX8 19 "TextShell$Stream" "reading" "Z", .fieldLink RX8 23 "TextShell$Stream" "most" "I", .fieldLink RX8 30 "TextShell$Stream" "line" "I", .fieldLink RX8 33 "TextShell$Stream" "under" "LTextShell$Stream;", .fieldLink RX8 37 "TextShell$Stream" "alias" "LTextShell$Name;", .fieldLink RX8 41 "TextShell$Stream" "aliases" "I", .methodLink RX9 3 objectInit, .fieldLink RX9 11 "TextShell$Sum" "numbers" "[J", .fieldLink RX9 15 "TextShell$Sum" "entries" "[I", .classLink RX9 19 RX6, .fieldLink RX9 24 "TextShell$Sum" "spelled" "LTextShell$Row;", .fieldLink RX9 28 "TextShell$Sum" "memory" "LTextShell$Memory;", .laysFinal RX5 "TextShell$Reader" "memory" "LTextShell$Memory;", .lays RX5 "TextShell$Reader" "frames" "[LTextShell$Frame;", .lays RX5 "TextShell$Reader" "depth" "I", .lays RX5 "TextShell$Reader" "in" "LTextShell$Stream;", .lays RX5 "TextShell$Reader" "code" "[I", .lays RX5 "TextShell$Reader" "codes" "I", .lays RX5 "TextShell$Reader" "scripts" "[LTextShell$Tree;", .lays RX5 "TextShell$Reader" "scriptCount" "I", .laysFinal RX5 "TextShell$Reader" "spelled" "LTextShell$Row;", .lays RX5 "TextShell$Reader" "fault" "I", .lays RX5 "TextShell$Reader" "faultLine" "I", .lays RX5 "TextShell$Reader" "nested" "I", .lays RX5 "TextShell$Reader" "inner" "I", .lays RX5 "TextShell$Reader" "commands" "I", .lays RX5 "TextShell$Reader" "source" "I", .lays RX5 "TextShell$Reader" "due" "I", .lays RX5 "TextShell$Reader" "token" "I", .lays RX5 "TextShell$Reader" "tokenLine" "I", .lays RX5 "TextShell$Reader" "tokenFollows" "Z", .lays RX5 "TextShell$Reader" "reserved" "I", .lays RX5 "TextShell$Reader" "word" "LTextShell$Tree;", .lays RX5 "TextShell$Reader" "script" "LTextShell$Tree;", .laysFinal RX7 "TextShell$Shell" "memory" "LTextShell$Memory;", .laysFinal RX7 "TextShell$Shell" "reader" "LTextShell$Reader;", .lays RX7 "TextShell$Shell" "expander" "LTextShell$Expander;", .lays RX7 "TextShell$Shell" "tools" "LTextShell$Tools;", .laysFinal RX7 "TextShell$Shell" "base" "[LTextShell$Stream;", .laysFinal RX7 "TextShell$Shell" "open" "[LTextShell$Stream;", .laysFinal RX7 "TextShell$Shell" "closed" "LTextShell$Stream;", .lays RX7 "TextShell$Shell" "savedStreams" "[LTextShell$Stream;", .lays RX7 "TextShell$Shell" "savedNumbers" "[I", .lays RX7 "TextShell$Shell" "redirected" "I", .lays RX7 "TextShell$Shell" "lentNames" "[LTextShell$Name;", .lays RX7 "TextShell$Shell" "lentValues" "[LTextShell$Row;", .lays RX7 "TextShell$Shell" "lent" "I", .lays RX7 "TextShell$Shell" "status" "I", .lays RX7 "TextShell$Shell" "signal" "I", .lays RX7 "TextShell$Shell" "leaving" "I", .lays RX7 "TextShell$Shell" "level" "I", .lays RX7 "TextShell$Shell" "shields" "I", .lays RX7 "TextShell$Shell" "work" "I", .lays RX7 "TextShell$Shell" "simples" "I", .lays RX7 "TextShell$Shell" "most" "I", .lays RX7 "TextShell$Shell" "halted" "I", .lays RX7 "TextShell$Shell" "substituted" "I", .laysFinal RX7 "TextShell$Shell" "captures" "[LTextShell$Stream;", .laysFinal RX9 "TextShell$Sum" "memory" "LTextShell$Memory;", .laysFinal RX9 "TextShell$Sum" "numbers" "[J", .lays RX9 "TextShell$Sum" "numberTop" "I", .laysFinal RX9 "TextShell$Sum" "entries" "[I", .lays RX9 "TextShell$Sum" "entryTop" "I", .lays RX9 "TextShell$Sum" "text" "LTextShell$Row;", .lays RX9 "TextShell$Sum" "at" "I", .laysFinal RX9 "TextShell$Sum" "spelled" "LTextShell$Row;", .laysFinal RX8 "TextShell$Stream" "data" "LTextShell$Row;", .laysFinal RX8 "TextShell$Stream" "file" "LTextShell$Node;", .laysFinal RX8 "TextShell$Stream" "reading" "Z", .laysFinal RX8 "TextShell$Stream" "most" "I", .lays RX8 "TextShell$Stream" "at" "I", .lays RX8 "TextShell$Stream" "line" "I", .lays RX8 "TextShell$Stream" "under" "LTextShell$Stream;", .lays RX8 "TextShell$Stream" "alias" "LTextShell$Name;", .lays RX8 "TextShell$Stream" "aliases" "I"]
def ev_g4 : List Cond := [.fieldLink RX12 12 "TextShell" "tape" "LTextShell$Row;", .fieldLink RX12 18 "TextShell" "printed" "LTextShell$Row;", .fieldLink RX12 21 "TextShell" "answer" "LTextShell$Row;", .fieldLink RX12 27 "TextShell" "memory" "LTextShell$Memory;", .fieldLink RX12 36 "TextShell" "reader" "LTextShell$Reader;", .fieldLink RX12 45 "TextShell" "shell" "LTextShell$Shell;", .classLink RX12 58 RX10, .instantiable RX10 18, .code yX10_init cX10_init 4 none, .instanceMethod yX10_init, .code yX12_feedFour cX12_feedFour 2 none, .methodLink RX12 71 yX12_feedFour, .instanceMethod yX12_feedFour, .code yX6_at cX6_at 2 (some .int), .instanceMethod yX6_at, .code yX12_isTextSign cX12_isTextSign 1 (some .boolean), .methodLink RX12 281 yX12_isTextSign, .static yX12_isTextSign, .code yX12_holds cX12_holds 4 (some .boolean), .methodLink RX12 77 yX12_holds, .instanceMethod yX12_holds, .fieldLink RX12 92 "TextShell" "script" "LTextShell$Tree;", .fieldLink RX12 96 "TextShell" "hasPrint" "Z", .fieldLink RX12 114 "TextShell" "commands" "I", .fieldLink RX0 9 "TextShell$Expander" "items" "[I", .fieldLink RX0 17 "TextShell$Expander" "fields" "[LTextShell$Row;", .fieldLink RX0 21 "TextShell$Expander" "separators" "[I", .fieldLink RX0 27 "TextShell$Expander" "scratch" "LTextShell$Row;", .fieldLink RX0 31 "TextShell$Expander" "pattern" "[I", .fieldLink RX0 34 "TextShell$Expander" "elements" "[I", .fieldLink RX0 37 "TextShell$Expander" "reached" "[I", .fieldLink RX0 40 "TextShell$Expander" "paths" "[LTextShell$Row;", .fieldLink RX0 45 "TextShell$Expander" "nodes" "[LTextShell$Node;", .fieldLink RX0 49 "TextShell$Expander" "memory" "LTextShell$Memory;", .fieldLink RX0 53 "TextShell$Expander" "reader" "LTextShell$Reader;", .fieldLink RX0 57 "TextShell$Expander" "shell" "LTextShell$Shell;", .fieldLink RX0 66 "TextShell$Expander" "sum" "LTextShell$Sum;", .arrayClass .long, .methodLink RX10 3 objectInit, .classLink RX10 9 RX6, .fieldLink RX10 14 "TextShell$Tools" "text" "LTextShell$Row;", .fieldLink RX10 20 "TextShell$Tools" "made" "LTextShell$Row;", .fieldLink RX10 23 "TextShell$Tools" "lines" "[I", .fieldLink RX10 27 "TextShell$Tools" "order" "[I", .fieldLink RX10 30 "TextShell$Tools" "spare" "[I", .fieldLink RX10 33 "TextShell$Tools" "from" "LTextShell$Row;", .fieldLink RX10 36 "TextShell$Tools" "table" "[I", .arrayClass .boolean, .fieldLink RX10 39 "TextShell$Tools" "known" "[Z", .fieldLink RX10 43 "TextShell$Tools" "walkA" "[I", .fieldLink RX10 46 "TextShell$Tools" "walkB" "[I", .fieldLink RX10 49 "TextShell$Tools" "memory" "LTextShell$Memory;", .fieldLink RX10 53 "TextShell$Tools" "shell" "LTextShell$Shell;", .fieldLink RX10 57 "TextShell$Tools" "expander" "LTextShell$Expander;", .code yX12_feed cX12_feed 6 (some .int), .methodLink RL 40 yX12_feed, .instanceMethod yX12_feed, .selects RX12 yX12_feed yX12_feed, .codeWith yL_read cL_read 4 (some .int) [(0, 9, 12, 13)], .methodLink RL 45 yL_read, .static yL_read, .code yX12_read cX12_read 3 (some .int), .methodLink RL 7 yX12_read, .instanceMethod yX12_read, .selects RX12 yX12_read yX12_read, .laysFinal RX12 "TextShell" "tape" "LTextShell$Row;", .laysFinal RX12 "TextShell" "printed" "LTextShell$Row;", .laysFinal RX12 "TextShell" "answer" "LTextShell$Row;", .laysFinal RX12 "TextShell" "memory" "LTextShell$Memory;", .laysFinal RX12 "TextShell" "reader" "LTextShell$Reader;", .laysFinal RX12 "TextShell" "shell" "LTextShell$Shell;", .lays RX12 "TextShell" "script" "LTextShell$Tree;", .lays RX12 "TextShell" "commands" "I", .lays RX12 "TextShell" "hasPrint" "Z", .lays RX12 "TextShell" "hasAnswer" "Z", .laysFinal RX0 "TextShell$Expander" "memory" "LTextShell$Memory;", .laysFinal RX0 "TextShell$Expander" "reader" "LTextShell$Reader;", .laysFinal RX0 "TextShell$Expander" "shell" "LTextShell$Shell;", .laysFinal RX0 "TextShell$Expander" "sum" "LTextShell$Sum;", .lays RX0 "TextShell$Expander" "items" "[I", .lays RX0 "TextShell$Expander" "top" "I", .lays RX0 "TextShell$Expander" "signs" "I", .lays RX0 "TextShell$Expander" "fields" "[LTextShell$Row;", .lays RX0 "TextShell$Expander" "fieldTop" "I", .laysFinal RX0 "TextShell$Expander" "separators" "[I", .lays RX0 "TextShell$Expander" "separatorsOf" "LTextShell$Row;", .laysFinal RX0 "TextShell$Expander" "scratch" "LTextShell$Row;", .lays RX0 "TextShell$Expander" "pattern" "[I", .lays RX0 "TextShell$Expander" "elements" "[I", .lays RX0 "TextShell$Expander" "elementCount" "I", .lays RX0 "TextShell$Expander" "reached" "[I", .lays RX0 "TextShell$Expander" "shortest" "I", .lays RX0 "TextShell$Expander" "longest" "I", .lays RX0 "TextShell$Expander" "paths" "[LTextShell$Row;", .lays RX0 "TextShell$Expander" "nodes" "[LTextShell$Node;", .lays RX0 "TextShell$Expander" "pathCount" "I", .lays RX0 "TextShell$Expander" "part" "I", .laysFinal RX10 "TextShell$Tools" "memory" "LTextShell$Memory;", .laysFinal RX10 "TextShell$Tools" "shell" "LTextShell$Shell;", .laysFinal RX10 "TextShell$Tools" "expander" "LTextShell$Expander;", .laysFinal RX10 "TextShell$Tools" "text" "LTextShell$Row;", .laysFinal RX10 "TextShell$Tools" "made" "LTextShell$Row;", .lays RX10 "TextShell$Tools" "lines" "[I", .lays RX10 "TextShell$Tools" "order" "[I", .lays RX10 "TextShell$Tools" "spare" "[I", .lays RX10 "TextShell$Tools" "lineCount" "I", .laysFinal RX10 "TextShell$Tools" "from" "LTextShell$Row;", .laysFinal RX10 "TextShell$Tools" "table" "[I", .laysFinal RX10 "TextShell$Tools" "known" "[Z", .laysFinal RX10 "TextShell$Tools" "walkA" "[I", .laysFinal RX10 "TextShell$Tools" "walkB" "[I", .lays RX10 "TextShell$Tools" "first" "I", .lays RX10 "TextShell$Tools" "words" "I", .lays RX10 "TextShell$Tools" "numeric" "Z", .lays RX10 "TextShell$Tools" "reverse" "Z", .lays RX9 "TextShell$Sum" "live" "Z", .lays RX9 "TextShell$Sum" "nested" "I", .lays RX9 "TextShell$Sum" "wrong" "Z"]
def ev_g5 : List Cond := [.code yX5_parse cX5_parse 5 (some .boolean), .instanceMethod yX5_parse, .methodLink RX1 3 objectInit, .fieldLink RX1 28 "TextShell$Frame" "flags" "I", .fieldLink RX1 9 "TextShell$Frame" "kind" "I", .fieldLink RX1 15 "TextShell$Frame" "state" "I", .fieldLink RX1 18 "TextShell$Frame" "script" "LTextShell$Frame;", .fieldLink RX1 22 "TextShell$Frame" "section" "I", .fieldLink RX1 25 "TextShell$Frame" "line" "I", .fieldLink RX1 31 "TextShell$Frame" "source" "LTextShell$Stream;", .fieldLink RX1 35 "TextShell$Frame" "command" "LTextShell$Tree;", .fieldLink RX1 39 "TextShell$Frame" "clause" "LTextShell$Tree;", .fieldLink RX1 42 "TextShell$Frame" "first" "LTextShell$Tree;", .fieldLink RX1 45 "TextShell$Frame" "last" "LTextShell$Tree;", .fieldLink RX1 48 "TextShell$Frame" "start" "LTextShell$Tree;", .fieldLink RX1 51 "TextShell$Frame" "tail" "LTextShell$Tree;", .fieldLink RX1 54 "TextShell$Frame" "waiting" "LTextShell$Tree;", .fieldLink RX1 57 "TextShell$Frame" "number" "I", .fieldLink RX1 60 "TextShell$Frame" "operator" "I", .fieldLink RX1 63 "TextShell$Frame" "back" "I", .fieldLink RX1 66 "TextShell$Frame" "from" "I", .fieldLink RX1 69 "TextShell$Frame" "mark" "I", .code yX5_atBegin cX5_atBegin 2 none, .methodLink RX5 289 yX5_atBegin, .instanceMethod yX5_atBegin, .constant RX5 136 (40000), .instantiable RX11 15, .code yX11_init cX11_init 2 none, .instanceMethod yX11_init, .instantiable RX1 19, .code yX1_init cX1_init 1 none, .instanceMethod yX1_init, .code yX1_set cX1_set 4 none, .instanceMethod yX1_set, .code yX5_enter cX5_enter 6 (some (.object "TextShell$Frame")), .methodLink RX5 157 yX5_enter, .instanceMethod yX5_enter, .code yX8_text cX8_text 5 (some (.object "TextShell$Stream")), .static yX8_text, .code yX5_begins cX5_begins 2 (some .boolean), .methodLink RX5 69 yX5_begins, .instanceMethod yX5_begins, .code yX5_openText cX5_openText 6 (some (.object "TextShell$Frame")), .methodLink RX5 73 yX5_openText, .instanceMethod yX5_openText, .constant RX5 80 (10000000), .code yX5_top cX5_top 1 (some (.object "TextShell$Frame")), .methodLink RX5 81 yX5_top, .instanceMethod yX5_top, .code yX5_accept cX5_accept 2 none, .methodLink RX5 85 yX5_accept, .instanceMethod yX5_accept, .classLink RX8 10 RX8, .methodLink RX8 27 yX8_init, .methodLink RX11 3 objectInit, .fieldLink RX11 9 "TextShell$Tree" "link" "I", .fieldLink RX11 15 "TextShell$Tree" "number" "I", .fieldLink RX11 18 "TextShell$Tree" "kind" "I", .lays RX1 "TextShell$Frame" "kind" "I", .lays RX1 "TextShell$Frame" "state" "I", .lays RX1 "TextShell$Frame" "section" "I", .lays RX1 "TextShell$Frame" "line" "I", .lays RX1 "TextShell$Frame" "flags" "I", .lays RX1 "TextShell$Frame" "source" "LTextShell$Stream;", .lays RX1 "TextShell$Frame" "script" "LTextShell$Frame;", .lays RX1 "TextShell$Frame" "command" "LTextShell$Tree;", .lays RX1 "TextShell$Frame" "clause" "LTextShell$Tree;", .lays RX1 "TextShell$Frame" "first" "LTextShell$Tree;", .lays RX1 "TextShell$Frame" "last" "LTextShell$Tree;", .lays RX1 "TextShell$Frame" "start" "LTextShell$Tree;", .lays RX1 "TextShell$Frame" "tail" "LTextShell$Tree;", .lays RX1 "TextShell$Frame" "waiting" "LTextShell$Tree;", .lays RX1 "TextShell$Frame" "number" "I", .lays RX1 "TextShell$Frame" "operator" "I", .lays RX1 "TextShell$Frame" "back" "I", .lays RX1 "TextShell$Frame" "from" "I", .lays RX1 "TextShell$Frame" "mark" "I"]
def ev_g6 : List Cond := [.code yX5_replaced cX5_replaced 5 (some .boolean), .methodLink RX5 279 yX5_replaced, .instanceMethod yX5_replaced, .code yX5_isRedirection cX5_isRedirection 1 (some .boolean), .methodLink RX5 323 yX5_isRedirection, .static yX5_isRedirection, .code yX1_has cX1_has 2 (some .boolean), .instanceMethod yX1_has, .code yX5_newline cX5_newline 3 none, .methodLink RX5 329 yX5_newline, .instanceMethod yX5_newline, .code yX5_closeByToken cX5_closeByToken 3 none, .methodLink RX5 335 yX5_closeByToken, .instanceMethod yX5_closeByToken, .code yX5_look cX5_look 3 (some .int), .methodLink RX5 196 yX5_look, .instanceMethod yX5_look, .code yX5_pass cX5_pass 2 none, .methodLink RX5 168 yX5_pass, .instanceMethod yX5_pass, .code yX5_emit cX5_emit 3 none, .methodLink RX5 466 yX5_emit, .instanceMethod yX5_emit, .code yX5_endText cX5_endText 5 none, .methodLink RX5 452 yX5_endText, .instanceMethod yX5_endText, .code yX12_isDigit cX12_isDigit 1 (some .boolean), .static yX12_isDigit, .code yX5_isPlain cX5_isPlain 2 (some .boolean), .methodLink RX5 235 yX5_isPlain, .static yX5_isPlain, .code yX6_isNameUpTo cX6_isNameUpTo 3 (some .boolean), .instanceMethod yX6_isNameUpTo, .methodLink RX6 25 yX6_at, .code yX12_beginsName cX12_beginsName 1 (some .boolean), .static yX12_beginsName, .lays RX11 "TextShell$Tree" "kind" "I", .lays RX11 "TextShell$Tree" "next" "LTextShell$Tree;", .lays RX11 "TextShell$Tree" "link" "I", .lays RX11 "TextShell$Tree" "not" "Z", .lays RX11 "TextShell$Tree" "background" "Z", .lays RX11 "TextShell$Tree" "in" "Z", .lays RX11 "TextShell$Tree" "number" "I", .lays RX11 "TextShell$Tree" "words" "LTextShell$Tree;", .lays RX11 "TextShell$Tree" "head" "LTextShell$Tree;", .lays RX11 "TextShell$Tree" "test" "LTextShell$Tree;", .lays RX11 "TextShell$Tree" "body" "LTextShell$Tree;", .lays RX11 "TextShell$Tree" "rest" "LTextShell$Tree;", .lays RX11 "TextShell$Tree" "name" "LTextShell$Name;", .lays RX11 "TextShell$Tree" "code" "[I", .lays RX11 "TextShell$Tree" "told" "LTextShell$Row;"]
def ev_g7 : List Cond := [.code yX5_endsWord cX5_endsWord 1 (some .boolean), .methodLink RX5 200 yX5_endsWord, .static yX5_endsWord, .code yX5_endWord cX5_endWord 5 none, .methodLink RX5 506 yX5_endWord, .instanceMethod yX5_endWord, .methodLink RX5 180 yJ9_max_7cf53, .static yJ9_max_7cf53, .code yJ9_max_7cf53 cJ9_max_7cf53 2 (some .int), .code yX5_cutCode cX5_cutCode 4 (some (.array .int)), .methodLink RX5 230 yX5_cutCode, .instanceMethod yX5_cutCode, .code yX5_told cX5_told 9 (some (.object "TextShell$Row")), .methodLink RX5 239 yX5_told, .instanceMethod yX5_told, .code yX5_reservedAs cX5_reservedAs 3 (some .int), .methodLink RX5 260 yX5_reservedAs, .instanceMethod yX5_reservedAs, .code yX5_skipBlanks cX5_skipBlanks 6 (some .boolean), .methodLink RX5 189 yX5_skipBlanks, .instanceMethod yX5_skipBlanks, .code yX5_operator cX5_operator 2 (some .int), .methodLink RX5 203 yX5_operator, .instanceMethod yX5_operator, .code yX5_nextToken cX5_nextToken 5 none, .methodLink RX5 99 yX5_nextToken, .instanceMethod yX5_nextToken, .code yX5_bareSign cX5_bareSign 3 none, .methodLink RX5 108 yX5_bareSign, .instanceMethod yX5_bareSign, .methodLink RX6 56 yJ9_max_7cf53, .instantiable RJxb5711 6]
def ev_g8 : List Cond := []
def ev_g9 : List Cond := [.code yX6_place cX6_place 5 (some .int), .instanceMethod yX6_place]
def ev_g10 : List Cond := [.code yX6_isName cX6_isName 1 (some .boolean), .instanceMethod yX6_isName, .code yX6_isText cX6_isText 2 (some .boolean), .instanceMethod yX6_isText, .methodLink RX6 59 yX6_isNameUpTo]
def ev_g11 : List Cond := [.code yX6_isAliasText cX6_isAliasText 1 (some .boolean), .instanceMethod yX6_isAliasText, .methodLink RX6 72 yX6_isText, .methodLink RX6 76 yX6_place]
def ev_g12 : List Cond := [.code yX12_putAlias cX12_putAlias 3 (some .boolean), .methodLink RX12 177 yX12_putAlias, .instanceMethod yX12_putAlias, .classLink RL 37 RX28, .instantiable RX28 104, .code yX28_init cX28_init 1 none, .methodLink RL 39 yX28_init, .instanceMethod yX28_init, .codeWith yL_put cL_put 6 (some .int) [(0, 19, 22, 13)], .methodLink RL 65 yL_put, .static yL_put, .code yX12_put cX12_put 6 (some .boolean), .methodLink RL 28 yX12_put, .instanceMethod yX12_put, .selects RX12 yX12_put yX12_put, .methodLink RX28 1448 objectInit, .classLink RX28 464 "[B", .fieldLink RX28 13 "TextShellModel" "small" "[[B", .classLink RX28 139 "java/lang/IllegalStateException", .classLink RX28 123 RX14, .instantiable RX14 2, .code yX14_init cX14_init 1 none, .instanceMethod yX14_init, .classLink RX28 359 RX21, .instantiable RX21 7, .code yX21_init cX21_init 3 none, .methodLink RX28 420 yX21_init, .instanceMethod yX21_init, .classLink RX28 446 RJx4a65c, .instantiable RJx4a65c 3, .code yJx4a65c_init_da8c8 cJx4a65c_init_da8c8 1 none, .methodLink RX28 1064 yJx4a65c_init_da8c8, .instanceMethod yJx4a65c_init_da8c8, .classLink RX28 475 RX22, .classLink RX28 564 RX26, .instantiable RX26 4, .code yX26_init cX26_init 1 none, .instanceMethod yX26_init, .classLink RX28 208 RX16, .classLink RX28 598 "[I", .code yX28_begin0 cX28_begin0 1 none, .methodLink RX28 1472 yX28_begin0, .instanceMethod yX28_begin0, .code yX26_clear cX26_clear 2 none, .methodLink RX28 1478 yX26_clear, .instanceMethod yX26_clear, .selects RX26 yX26_clear yX26_clear, .code yX28_opened cX28_opened 5 (some (.object "TextShellModel$Open")), .methodLink RX28 758 yX28_opened, .static yX28_opened, .instantiable RX22 5, .code yX22_init cX22_init 1 none, .instanceMethod yX22_init, .methodLink RX14 1 objectInit, .fieldLink RX14 7 "TextShellModel$Bytes" "b" "[B", .fieldLink RX14 13 "TextShellModel$Bytes" "n" "I", .methodLink RX21 1 objectInit, .fieldLink RX21 7 "TextShellModel$Node" "name" "[B", .fieldLink RX21 13 "TextShellModel$Node" "directory" "Z", .fieldLink RX21 20 "TextShellModel$Node" "data" "LTextShellModel$Bytes;", .methodLink RX22 1 objectInit, .methodLink RX26 1 objectInit, .classLink RX26 7 RJx4a65c, .methodLink RX26 9 yJx4a65c_init_da8c8, .fieldLink RX26 10 "TextShellModel$Table" "all" "Ljava/util/ArrayList;", .classLink RX26 16 RX18, .fieldLink RX26 18 "TextShellModel$Table" "heads" "[LTextShellModel$Entry;", .fieldLink RX26 45 "TextShellModel$Table" "many" "I", .fieldLink RX26 49 "TextShellModel$Table" "fixed" "I", .methodLink RJxa1e45 1 objectInit, .code yJxa1e45_init_da8c8 cJxa1e45_init_da8c8 1 none, .methodLink RJxc12de 1 yJxa1e45_init_da8c8, .instanceMethod yJxa1e45_init_da8c8, .fieldLink RJxc12de 7 "java/util/AbstractList" "modCount" "I", .code yJxc12de_init_da8c8 cJxc12de_init_da8c8 1 none, .methodLink RJx4a65c 1 yJxc12de_init_da8c8, .instanceMethod yJxc12de_init_da8c8, .fieldLink RJx4a65c 39 "java/util/ArrayList" "DEFAULTCAPACITY_EMPTY_ELEMENTDATA" "[Ljava/lang/Object;", .fieldLink RJx4a65c 9 "java/util/ArrayList" "elementData" "[Ljava/lang/Object;", .lays RX14 "TextShellModel$Bytes" "b" "[B", .lays RX14 "TextShellModel$Bytes" "n" "I", .lays RX21 "TextShellModel$Node" "name" "[B", .lays RX21 "TextShellModel$Node" "above" "LTextShellModel$Node;", .lays RX21 "TextShellModel$Node" "first" "LTextShellModel$Node;", .lays RX21 "TextShellModel$Node" "next" "LTextShellModel$Node;", .lays RX21 "TextShellModel$Node" "directory" "Z", .lays RX21 "TextShellModel$Node" "gone" "Z", .laysFinal RX21 "TextShellModel$Node" "data" "LTextShellModel$Bytes;", .lays RJx4a65c "java/util/AbstractList" "modCount" "I", .lays RJx4a65c "java/util/ArrayList" "elementData" "[Ljava/lang/Object;", .lays RJx4a65c "java/util/ArrayList" "size" "I", .laysFinal RX26 "TextShellModel$Table" "all" "Ljava/util/ArrayList;", .laysFinal RX26 "TextShellModel$Table" "heads" "[LTextShellModel$Entry;", .lays RX26 "TextShellModel$Table" "many" "I", .lays RX26 "TextShellModel$Table" "fixed" "I", .lays RX22 "TextShellModel$Open" "kind" "I", .lays RX22 "TextShellModel$Open" "pos" "I", .lays RX22 "TextShellModel$Open" "limit" "I", .lays RX22 "TextShellModel$Open" "bytes" "LTextShellModel$Bytes;", .lays RX22 "TextShellModel$Open" "file" "LTextShellModel$Node;"]
def ev_g13 : List Cond := [.fieldLink RX28 30 "TextShellModel" "emptyRow" "[B", .fieldLink RX28 27 "TextShellModel" "singles" "[[B", .fieldLink RX28 60 "TextShellModel" "stop" "Ljava/lang/IllegalStateException;", .fieldLink RX28 1452 "TextShellModel" "raw" "LTextShellModel$Bytes;", .fieldLink RX28 118 "TextShellModel" "run" "LTextShellModel$Bytes;", .fieldLink RX28 1454 "TextShellModel" "rows" "[I", .fieldLink RX28 141 "TextShellModel" "out" "LTextShellModel$Bytes;", .fieldLink RX28 374 "TextShellModel" "root" "LTextShellModel$Node;", .fieldLink RX28 823 "TextShellModel" "here" "LTextShellModel$Node;", .fieldLink RX28 417 "TextShellModel" "directories" "I", .fieldLink RX28 441 "TextShellModel" "listed" "Ljava/util/ArrayList;", .fieldLink RX28 754 "TextShellModel" "open" "[LTextShellModel$Open;", .fieldLink RX28 570 "TextShellModel" "variables" "LTextShellModel$Table;", .fieldLink RX28 1032 "TextShellModel" "functions" "LTextShellModel$Table;", .fieldLink RX28 1366 "TextShellModel" "aliases" "LTextShellModel$Table;", .fieldLink RX28 585 "TextShellModel" "parameters" "[[B", .fieldLink RX28 524 "TextShellModel" "changed" "Ljava/util/ArrayList;", .fieldLink RX28 534 "TextShellModel" "oldValues" "[[B", .fieldLink RX28 540 "TextShellModel" "oldFunctions" "[LTextShellModel$Cmd;", .fieldLink RX28 527 "TextShellModel" "oldOthers" "[I", .fieldLink RX28 669 "TextShellModel" "homeName" "[B", .fieldLink RX28 731 "TextShellModel" "ifsName" "[B", .fieldLink RX28 594 "TextShellModel" "cells" "[[I", .fieldLink RX28 678 "TextShellModel" "shell" "[B", .fieldLink RX28 687 "TextShellModel" "options" "[[B", .fieldLink RX28 798 "TextShellModel" "pathBytes" "[B", .fieldLink RX28 801 "TextShellModel" "moreBytes" "[B", .fieldLink RX28 804 "TextShellModel" "pathEnds" "[I", .fieldLink RX28 807 "TextShellModel" "moreEnds" "[I", .fieldLink RX28 810 "TextShellModel" "pathNodes" "[LTextShellModel$Node;", .fieldLink RX28 814 "TextShellModel" "moreNodes" "[LTextShellModel$Node;", .fieldLink RX28 842 "TextShellModel" "sorted" "Ljava/util/ArrayList;", .fieldLink RX28 855 "TextShellModel" "partName" "[B", .fieldLink RX28 869 "TextShellModel" "signs" "[I", .fieldLink RX28 887 "TextShellModel" "sets" "[J", .fieldLink RX28 872 "TextShellModel" "at" "[Z", .fieldLink RX28 876 "TextShellModel" "then" "[Z", .fieldLink RX28 994 "TextShellModel" "keptOnes" "Ljava/util/ArrayList;", .fieldLink RX28 1385 "TextShellModel" "begins" "[I", .fieldLink RX28 1457 "TextShellModel" "tape" "LTextShellModel$Bytes;", .fieldLink RX28 1460 "TextShellModel" "printed" "LTextShellModel$Bytes;", .fieldLink RX28 1463 "TextShellModel" "output" "LTextShellModel$Bytes;", .fieldLink RX28 1466 "TextShellModel" "errors" "LTextShellModel$Bytes;", .fieldLink RX28 1469 "TextShellModel" "answer" "LTextShellModel$Bytes;", .fieldLink RX28 588 "TextShellModel" "firstParameter" "I", .fieldLink RX28 644 "TextShellModel" "manyParameters" "I", .fieldLink RX28 690 "TextShellModel" "optionE" "Z", .fieldLink RX28 693 "TextShellModel" "optionF" "Z", .fieldLink RX28 696 "TextShellModel" "optionU" "Z", .fieldLink RX28 506 "TextShellModel" "status" "I", .fieldLink RX28 414 "TextShellModel" "files" "I", .fieldLink RX28 434 "TextShellModel" "filled" "I", .fieldLink RX28 1479 "TextShellModel" "script" "LTextShellModel$AndOr;", .fieldLink RX28 1480 "TextShellModel" "isThere" "Z", .fieldLink RX28 1482 "TextShellModel" "isPrinted" "Z", .fieldLink RX28 1485 "TextShellModel" "isAnswered" "Z", .fieldLink RX28 1100 "TextShellModel" "simples" "I", .fieldLink RX28 1488 "TextShellModel" "input" "LTextShellModel$Open;", .fieldLink RX28 1475 "TextShellModel" "thrown" "I", .fieldLink RX28 56 "TextShellModel" "fault" "I", .fieldLink RX28 127 "TextShellModel" "found" "LTextShellModel$AndOr;", .fieldLink RX28 64 "TextShellModel" "source" "J", .fieldLink RX28 523 "TextShellModel" "level" "I", .laysFinal RX28 "TextShellModel" "small" "[[B", .laysFinal RX28 "TextShellModel" "emptyRow" "[B", .laysFinal RX28 "TextShellModel" "singles" "[[B", .laysFinal RX28 "TextShellModel" "stop" "Ljava/lang/IllegalStateException;", .lays RX28 "TextShellModel" "fault" "I", .laysFinal RX28 "TextShellModel" "raw" "LTextShellModel$Bytes;", .laysFinal RX28 "TextShellModel" "run" "LTextShellModel$Bytes;", .lays RX28 "TextShellModel" "rows" "[I", .lays RX28 "TextShellModel" "source" "J", .lays RX28 "TextShellModel" "readCommands" "I", .lays RX28 "TextShellModel" "found" "LTextShellModel$AndOr;", .lays RX28 "TextShellModel" "out" "LTextShellModel$Bytes;", .lays RX28 "TextShellModel" "waiting" "LTextShellModel$Doc;", .lays RX28 "TextShellModel" "latest" "LTextShellModel$Doc;", .lays RX28 "TextShellModel" "root" "LTextShellModel$Node;", .lays RX28 "TextShellModel" "here" "LTextShellModel$Node;", .lays RX28 "TextShellModel" "files" "I", .lays RX28 "TextShellModel" "directories" "I", .lays RX28 "TextShellModel" "filled" "I", .lays RX28 "TextShellModel" "placeIn" "LTextShellModel$Node;", .lays RX28 "TextShellModel" "placeName" "[B", .laysFinal RX28 "TextShellModel" "listed" "Ljava/util/ArrayList;", .laysFinal RX28 "TextShellModel" "open" "[LTextShellModel$Open;", .lays RX28 "TextShellModel" "work" "J", .laysFinal RX28 "TextShellModel" "variables" "LTextShellModel$Table;", .laysFinal RX28 "TextShellModel" "functions" "LTextShellModel$Table;", .laysFinal RX28 "TextShellModel" "aliases" "LTextShellModel$Table;", .lays RX28 "TextShellModel" "parameters" "[[B", .lays RX28 "TextShellModel" "firstParameter" "I", .lays RX28 "TextShellModel" "manyParameters" "I", .lays RX28 "TextShellModel" "optionE" "Z", .lays RX28 "TextShellModel" "optionF" "Z", .lays RX28 "TextShellModel" "optionU" "Z", .lays RX28 "TextShellModel" "status" "I", .lays RX28 "TextShellModel" "flow" "I", .lays RX28 "TextShellModel" "loops" "I", .lays RX28 "TextShellModel" "outOf" "I", .lays RX28 "TextShellModel" "functionsAround" "I", .lays RX28 "TextShellModel" "nest" "I", .lays RX28 "TextShellModel" "quiet" "I", .lays RX28 "TextShellModel" "most" "I", .lays RX28 "TextShellModel" "simples" "I", .lays RX28 "TextShellModel" "level" "I", .lays RX28 "TextShellModel" "subStatus" "I", .lays RX28 "TextShellModel" "stoppedByMost" "Z", .laysFinal RX28 "TextShellModel" "changed" "Ljava/util/ArrayList;", .lays RX28 "TextShellModel" "oldValues" "[[B", .lays RX28 "TextShellModel" "oldFunctions" "[LTextShellModel$Cmd;", .lays RX28 "TextShellModel" "oldOthers" "[I", .laysFinal RX28 "TextShellModel" "homeName" "[B", .laysFinal RX28 "TextShellModel" "ifsName" "[B", .lays RX28 "TextShellModel" "cells" "[[I", .lays RX28 "TextShellModel" "top" "I", .lays RX28 "TextShellModel" "chars" "I", .laysFinal RX28 "TextShellModel" "shell" "[B", .laysFinal RX28 "TextShellModel" "options" "[[B", .lays RX28 "TextShellModel" "ifs" "[B", .lays RX28 "TextShellModel" "pathBytes" "[B", .lays RX28 "TextShellModel" "moreBytes" "[B", .lays RX28 "TextShellModel" "pathEnds" "[I", .lays RX28 "TextShellModel" "moreEnds" "[I", .lays RX28 "TextShellModel" "pathNodes" "[LTextShellModel$Node;", .lays RX28 "TextShellModel" "moreNodes" "[LTextShellModel$Node;", .lays RX28 "TextShellModel" "pathMany" "I", .lays RX28 "TextShellModel" "moreMany" "I", .laysFinal RX28 "TextShellModel" "sorted" "Ljava/util/ArrayList;", .lays RX28 "TextShellModel" "partName" "[B"]
def ev_g14 : List Cond := [.code yX28_feed cX28_feed 6 (some .int), .methodLink RL 44 yX28_feed, .instanceMethod yX28_feed, .selects RX28 yX28_feed yX28_feed, .code yX28_read_ cX28_read_ 3 (some .int), .methodLink RL 50 yX28_read_, .instanceMethod yX28_read_, .selects RX28 yX28_read_ yX28_read_, .code yX28_five cX28_five 3 none, .methodLink RX28 1492 yX28_five, .instanceMethod yX28_five, .code yX14_add cX14_add 4 none, .methodLink RX28 144 yX14_add, .instanceMethod yX14_add, .selects RX14 yX14_add yX14_add, .code yX28_isTextByte cX28_isTextByte 1 (some .boolean), .methodLink RX28 53 yX28_isTextByte, .static yX28_isTextByte, .code yX28_isText cX28_isText 3 (some .boolean), .methodLink RX28 131 yX28_isText, .static yX28_isText, .code yX28_has_ cX28_has_ 5 (some .boolean), .methodLink RX28 1495 yX28_has_, .instanceMethod yX28_has_, .code yX28_fails cX28_fails 3 (some .boolean), .methodLink RX28 1498 yX28_fails, .instanceMethod yX28_fails, .code yX28_part cX28_part 5 (some (.array .byte)), .methodLink RX28 38 yX28_part, .static yX28_part, .code yX28_taken cX28_taken 3 (some (.array .byte)), .methodLink RX28 1502 yX28_taken, .instanceMethod yX28_taken, .codeWith yX28_reads cX28_reads 3 (some .boolean) [(40, 52, 55, 139)], .methodLink RX28 1183 yX28_reads, .instanceMethod yX28_reads, .code yX28_scriptOf cX28_scriptOf 8 (some (.object "TextShellModel$AndOr")), .methodLink RX28 135 yX28_scriptOf, .instanceMethod yX28_scriptOf, .constantLong RX28 68 (16), .constantLong RX28 70 (40000), .code yX28_room cX28_room 2 none, .methodLink RX28 76 yX28_room, .instanceMethod yX28_room, .classLink RX28 80 RX25, .instantiable RX25 17, .code yX25_init cX25_init 7 none, .methodLink RX28 82 yX25_init, .instanceMethod yX25_init, .code yX25_next cX25_next 2 none, .instanceMethod yX25_next, .methodLink RX19 1 objectInit, .fieldLink RX19 7 "TextShellModel$Input" "line" "I", .methodLink RX25 3 objectInit, .fieldLink RX25 9 "TextShellModel$Reader" "house" "LTextShellModel;", .fieldLink RX25 15 "TextShellModel$Reader" "depth" "I", .fieldLink RX25 19 "TextShellModel$Reader" "inner" "I", .classLink RX25 22 RX19, .instantiable RX19 8, .code yX19_init cX19_init 1 none, .instanceMethod yX19_init, .fieldLink RX25 25 "TextShellModel$Reader" "in" "LTextShellModel$Input;", .fieldLink RX25 39 "TextShellModel$Reader" "limit" "LTextShellModel$Input;", .fieldLink RX25 196 "TextShellModel$Reader" "word" "LTextShellModel$Word;", .fieldLink RX25 193 "TextShellModel$Reader" "tokenLine" "I", .fieldLink RX25 255 "TextShellModel$Reader" "tells" "Z", .fieldLink RX25 52 "TextShellModel$Reader" "rawDepth" "I", .fieldLink RX25 55 "TextShellModel$Reader" "rawIn" "LTextShellModel$Input;", .fieldLink RX25 190 "TextShellModel$Reader" "token" "I", .code yX25_look cX25_look 1 (some .int), .methodLink RX25 85 yX25_look, .instanceMethod yX25_look, .fieldLink RX25 203 "TextShellModel$Reader" "follows" "Z", .fieldLink RX25 200 "TextShellModel$Reader" "tokenIn" "LTextShellModel$Input;", .methodLink RX25 226 yX25_isBlank, .instanceMethod yX25_isBlank, .lays RX28 "TextShellModel" "partLong" "I", .lays RX28 "TextShellModel" "partWild" "Z", .lays RX28 "TextShellModel" "pathWork" "I", .lays RX28 "TextShellModel" "pathChars" "I", .lays RX28 "TextShellModel" "signs" "[I", .lays RX28 "TextShellModel" "sets" "[J", .lays RX28 "TextShellModel" "many" "I", .lays RX28 "TextShellModel" "manySets" "I", .lays RX28 "TextShellModel" "at" "[Z", .lays RX28 "TextShellModel" "then" "[Z", .lays RX28 "TextShellModel" "leastAt" "I", .lays RX28 "TextShellModel" "mostAt" "I", .lays RX28 "TextShellModel" "sum" "[B", .lays RX28 "TextShellModel" "place" "I", .lays RX28 "TextShellModel" "within" "I", .lays RX28 "TextShellModel" "bad" "Z", .lays RX28 "TextShellModel" "number" "J", .laysFinal RX28 "TextShellModel" "keptOnes" "Ljava/util/ArrayList;", .lays RX28 "TextShellModel" "value" "J", .lays RX28 "TextShellModel" "begins" "[I", .lays RX28 "TextShellModel" "manyLines" "I", .lays RX28 "TextShellModel" "setAt" "I", .lays RX28 "TextShellModel" "low" "I", .lays RX28 "TextShellModel" "high" "I", .lays RX28 "TextShellModel" "thrown" "I", .laysFinal RX28 "TextShellModel" "tape" "LTextShellModel$Bytes;", .lays RX28 "TextShellModel" "script" "LTextShellModel$AndOr;", .lays RX28 "TextShellModel" "isThere" "Z", .lays RX28 "TextShellModel" "isPrinted" "Z", .lays RX28 "TextShellModel" "isAnswered" "Z", .lays RX28 "TextShellModel" "commands" "I", .lays RX28 "TextShellModel" "answerLength" "I", .laysFinal RX28 "TextShellModel" "printed" "LTextShellModel$Bytes;", .laysFinal RX28 "TextShellModel" "output" "LTextShellModel$Bytes;", .laysFinal RX28 "TextShellModel" "errors" "LTextShellModel$Bytes;", .laysFinal RX28 "TextShellModel" "answer" "LTextShellModel$Bytes;", .lays RX28 "TextShellModel" "input" "LTextShellModel$Open;", .laysFinal RX25 "TextShellModel$Reader" "house" "LTextShellModel;", .lays RX25 "TextShellModel$Reader" "in" "LTextShellModel$Input;", .lays RX25 "TextShellModel$Reader" "limit" "LTextShellModel$Input;", .lays RX25 "TextShellModel$Reader" "token" "I", .lays RX25 "TextShellModel$Reader" "tokenLine" "I", .lays RX25 "TextShellModel$Reader" "digit" "I", .lays RX25 "TextShellModel$Reader" "word" "LTextShellModel$Word;", .lays RX25 "TextShellModel$Reader" "tokenIn" "LTextShellModel$Input;", .lays RX25 "TextShellModel$Reader" "follows" "Z", .lays RX25 "TextShellModel$Reader" "first" "LTextShellModel$Doc;", .lays RX25 "TextShellModel$Reader" "last" "LTextShellModel$Doc;", .lays RX25 "TextShellModel$Reader" "depth" "I", .lays RX25 "TextShellModel$Reader" "inner" "I", .lays RX25 "TextShellModel$Reader" "commands" "I", .lays RX25 "TextShellModel$Reader" "tells" "Z", .lays RX25 "TextShellModel$Reader" "rawDepth" "I", .lays RX25 "TextShellModel$Reader" "rawIn" "LTextShellModel$Input;", .lays RX19 "TextShellModel$Input" "b" "[B", .lays RX19 "TextShellModel$Input" "n" "I", .lays RX19 "TextShellModel$Input" "pos" "I", .lays RX19 "TextShellModel$Input" "line" "I", .lays RX19 "TextShellModel$Input" "lines" "[I", .lays RX19 "TextShellModel$Input" "alias" "LTextShellModel$Entry;", .lays RX19 "TextShellModel$Input" "below" "LTextShellModel$Input;", .lays RX19 "TextShellModel$Input" "up" "LTextShellModel$Input;"]
def ev_g15 : List Cond := [.methodLink RX28 1 yJ0_length_8abf5, .methodLink RX28 7 yJ0_charAt_5068e, .code yX28_nameEnd cX28_nameEnd 3 (some .int), .methodLink RX28 42 yX28_nameEnd, .static yX28_nameEnd, .code yX28_isLetter cX28_isLetter 1 (some .boolean), .methodLink RX28 46 yX28_isLetter, .static yX28_isLetter, .code yX28_isName cX28_isName 1 (some .boolean), .static yX28_isName, .code yX26_find cX26_find 5 (some (.object "TextShellModel$Entry")), .instanceMethod yX26_find, .selects RX26 yX26_find yX26_find, .code yX28_oneByte cX28_oneByte 2 (some (.array .byte)), .methodLink RX28 34 yX28_oneByte, .instanceMethod yX28_oneByte, .code yX25_script cX25_script 2 (some (.object "TextShellModel$AndOr")), .instanceMethod yX25_script, .methodLink RX23 1 objectInit, .classLink RX25 251 RX27, .instantiable RX27 9, .code yX27_init cX27_init 1 none, .instanceMethod yX27_init, .code yX25_parts cX25_parts 11 (some (.object "TextShellModel$Part")), .methodLink RX25 140 yX25_parts, .instanceMethod yX25_parts, .code yX28_rowOf cX28_rowOf 4 (some (.array .byte)), .instanceMethod yX28_rowOf, .code yX25_plain cX25_plain 1 (some (.array .byte)), .methodLink RX25 262 yX25_plain, .instanceMethod yX25_plain, .code yX28_isDigit cX28_isDigit 1 (some .boolean), .static yX28_isDigit, .code yX25_isReserved cX25_isReserved 2 (some .boolean), .methodLink RX25 314 yX25_isReserved, .instanceMethod yX25_isReserved, .methodLink RX25 324 yX26_find, .methodLink RX25 206 yX25_next, .code yX28_is cX28_is 3 (some .boolean), .static yX28_is, .code yX25_made cX25_made 3 (some (.object "TextShellModel$Part")), .methodLink RX25 128 yX25_made, .instanceMethod yX25_made, .code yX25_begins cX25_begins 2 (some .boolean), .methodLink RX25 272 yX25_begins, .instanceMethod yX25_begins, .code yX25_closes cX25_closes 2 (some .boolean), .methodLink RX25 276 yX25_closes, .instanceMethod yX25_closes, .classLink RX25 75 RX23, .instantiable RX23 7, .code yX23_init cX23_init 1 none, .instanceMethod yX23_init, .code yX25_isBlank cX25_isBlank 2 (some .boolean), .code yX25_take cX25_take 2 (some .int), .methodLink RX25 96 yX25_take, .instanceMethod yX25_take, .code yX25_line cX25_line 1 (some .int), .methodLink RX25 68 yX25_line, .instanceMethod yX25_line, .code yX25_aWord cX25_aWord 4 none, .methodLink RX25 244 yX25_aWord, .instanceMethod yX25_aWord, .code yX25_aliases cX25_aliases 7 none, .methodLink RX25 247 yX25_aliases, .instanceMethod yX25_aliases, .code yX25_ends cX25_ends 2 (some .boolean), .methodLink RX25 92 yX25_ends, .instanceMethod yX25_ends, .methodLink RX25 62 yX14_add, .code yX25_settle cX25_settle 1 none, .methodLink RX25 397 yX25_settle, .instanceMethod yX25_settle, .code yX26_chain cX26_chain 3 (some .int), .methodLink RX26 22 yX26_chain, .static yX26_chain, .code yX28_same cX28_same 3 (some .boolean), .static yX28_same, .instantiable RX18 8, .methodLink RX27 3 objectInit, .fieldLink RX27 9 "TextShellModel$Word" "number" "I", .lays RX27 "TextShellModel$Word" "role" "I", .lays RX27 "TextShellModel$Word" "number" "I", .lays RX27 "TextShellModel$Word" "op" "I", .lays RX27 "TextShellModel$Word" "line" "I", .lays RX27 "TextShellModel$Word" "first" "LTextShellModel$Part;", .lays RX27 "TextShellModel$Word" "raw" "[B", .lays RX27 "TextShellModel$Word" "name" "[B", .lays RX27 "TextShellModel$Word" "doc" "LTextShellModel$Doc;", .lays RX27 "TextShellModel$Word" "next" "LTextShellModel$Word;", .lays RX23 "TextShellModel$Part" "kind" "I", .lays RX23 "TextShellModel$Part" "text" "[B", .lays RX23 "TextShellModel$Part" "parts" "LTextShellModel$Part;", .lays RX23 "TextShellModel$Part" "next" "LTextShellModel$Part;", .lays RX23 "TextShellModel$Part" "sign" "I", .lays RX23 "TextShellModel$Part" "colon" "Z", .lays RX23 "TextShellModel$Part" "script" "LTextShellModel$AndOr;"]
def ev_g16 : List Cond := [.methodLink RX18 1 objectInit, .code yX25_isFree cX25_isFree 5 (some .boolean), .methodLink RX25 335 yX25_isFree, .instanceMethod yX25_isFree, .code yX18_init cX18_init 1 none, .instanceMethod yX18_init, .lays RX18 "TextShellModel$Entry" "name" "[B", .lays RX18 "TextShellModel$Entry" "value" "[B", .lays RX18 "TextShellModel$Entry" "function" "LTextShellModel$Cmd;", .lays RX18 "TextShellModel$Entry" "set" "Z", .lays RX18 "TextShellModel$Entry" "fixed" "Z", .lays RX18 "TextShellModel$Entry" "level" "I", .lays RX18 "TextShellModel$Entry" "table" "LTextShellModel$Table;", .lays RX18 "TextShellModel$Entry" "next" "LTextShellModel$Entry;"]
def ev_g17 : List Cond := [.code yX25_flushed cX25_flushed 4 (some (.object "TextShellModel$Part")), .methodLink RX25 110 yX25_flushed, .instanceMethod yX25_flushed, .code yX25_linked cX25_linked 3 (some (.object "TextShellModel$Part")), .methodLink RX25 114 yX25_linked, .instanceMethod yX25_linked]
def ev_g18 : List Cond := []
def ev_g19 : List Cond := [.code yX28_touch cX28_touch 3 none, .methodLink RX28 581 yX28_touch, .instanceMethod yX28_touch, .code yX28_setTo cX28_setTo 4 none, .methodLink RX28 555 yX28_setTo, .instanceMethod yX28_setTo, .methodLink RX28 573 yX26_find, .code yX28_change cX28_change 4 none, .methodLink RX28 577 yX28_change, .instanceMethod yX28_change, .fieldLink RJ0 9 "java/lang/String" "value" "[B", .fieldLink RJ0 15 "java/lang/String" "coder" "B"]
def ev_g20 : List Cond := []
def ev_g21 : List Cond := [.methodLink RX28 1204 yX28_isName, .code yX28_isAliasText cX28_isAliasText 3 (some .boolean), .methodLink RX28 1369 yX28_isAliasText, .static yX28_isAliasText]
def ev_g22 : List Cond := [.code yX28_put_ cX28_put_ 9 (some .boolean), .methodLink RL 68 yX28_put_, .instanceMethod yX28_put_, .selects RX28 yX28_put_ yX28_put_]
def ev_g23 : List Cond := []
def ev_gx0 : List Cond := (vx_at0 RX28 1451 "java/lang/IllegalStateException" ["java/lang/RuntimeException", "java/lang/Exception"]).filter goodWord
def ev_Ws : List (List Cond) := [ev_g0, ev_g1, ev_g2, ev_g3, ev_g4, ev_g5, ev_g6, ev_g7, ev_g8, ev_g9, ev_g10, ev_g11, ev_g12, ev_g13, ev_g14, ev_g15, ev_g16, ev_g17, ev_g18, ev_g19, ev_g20, ev_g21, ev_g22, ev_g23, ev_gx0]
def ev_W : List Cond := ev_Ws.flatten
theorem ev_wm {a i : Nat} {r : List Cond} {w : Cond} (h1 : ev_Ws[a]? = some r) (h2 : r[i]? = some w) : w ∈ ev_W := List.mem_flatten.mpr ⟨r, List.mem_of_getElem? h1, List.mem_of_getElem? h2⟩
theorem ev_wmL {a : Nat} {r : List Cond} (h1 : ev_Ws[a]? = some r) : ∀ w ∈ r, w ∈ ev_W := fun w h => List.mem_flatten.mpr ⟨r, List.mem_of_getElem? h1, h⟩
theorem ev_Wg : ev_W.all goodWord = true := by decide +kernel
theorem ev_v0 : (Cond.methodLink RX12 1 objectInit) ∈ ev_W := ev_wm (a := 1) (i := 0) (r := ev_g1) rfl rfl
theorem ev_v1 : (Cond.instanceMethod objectInit) ∈ ev_W := ev_wm (a := 1) (i := 1) (r := ev_g1) rfl rfl
theorem ev_v2 : (Cond.code objectInit ⟨#[0xb1]⟩ 1 none) ∈ ev_W := ev_wm (a := 1) (i := 2) (r := ev_g1) rfl rfl
theorem ev_v3 : (Cond.classLink RX12 7 RX6) ∈ ev_W := ev_wm (a := 1) (i := 3) (r := ev_g1) rfl rfl
theorem ev_v4 : (Cond.instantiable RX6 2) ∈ ev_W := ev_wm (a := 1) (i := 4) (r := ev_g1) rfl rfl
theorem ev_v5 : (Cond.initialized RX6) ∈ ev_W := ev_wm (a := 1) (i := 5) (r := ev_g1) rfl rfl
theorem ev_v6 : (Cond.code yX6_init cX6_init 2 none) ∈ ev_W := ev_wm (a := 1) (i := 6) (r := ev_g1) rfl rfl
theorem ev_v7 : (Cond.instanceMethod yX6_init) ∈ ev_W := ev_wm (a := 1) (i := 7) (r := ev_g1) rfl rfl
theorem ev_v8 : (Cond.fieldLink RX12 12 "TextShell" "tape" "LTextShell$Row;") ∈ ev_W := ev_wm (a := 4) (i := 0) (r := ev_g4) rfl rfl
theorem ev_v9 : (Cond.fieldLink RX12 18 "TextShell" "printed" "LTextShell$Row;") ∈ ev_W := ev_wm (a := 4) (i := 1) (r := ev_g4) rfl rfl
theorem ev_v10 : (Cond.fieldLink RX12 21 "TextShell" "answer" "LTextShell$Row;") ∈ ev_W := ev_wm (a := 4) (i := 2) (r := ev_g4) rfl rfl
theorem ev_v11 : (Cond.classLink RX12 24 RX2) ∈ ev_W := ev_wm (a := 1) (i := 8) (r := ev_g1) rfl rfl
theorem ev_v12 : (Cond.instantiable RX2 21) ∈ ev_W := ev_wm (a := 1) (i := 9) (r := ev_g1) rfl rfl
theorem ev_v13 : (Cond.initialized RX2) ∈ ev_W := ev_wm (a := 1) (i := 10) (r := ev_g1) rfl rfl
theorem ev_v14 : (Cond.code yX2_init cX2_init 1 none) ∈ ev_W := ev_wm (a := 1) (i := 11) (r := ev_g1) rfl rfl
theorem ev_v15 : (Cond.instanceMethod yX2_init) ∈ ev_W := ev_wm (a := 1) (i := 12) (r := ev_g1) rfl rfl
theorem ev_v16 : (Cond.fieldLink RX12 27 "TextShell" "memory" "LTextShell$Memory;") ∈ ev_W := ev_wm (a := 4) (i := 3) (r := ev_g4) rfl rfl
theorem ev_v17 : (Cond.classLink RX12 31 RX5) ∈ ev_W := ev_wm (a := 2) (i := 0) (r := ev_g2) rfl rfl
theorem ev_v18 : (Cond.instantiable RX5 22) ∈ ev_W := ev_wm (a := 2) (i := 1) (r := ev_g2) rfl rfl
theorem ev_v19 : (Cond.initialized RX5) ∈ ev_W := ev_wm (a := 1) (i := 13) (r := ev_g1) rfl rfl
theorem ev_v20 : (Cond.code yX5_init cX5_init 2 none) ∈ ev_W := ev_wm (a := 2) (i := 2) (r := ev_g2) rfl rfl
theorem ev_v21 : (Cond.instanceMethod yX5_init) ∈ ev_W := ev_wm (a := 2) (i := 3) (r := ev_g2) rfl rfl
theorem ev_v22 : (Cond.fieldLink RX12 36 "TextShell" "reader" "LTextShell$Reader;") ∈ ev_W := ev_wm (a := 4) (i := 4) (r := ev_g4) rfl rfl
theorem ev_v23 : (Cond.classLink RX12 40 RX7) ∈ ev_W := ev_wm (a := 3) (i := 0) (r := ev_g3) rfl rfl
theorem ev_v24 : (Cond.instantiable RX7 24) ∈ ev_W := ev_wm (a := 3) (i := 1) (r := ev_g3) rfl rfl
theorem ev_v25 : (Cond.initialized RX7) ∈ ev_W := ev_wm (a := 1) (i := 14) (r := ev_g1) rfl rfl
theorem ev_v26 : (Cond.code yX7_init cX7_init 3 none) ∈ ev_W := ev_wm (a := 3) (i := 2) (r := ev_g3) rfl rfl
theorem ev_v27 : (Cond.instanceMethod yX7_init) ∈ ev_W := ev_wm (a := 3) (i := 3) (r := ev_g3) rfl rfl
theorem ev_v28 : (Cond.fieldLink RX12 45 "TextShell" "shell" "LTextShell$Shell;") ∈ ev_W := ev_wm (a := 4) (i := 5) (r := ev_g4) rfl rfl
theorem ev_v29 : (Cond.classLink RX12 49 RX0) ∈ ev_W := ev_wm (a := 3) (i := 4) (r := ev_g3) rfl rfl
theorem ev_v30 : (Cond.instantiable RX0 22) ∈ ev_W := ev_wm (a := 3) (i := 5) (r := ev_g3) rfl rfl
theorem ev_v31 : (Cond.initialized RX0) ∈ ev_W := ev_wm (a := 1) (i := 15) (r := ev_g1) rfl rfl
theorem ev_v32 : (Cond.code yX0_init cX0_init 4 none) ∈ ev_W := ev_wm (a := 3) (i := 6) (r := ev_g3) rfl rfl
theorem ev_v33 : (Cond.instanceMethod yX0_init) ∈ ev_W := ev_wm (a := 3) (i := 7) (r := ev_g3) rfl rfl
theorem ev_v34 : (Cond.classLink RX12 58 RX10) ∈ ev_W := ev_wm (a := 4) (i := 6) (r := ev_g4) rfl rfl
theorem ev_v35 : (Cond.instantiable RX10 18) ∈ ev_W := ev_wm (a := 4) (i := 7) (r := ev_g4) rfl rfl
theorem ev_v36 : (Cond.initialized RX10) ∈ ev_W := ev_wm (a := 1) (i := 16) (r := ev_g1) rfl rfl
theorem ev_v37 : (Cond.code yX10_init cX10_init 4 none) ∈ ev_W := ev_wm (a := 4) (i := 8) (r := ev_g4) rfl rfl
theorem ev_v38 : (Cond.instanceMethod yX10_init) ∈ ev_W := ev_wm (a := 4) (i := 9) (r := ev_g4) rfl rfl
theorem ev_v39 : (Cond.code yX12_feedFour cX12_feedFour 2 none) ∈ ev_W := ev_wm (a := 4) (i := 10) (r := ev_g4) rfl rfl
theorem ev_v40 : (Cond.initialized RX12) ∈ ev_W := ev_wm (a := 1) (i := 17) (r := ev_g1) rfl rfl
theorem ev_v41 : (Cond.methodLink RX12 71 yX12_feedFour) ∈ ev_W := ev_wm (a := 4) (i := 11) (r := ev_g4) rfl rfl
theorem ev_v42 : (Cond.instanceMethod yX12_feedFour) ∈ ev_W := ev_wm (a := 4) (i := 12) (r := ev_g4) rfl rfl
theorem ev_v43 : (Cond.selects RX12 yX12_feedFour yX12_feedFour) ∈ ev_W := ev_wm (a := 0) (i := 0) (r := ev_g0) rfl rfl
theorem ev_v44 : (Cond.code yX6_add cX6_add 3 none) ∈ ev_W := ev_wm (a := 1) (i := 18) (r := ev_g1) rfl rfl
theorem ev_v45 : (Cond.instanceMethod yX6_add) ∈ ev_W := ev_wm (a := 1) (i := 19) (r := ev_g1) rfl rfl
theorem ev_v46 : (Cond.selects RX6 yX6_add yX6_add) ∈ ev_W := ev_wm (a := 0) (i := 1) (r := ev_g0) rfl rfl
theorem ev_v47 : (Cond.code yX6_at cX6_at 2 (some .int)) ∈ ev_W := ev_wm (a := 4) (i := 13) (r := ev_g4) rfl rfl
theorem ev_v48 : (Cond.instanceMethod yX6_at) ∈ ev_W := ev_wm (a := 4) (i := 14) (r := ev_g4) rfl rfl
theorem ev_v49 : (Cond.selects RX6 yX6_at yX6_at) ∈ ev_W := ev_wm (a := 0) (i := 2) (r := ev_g0) rfl rfl
theorem ev_v50 : (Cond.code yX12_isTextSign cX12_isTextSign 1 (some .boolean)) ∈ ev_W := ev_wm (a := 4) (i := 15) (r := ev_g4) rfl rfl
theorem ev_v51 : (Cond.methodLink RX12 281 yX12_isTextSign) ∈ ev_W := ev_wm (a := 4) (i := 16) (r := ev_g4) rfl rfl
theorem ev_v52 : (Cond.static yX12_isTextSign) ∈ ev_W := ev_wm (a := 4) (i := 17) (r := ev_g4) rfl rfl
theorem ev_v53 : (Cond.code yX12_holds cX12_holds 4 (some .boolean)) ∈ ev_W := ev_wm (a := 4) (i := 18) (r := ev_g4) rfl rfl
theorem ev_v54 : (Cond.methodLink RX12 77 yX12_holds) ∈ ev_W := ev_wm (a := 4) (i := 19) (r := ev_g4) rfl rfl
theorem ev_v55 : (Cond.instanceMethod yX12_holds) ∈ ev_W := ev_wm (a := 4) (i := 20) (r := ev_g4) rfl rfl
theorem ev_v56 : (Cond.selects RX12 yX12_holds yX12_holds) ∈ ev_W := ev_wm (a := 0) (i := 3) (r := ev_g0) rfl rfl
theorem ev_v57 : (Cond.code yX6_part cX6_part 5 (some (.object "TextShell$Row"))) ∈ ev_W := ev_wm (a := 1) (i := 20) (r := ev_g1) rfl rfl
theorem ev_v58 : (Cond.instanceMethod yX6_part) ∈ ev_W := ev_wm (a := 1) (i := 21) (r := ev_g1) rfl rfl
theorem ev_v59 : (Cond.selects RX6 yX6_part yX6_part) ∈ ev_W := ev_wm (a := 0) (i := 4) (r := ev_g0) rfl rfl
theorem ev_v60 : (Cond.code yX12_putAlias cX12_putAlias 3 (some .boolean)) ∈ ev_W := ev_wm (a := 12) (i := 0) (r := ev_g12) rfl rfl
theorem ev_v61 : (Cond.methodLink RX12 177 yX12_putAlias) ∈ ev_W := ev_wm (a := 12) (i := 1) (r := ev_g12) rfl rfl
theorem ev_v62 : (Cond.instanceMethod yX12_putAlias) ∈ ev_W := ev_wm (a := 12) (i := 2) (r := ev_g12) rfl rfl
theorem ev_v63 : (Cond.selects RX12 yX12_putAlias yX12_putAlias) ∈ ev_W := ev_wm (a := 0) (i := 5) (r := ev_g0) rfl rfl
theorem ev_v64 : (Cond.code yX6_isName cX6_isName 1 (some .boolean)) ∈ ev_W := ev_wm (a := 10) (i := 0) (r := ev_g10) rfl rfl
theorem ev_v65 : (Cond.instanceMethod yX6_isName) ∈ ev_W := ev_wm (a := 10) (i := 1) (r := ev_g10) rfl rfl
theorem ev_v66 : (Cond.selects RX6 yX6_isName yX6_isName) ∈ ev_W := ev_wm (a := 0) (i := 6) (r := ev_g0) rfl rfl
theorem ev_v67 : (Cond.code yX6_isAliasText cX6_isAliasText 1 (some .boolean)) ∈ ev_W := ev_wm (a := 11) (i := 0) (r := ev_g11) rfl rfl
theorem ev_v68 : (Cond.instanceMethod yX6_isAliasText) ∈ ev_W := ev_wm (a := 11) (i := 1) (r := ev_g11) rfl rfl
theorem ev_v69 : (Cond.selects RX6 yX6_isAliasText yX6_isAliasText) ∈ ev_W := ev_wm (a := 0) (i := 7) (r := ev_g0) rfl rfl
theorem ev_v70 : (Cond.code yX2_name cX2_name 5 (some (.object "TextShell$Name"))) ∈ ev_W := ev_wm (a := 1) (i := 22) (r := ev_g1) rfl rfl
theorem ev_v71 : (Cond.instanceMethod yX2_name) ∈ ev_W := ev_wm (a := 1) (i := 23) (r := ev_g1) rfl rfl
theorem ev_v72 : (Cond.selects RX2 yX2_name yX2_name) ∈ ev_W := ev_wm (a := 0) (i := 8) (r := ev_g0) rfl rfl
theorem ev_v73 : (Cond.fieldLink RX12 92 "TextShell" "script" "LTextShell$Tree;") ∈ ev_W := ev_wm (a := 4) (i := 21) (r := ev_g4) rfl rfl
theorem ev_v74 : (Cond.fieldLink RX12 96 "TextShell" "hasPrint" "Z") ∈ ev_W := ev_wm (a := 4) (i := 22) (r := ev_g4) rfl rfl
theorem ev_v75 : (Cond.code yX5_parse cX5_parse 5 (some .boolean)) ∈ ev_W := ev_wm (a := 5) (i := 0) (r := ev_g5) rfl rfl
theorem ev_v76 : (Cond.instanceMethod yX5_parse) ∈ ev_W := ev_wm (a := 5) (i := 1) (r := ev_g5) rfl rfl
theorem ev_v77 : (Cond.selects RX5 yX5_parse yX5_parse) ∈ ev_W := ev_wm (a := 0) (i := 9) (r := ev_g0) rfl rfl
theorem ev_v78 : (Cond.fieldLink RX12 114 "TextShell" "commands" "I") ∈ ev_W := ev_wm (a := 4) (i := 23) (r := ev_g4) rfl rfl
theorem ev_v79 : (Cond.methodLink RX0 3 objectInit) ∈ ev_W := ev_wm (a := 3) (i := 8) (r := ev_g3) rfl rfl
theorem ev_v80 : (Cond.arrayClass .int) ∈ ev_W := ev_wm (a := 1) (i := 24) (r := ev_g1) rfl rfl
theorem ev_v81 : (Cond.fieldLink RX0 9 "TextShell$Expander" "items" "[I") ∈ ev_W := ev_wm (a := 4) (i := 24) (r := ev_g4) rfl rfl
theorem ev_v82 : (Cond.classLink RX0 15 RX6) ∈ ev_W := ev_wm (a := 3) (i := 9) (r := ev_g3) rfl rfl
theorem ev_v83 : (Cond.fieldLink RX0 17 "TextShell$Expander" "fields" "[LTextShell$Row;") ∈ ev_W := ev_wm (a := 4) (i := 25) (r := ev_g4) rfl rfl
theorem ev_v84 : (Cond.fieldLink RX0 21 "TextShell$Expander" "separators" "[I") ∈ ev_W := ev_wm (a := 4) (i := 26) (r := ev_g4) rfl rfl
theorem ev_v85 : (Cond.fieldLink RX0 27 "TextShell$Expander" "scratch" "LTextShell$Row;") ∈ ev_W := ev_wm (a := 4) (i := 27) (r := ev_g4) rfl rfl
theorem ev_v86 : (Cond.fieldLink RX0 31 "TextShell$Expander" "pattern" "[I") ∈ ev_W := ev_wm (a := 4) (i := 28) (r := ev_g4) rfl rfl
theorem ev_v87 : (Cond.fieldLink RX0 34 "TextShell$Expander" "elements" "[I") ∈ ev_W := ev_wm (a := 4) (i := 29) (r := ev_g4) rfl rfl
theorem ev_v88 : (Cond.fieldLink RX0 37 "TextShell$Expander" "reached" "[I") ∈ ev_W := ev_wm (a := 4) (i := 30) (r := ev_g4) rfl rfl
theorem ev_v89 : (Cond.fieldLink RX0 40 "TextShell$Expander" "paths" "[LTextShell$Row;") ∈ ev_W := ev_wm (a := 4) (i := 31) (r := ev_g4) rfl rfl
theorem ev_v90 : (Cond.classLink RX0 43 RX4) ∈ ev_W := ev_wm (a := 3) (i := 10) (r := ev_g3) rfl rfl
theorem ev_v91 : (Cond.fieldLink RX0 45 "TextShell$Expander" "nodes" "[LTextShell$Node;") ∈ ev_W := ev_wm (a := 4) (i := 32) (r := ev_g4) rfl rfl
theorem ev_v92 : (Cond.fieldLink RX0 49 "TextShell$Expander" "memory" "LTextShell$Memory;") ∈ ev_W := ev_wm (a := 4) (i := 33) (r := ev_g4) rfl rfl
theorem ev_v93 : (Cond.fieldLink RX0 53 "TextShell$Expander" "reader" "LTextShell$Reader;") ∈ ev_W := ev_wm (a := 4) (i := 34) (r := ev_g4) rfl rfl
theorem ev_v94 : (Cond.fieldLink RX0 57 "TextShell$Expander" "shell" "LTextShell$Shell;") ∈ ev_W := ev_wm (a := 4) (i := 35) (r := ev_g4) rfl rfl
theorem ev_v95 : (Cond.classLink RX0 61 RX9) ∈ ev_W := ev_wm (a := 3) (i := 11) (r := ev_g3) rfl rfl
theorem ev_v96 : (Cond.instantiable RX9 11) ∈ ev_W := ev_wm (a := 3) (i := 12) (r := ev_g3) rfl rfl
theorem ev_v97 : (Cond.initialized RX9) ∈ ev_W := ev_wm (a := 1) (i := 25) (r := ev_g1) rfl rfl
theorem ev_v98 : (Cond.code yX9_init cX9_init 2 none) ∈ ev_W := ev_wm (a := 3) (i := 13) (r := ev_g3) rfl rfl
theorem ev_v99 : (Cond.instanceMethod yX9_init) ∈ ev_W := ev_wm (a := 3) (i := 14) (r := ev_g3) rfl rfl
theorem ev_v100 : (Cond.fieldLink RX0 66 "TextShell$Expander" "sum" "LTextShell$Sum;") ∈ ev_W := ev_wm (a := 4) (i := 36) (r := ev_g4) rfl rfl
theorem ev_v101 : (Cond.methodLink RX1 3 objectInit) ∈ ev_W := ev_wm (a := 5) (i := 2) (r := ev_g5) rfl rfl
theorem ev_v102 : (Cond.fieldLink RX1 28 "TextShell$Frame" "flags" "I") ∈ ev_W := ev_wm (a := 5) (i := 3) (r := ev_g5) rfl rfl
theorem ev_v103 : (Cond.fieldLink RX1 9 "TextShell$Frame" "kind" "I") ∈ ev_W := ev_wm (a := 5) (i := 4) (r := ev_g5) rfl rfl
theorem ev_v104 : (Cond.fieldLink RX1 15 "TextShell$Frame" "state" "I") ∈ ev_W := ev_wm (a := 5) (i := 5) (r := ev_g5) rfl rfl
theorem ev_v105 : (Cond.fieldLink RX1 18 "TextShell$Frame" "script" "LTextShell$Frame;") ∈ ev_W := ev_wm (a := 5) (i := 6) (r := ev_g5) rfl rfl
theorem ev_v106 : (Cond.fieldLink RX1 22 "TextShell$Frame" "section" "I") ∈ ev_W := ev_wm (a := 5) (i := 7) (r := ev_g5) rfl rfl
theorem ev_v107 : (Cond.fieldLink RX1 25 "TextShell$Frame" "line" "I") ∈ ev_W := ev_wm (a := 5) (i := 8) (r := ev_g5) rfl rfl
theorem ev_v108 : (Cond.fieldLink RX1 31 "TextShell$Frame" "source" "LTextShell$Stream;") ∈ ev_W := ev_wm (a := 5) (i := 9) (r := ev_g5) rfl rfl
theorem ev_v109 : (Cond.fieldLink RX1 35 "TextShell$Frame" "command" "LTextShell$Tree;") ∈ ev_W := ev_wm (a := 5) (i := 10) (r := ev_g5) rfl rfl
theorem ev_v110 : (Cond.fieldLink RX1 39 "TextShell$Frame" "clause" "LTextShell$Tree;") ∈ ev_W := ev_wm (a := 5) (i := 11) (r := ev_g5) rfl rfl
theorem ev_v111 : (Cond.fieldLink RX1 42 "TextShell$Frame" "first" "LTextShell$Tree;") ∈ ev_W := ev_wm (a := 5) (i := 12) (r := ev_g5) rfl rfl
theorem ev_v112 : (Cond.fieldLink RX1 45 "TextShell$Frame" "last" "LTextShell$Tree;") ∈ ev_W := ev_wm (a := 5) (i := 13) (r := ev_g5) rfl rfl
theorem ev_v113 : (Cond.fieldLink RX1 48 "TextShell$Frame" "start" "LTextShell$Tree;") ∈ ev_W := ev_wm (a := 5) (i := 14) (r := ev_g5) rfl rfl
theorem ev_v114 : (Cond.fieldLink RX1 51 "TextShell$Frame" "tail" "LTextShell$Tree;") ∈ ev_W := ev_wm (a := 5) (i := 15) (r := ev_g5) rfl rfl
theorem ev_v115 : (Cond.fieldLink RX1 54 "TextShell$Frame" "waiting" "LTextShell$Tree;") ∈ ev_W := ev_wm (a := 5) (i := 16) (r := ev_g5) rfl rfl
theorem ev_v116 : (Cond.fieldLink RX1 57 "TextShell$Frame" "number" "I") ∈ ev_W := ev_wm (a := 5) (i := 17) (r := ev_g5) rfl rfl
theorem ev_v117 : (Cond.fieldLink RX1 60 "TextShell$Frame" "operator" "I") ∈ ev_W := ev_wm (a := 5) (i := 18) (r := ev_g5) rfl rfl
theorem ev_v118 : (Cond.fieldLink RX1 63 "TextShell$Frame" "back" "I") ∈ ev_W := ev_wm (a := 5) (i := 19) (r := ev_g5) rfl rfl
theorem ev_v119 : (Cond.fieldLink RX1 66 "TextShell$Frame" "from" "I") ∈ ev_W := ev_wm (a := 5) (i := 20) (r := ev_g5) rfl rfl
theorem ev_v120 : (Cond.fieldLink RX1 69 "TextShell$Frame" "mark" "I") ∈ ev_W := ev_wm (a := 5) (i := 21) (r := ev_g5) rfl rfl
theorem ev_v121 : (Cond.methodLink RX2 3 objectInit) ∈ ev_W := ev_wm (a := 1) (i := 26) (r := ev_g1) rfl rfl
theorem ev_v122 : (Cond.classLink RX2 11 RX3) ∈ ev_W := ev_wm (a := 1) (i := 27) (r := ev_g1) rfl rfl
theorem ev_v123 : (Cond.fieldLink RX2 13 "TextShell$Memory" "buckets" "[LTextShell$Name;") ∈ ev_W := ev_wm (a := 2) (i := 4) (r := ev_g2) rfl rfl
theorem ev_v124 : (Cond.fieldLink RX2 17 "TextShell$Memory" "names" "[LTextShell$Name;") ∈ ev_W := ev_wm (a := 2) (i := 5) (r := ev_g2) rfl rfl
theorem ev_v125 : (Cond.fieldLink RX2 20 "TextShell$Memory" "log" "[LTextShell$Name;") ∈ ev_W := ev_wm (a := 2) (i := 6) (r := ev_g2) rfl rfl
theorem ev_v126 : (Cond.fieldLink RX2 23 "TextShell$Memory" "saves" "[I") ∈ ev_W := ev_wm (a := 2) (i := 7) (r := ev_g2) rfl rfl
theorem ev_v127 : (Cond.classLink RX2 27 RX4) ∈ ev_W := ev_wm (a := 1) (i := 28) (r := ev_g1) rfl rfl
theorem ev_v128 : (Cond.fieldLink RX2 29 "TextShell$Memory" "places" "[LTextShell$Node;") ∈ ev_W := ev_wm (a := 2) (i := 8) (r := ev_g2) rfl rfl
theorem ev_v129 : (Cond.classLink RX2 33 RX6) ∈ ev_W := ev_wm (a := 1) (i := 29) (r := ev_g1) rfl rfl
theorem ev_v130 : (Cond.fieldLink RX2 35 "TextShell$Memory" "pool" "[LTextShell$Row;") ∈ ev_W := ev_wm (a := 2) (i := 9) (r := ev_g2) rfl rfl
theorem ev_v131 : (Cond.instantiable RX4 12) ∈ ev_W := ev_wm (a := 1) (i := 30) (r := ev_g1) rfl rfl
theorem ev_v132 : (Cond.initialized RX4) ∈ ev_W := ev_wm (a := 1) (i := 31) (r := ev_g1) rfl rfl
theorem ev_v133 : (Cond.code yX4_init cX4_init 4 none) ∈ ev_W := ev_wm (a := 1) (i := 32) (r := ev_g1) rfl rfl
theorem ev_v134 : (Cond.instanceMethod yX4_init) ∈ ev_W := ev_wm (a := 1) (i := 33) (r := ev_g1) rfl rfl
theorem ev_v135 : (Cond.fieldLink RX2 45 "TextShell$Memory" "root" "LTextShell$Node;") ∈ ev_W := ev_wm (a := 2) (i := 10) (r := ev_g2) rfl rfl
theorem ev_v136 : (Cond.fieldLink RX2 49 "TextShell$Memory" "here" "LTextShell$Node;") ∈ ev_W := ev_wm (a := 2) (i := 11) (r := ev_g2) rfl rfl
theorem ev_v137 : (Cond.fieldLink RX2 52 "TextShell$Memory" "nothing" "LTextShell$Row;") ∈ ev_W := ev_wm (a := 2) (i := 12) (r := ev_g2) rfl rfl
theorem ev_v138 : (Cond.code yX2_row cX2_row 2 (some (.object "TextShell$Row"))) ∈ ev_W := ev_wm (a := 1) (i := 34) (r := ev_g1) rfl rfl
theorem ev_v139 : (Cond.methodLink RX2 58 yX2_row) ∈ ev_W := ev_wm (a := 1) (i := 35) (r := ev_g1) rfl rfl
theorem ev_v140 : (Cond.static yX2_row) ∈ ev_W := ev_wm (a := 1) (i := 36) (r := ev_g1) rfl rfl
theorem ev_v141 : (Cond.methodLink RX2 62 yX2_name) ∈ ev_W := ev_wm (a := 1) (i := 37) (r := ev_g1) rfl rfl
theorem ev_v142 : (Cond.fieldLink RX2 66 "TextShell$Memory" "separators" "LTextShell$Name;") ∈ ev_W := ev_wm (a := 2) (i := 13) (r := ev_g2) rfl rfl
theorem ev_v143 : (Cond.fieldLink RX2 72 "TextShell$Memory" "home" "LTextShell$Name;") ∈ ev_W := ev_wm (a := 2) (i := 14) (r := ev_g2) rfl rfl
theorem ev_v144 : (Cond.code yX2_tellReserved cX2_tellReserved 1 none) ∈ ev_W := ev_wm (a := 2) (i := 15) (r := ev_g2) rfl rfl
theorem ev_v145 : (Cond.methodLink RX2 75 yX2_tellReserved) ∈ ev_W := ev_wm (a := 2) (i := 16) (r := ev_g2) rfl rfl
theorem ev_v146 : (Cond.instanceMethod yX2_tellReserved) ∈ ev_W := ev_wm (a := 2) (i := 17) (r := ev_g2) rfl rfl
theorem ev_v147 : (Cond.selects RX2 yX2_tellReserved yX2_tellReserved) ∈ ev_W := ev_wm (a := 0) (i := 10) (r := ev_g0) rfl rfl
theorem ev_v148 : (Cond.code yX2_tellCommands cX2_tellCommands 1 none) ∈ ev_W := ev_wm (a := 2) (i := 18) (r := ev_g2) rfl rfl
theorem ev_v149 : (Cond.methodLink RX2 78 yX2_tellCommands) ∈ ev_W := ev_wm (a := 2) (i := 19) (r := ev_g2) rfl rfl
theorem ev_v150 : (Cond.instanceMethod yX2_tellCommands) ∈ ev_W := ev_wm (a := 2) (i := 20) (r := ev_g2) rfl rfl
theorem ev_v151 : (Cond.selects RX2 yX2_tellCommands yX2_tellCommands) ∈ ev_W := ev_wm (a := 0) (i := 11) (r := ev_g0) rfl rfl
theorem ev_v152 : (Cond.fieldLink RX2 220 "TextShell$Memory" "bucket" "I") ∈ ev_W := ev_wm (a := 2) (i := 21) (r := ev_g2) rfl rfl
theorem ev_v153 : (Cond.code yX6_same cX6_same 3 (some .boolean)) ∈ ev_W := ev_wm (a := 1) (i := 38) (r := ev_g1) rfl rfl
theorem ev_v154 : (Cond.instanceMethod yX6_same) ∈ ev_W := ev_wm (a := 1) (i := 39) (r := ev_g1) rfl rfl
theorem ev_v155 : (Cond.selects RX6 yX6_same yX6_same) ∈ ev_W := ev_wm (a := 0) (i := 12) (r := ev_g0) rfl rfl
theorem ev_v156 : (Cond.code yX2_find cX2_find 4 (some (.object "TextShell$Name"))) ∈ ev_W := ev_wm (a := 1) (i := 40) (r := ev_g1) rfl rfl
theorem ev_v157 : (Cond.methodLink RX2 233 yX2_find) ∈ ev_W := ev_wm (a := 1) (i := 41) (r := ev_g1) rfl rfl
theorem ev_v158 : (Cond.instanceMethod yX2_find) ∈ ev_W := ev_wm (a := 1) (i := 42) (r := ev_g1) rfl rfl
theorem ev_v159 : (Cond.selects RX2 yX2_find yX2_find) ∈ ev_W := ev_wm (a := 0) (i := 13) (r := ev_g0) rfl rfl
theorem ev_v160 : (Cond.fieldLink RX2 236 "TextShell$Memory" "size" "I") ∈ ev_W := ev_wm (a := 2) (i := 22) (r := ev_g2) rfl rfl
theorem ev_v161 : (Cond.instantiable RX3 10) ∈ ev_W := ev_wm (a := 1) (i := 43) (r := ev_g1) rfl rfl
theorem ev_v162 : (Cond.initialized RX3) ∈ ev_W := ev_wm (a := 1) (i := 44) (r := ev_g1) rfl rfl
theorem ev_v163 : (Cond.code yX3_init cX3_init 3 none) ∈ ev_W := ev_wm (a := 2) (i := 23) (r := ev_g2) rfl rfl
theorem ev_v164 : (Cond.instanceMethod yX3_init) ∈ ev_W := ev_wm (a := 2) (i := 24) (r := ev_g2) rfl rfl
theorem ev_v165 : (Cond.code yJ0_length_8abf5 cJ0_length_8abf5 1 (some .int)) ∈ ev_W := ev_wm (a := 1) (i := 45) (r := ev_g1) rfl rfl
theorem ev_v166 : (Cond.initialized RJ0) ∈ ev_W := ev_wm (a := 1) (i := 46) (r := ev_g1) rfl rfl
theorem ev_v167 : (Cond.methodLink RX2 81 yJ0_length_8abf5) ∈ ev_W := ev_wm (a := 1) (i := 47) (r := ev_g1) rfl rfl
theorem ev_v168 : (Cond.instanceMethod yJ0_length_8abf5) ∈ ev_W := ev_wm (a := 1) (i := 48) (r := ev_g1) rfl rfl
theorem ev_v169 : (Cond.selects RJ0 yJ0_length_8abf5 yJ0_length_8abf5) ∈ ev_W := ev_wm (a := 1) (i := 49) (r := ev_g1) rfl rfl
theorem ev_v170 : (Cond.code yX6_addText cX6_addText 3 none) ∈ ev_W := ev_wm (a := 1) (i := 50) (r := ev_g1) rfl rfl
theorem ev_v171 : (Cond.instanceMethod yX6_addText) ∈ ev_W := ev_wm (a := 1) (i := 51) (r := ev_g1) rfl rfl
theorem ev_v172 : (Cond.selects RX6 yX6_addText yX6_addText) ∈ ev_W := ev_wm (a := 0) (i := 14) (r := ev_g0) rfl rfl
theorem ev_v173 : (Cond.code yX2_command cX2_command 3 none) ∈ ev_W := ev_wm (a := 2) (i := 25) (r := ev_g2) rfl rfl
theorem ev_v174 : (Cond.methodLink RX2 136 yX2_command) ∈ ev_W := ev_wm (a := 2) (i := 26) (r := ev_g2) rfl rfl
theorem ev_v175 : (Cond.instanceMethod yX2_command) ∈ ev_W := ev_wm (a := 2) (i := 27) (r := ev_g2) rfl rfl
theorem ev_v176 : (Cond.selects RX2 yX2_command yX2_command) ∈ ev_W := ev_wm (a := 0) (i := 15) (r := ev_g0) rfl rfl
theorem ev_v177 : (Cond.code yX2_reserve cX2_reserve 3 none) ∈ ev_W := ev_wm (a := 2) (i := 28) (r := ev_g2) rfl rfl
theorem ev_v178 : (Cond.methodLink RX2 97 yX2_reserve) ∈ ev_W := ev_wm (a := 2) (i := 29) (r := ev_g2) rfl rfl
theorem ev_v179 : (Cond.instanceMethod yX2_reserve) ∈ ev_W := ev_wm (a := 2) (i := 30) (r := ev_g2) rfl rfl
theorem ev_v180 : (Cond.selects RX2 yX2_reserve yX2_reserve) ∈ ev_W := ev_wm (a := 0) (i := 16) (r := ev_g0) rfl rfl
theorem ev_v181 : (Cond.methodLink RX3 1 objectInit) ∈ ev_W := ev_wm (a := 2) (i := 31) (r := ev_g2) rfl rfl
theorem ev_v182 : (Cond.fieldLink RX3 7 "TextShell$Name" "text" "LTextShell$Row;") ∈ ev_W := ev_wm (a := 2) (i := 32) (r := ev_g2) rfl rfl
theorem ev_v183 : (Cond.fieldLink RX3 13 "TextShell$Name" "index" "I") ∈ ev_W := ev_wm (a := 2) (i := 33) (r := ev_g2) rfl rfl
theorem ev_v184 : (Cond.methodLink RX4 3 objectInit) ∈ ev_W := ev_wm (a := 1) (i := 52) (r := ev_g1) rfl rfl
theorem ev_v185 : (Cond.fieldLink RX4 9 "TextShell$Node" "directories" "I") ∈ ev_W := ev_wm (a := 1) (i := 53) (r := ev_g1) rfl rfl
theorem ev_v186 : (Cond.fieldLink RX4 15 "TextShell$Node" "name" "LTextShell$Row;") ∈ ev_W := ev_wm (a := 1) (i := 54) (r := ev_g1) rfl rfl
theorem ev_v187 : (Cond.fieldLink RX4 19 "TextShell$Node" "parent" "LTextShell$Node;") ∈ ev_W := ev_wm (a := 1) (i := 55) (r := ev_g1) rfl rfl
theorem ev_v188 : (Cond.fieldLink RX4 23 "TextShell$Node" "root" "LTextShell$Node;") ∈ ev_W := ev_wm (a := 1) (i := 56) (r := ev_g1) rfl rfl
theorem ev_v189 : (Cond.fieldLink RX4 31 "TextShell$Node" "data" "LTextShell$Row;") ∈ ev_W := ev_wm (a := 1) (i := 57) (r := ev_g1) rfl rfl
theorem ev_v190 : (Cond.methodLink RX5 3 objectInit) ∈ ev_W := ev_wm (a := 2) (i := 34) (r := ev_g2) rfl rfl
theorem ev_v191 : (Cond.classLink RX5 9 RX1) ∈ ev_W := ev_wm (a := 2) (i := 35) (r := ev_g2) rfl rfl
theorem ev_v192 : (Cond.fieldLink RX5 11 "TextShell$Reader" "frames" "[LTextShell$Frame;") ∈ ev_W := ev_wm (a := 2) (i := 36) (r := ev_g2) rfl rfl
theorem ev_v193 : (Cond.fieldLink RX5 17 "TextShell$Reader" "code" "[I") ∈ ev_W := ev_wm (a := 2) (i := 37) (r := ev_g2) rfl rfl
theorem ev_v194 : (Cond.classLink RX5 21 RX11) ∈ ev_W := ev_wm (a := 2) (i := 38) (r := ev_g2) rfl rfl
theorem ev_v195 : (Cond.fieldLink RX5 23 "TextShell$Reader" "scripts" "[LTextShell$Tree;") ∈ ev_W := ev_wm (a := 2) (i := 39) (r := ev_g2) rfl rfl
theorem ev_v196 : (Cond.classLink RX5 27 RX6) ∈ ev_W := ev_wm (a := 2) (i := 40) (r := ev_g2) rfl rfl
theorem ev_v197 : (Cond.fieldLink RX5 32 "TextShell$Reader" "spelled" "LTextShell$Row;") ∈ ev_W := ev_wm (a := 2) (i := 41) (r := ev_g2) rfl rfl
theorem ev_v198 : (Cond.fieldLink RX5 36 "TextShell$Reader" "memory" "LTextShell$Memory;") ∈ ev_W := ev_wm (a := 2) (i := 42) (r := ev_g2) rfl rfl
theorem ev_v199 : (Cond.code yX5_atBegin cX5_atBegin 2 none) ∈ ev_W := ev_wm (a := 5) (i := 22) (r := ev_g5) rfl rfl
theorem ev_v200 : (Cond.methodLink RX5 289 yX5_atBegin) ∈ ev_W := ev_wm (a := 5) (i := 23) (r := ev_g5) rfl rfl
theorem ev_v201 : (Cond.instanceMethod yX5_atBegin) ∈ ev_W := ev_wm (a := 5) (i := 24) (r := ev_g5) rfl rfl
theorem ev_v202 : (Cond.selects RX5 yX5_atBegin yX5_atBegin) ∈ ev_W := ev_wm (a := 0) (i := 17) (r := ev_g0) rfl rfl
theorem ev_v203 : (Cond.fieldLink RX5 114 "TextShell$Reader" "token" "I") ∈ ev_W := ev_wm (a := 3) (i := 15) (r := ev_g3) rfl rfl
theorem ev_v204 : (Cond.fieldLink RX5 193 "TextShell$Reader" "reserved" "I") ∈ ev_W := ev_wm (a := 3) (i := 16) (r := ev_g3) rfl rfl
theorem ev_v205 : (Cond.code yX5_replaced cX5_replaced 5 (some .boolean)) ∈ ev_W := ev_wm (a := 6) (i := 0) (r := ev_g6) rfl rfl
theorem ev_v206 : (Cond.methodLink RX5 279 yX5_replaced) ∈ ev_W := ev_wm (a := 6) (i := 1) (r := ev_g6) rfl rfl
theorem ev_v207 : (Cond.instanceMethod yX5_replaced) ∈ ev_W := ev_wm (a := 6) (i := 2) (r := ev_g6) rfl rfl
theorem ev_v208 : (Cond.selects RX5 yX5_replaced yX5_replaced) ∈ ev_W := ev_wm (a := 0) (i := 18) (r := ev_g0) rfl rfl
theorem ev_v209 : (Cond.code yX5_isRedirection cX5_isRedirection 1 (some .boolean)) ∈ ev_W := ev_wm (a := 6) (i := 3) (r := ev_g6) rfl rfl
theorem ev_v210 : (Cond.methodLink RX5 323 yX5_isRedirection) ∈ ev_W := ev_wm (a := 6) (i := 4) (r := ev_g6) rfl rfl
theorem ev_v211 : (Cond.static yX5_isRedirection) ∈ ev_W := ev_wm (a := 6) (i := 5) (r := ev_g6) rfl rfl
theorem ev_v212 : (Cond.code yX1_has cX1_has 2 (some .boolean)) ∈ ev_W := ev_wm (a := 6) (i := 6) (r := ev_g6) rfl rfl
theorem ev_v213 : (Cond.initialized RX1) ∈ ev_W := ev_wm (a := 1) (i := 58) (r := ev_g1) rfl rfl
theorem ev_v214 : (Cond.instanceMethod yX1_has) ∈ ev_W := ev_wm (a := 6) (i := 7) (r := ev_g6) rfl rfl
theorem ev_v215 : (Cond.selects RX1 yX1_has yX1_has) ∈ ev_W := ev_wm (a := 0) (i := 19) (r := ev_g0) rfl rfl
theorem ev_v216 : (Cond.code yX5_newline cX5_newline 3 none) ∈ ev_W := ev_wm (a := 6) (i := 8) (r := ev_g6) rfl rfl
theorem ev_v217 : (Cond.methodLink RX5 329 yX5_newline) ∈ ev_W := ev_wm (a := 6) (i := 9) (r := ev_g6) rfl rfl
theorem ev_v218 : (Cond.instanceMethod yX5_newline) ∈ ev_W := ev_wm (a := 6) (i := 10) (r := ev_g6) rfl rfl
theorem ev_v219 : (Cond.selects RX5 yX5_newline yX5_newline) ∈ ev_W := ev_wm (a := 0) (i := 20) (r := ev_g0) rfl rfl
theorem ev_v220 : (Cond.code yX5_closeByToken cX5_closeByToken 3 none) ∈ ev_W := ev_wm (a := 6) (i := 11) (r := ev_g6) rfl rfl
theorem ev_v221 : (Cond.methodLink RX5 335 yX5_closeByToken) ∈ ev_W := ev_wm (a := 6) (i := 12) (r := ev_g6) rfl rfl
theorem ev_v222 : (Cond.instanceMethod yX5_closeByToken) ∈ ev_W := ev_wm (a := 6) (i := 13) (r := ev_g6) rfl rfl
theorem ev_v223 : (Cond.selects RX5 yX5_closeByToken yX5_closeByToken) ∈ ev_W := ev_wm (a := 0) (i := 21) (r := ev_g0) rfl rfl
theorem ev_v224 : (Cond.code yX5_look cX5_look 3 (some .int)) ∈ ev_W := ev_wm (a := 6) (i := 14) (r := ev_g6) rfl rfl
theorem ev_v225 : (Cond.methodLink RX5 196 yX5_look) ∈ ev_W := ev_wm (a := 6) (i := 15) (r := ev_g6) rfl rfl
theorem ev_v226 : (Cond.instanceMethod yX5_look) ∈ ev_W := ev_wm (a := 6) (i := 16) (r := ev_g6) rfl rfl
theorem ev_v227 : (Cond.selects RX5 yX5_look yX5_look) ∈ ev_W := ev_wm (a := 0) (i := 22) (r := ev_g0) rfl rfl
theorem ev_v228 : (Cond.code yX5_endsWord cX5_endsWord 1 (some .boolean)) ∈ ev_W := ev_wm (a := 7) (i := 0) (r := ev_g7) rfl rfl
theorem ev_v229 : (Cond.methodLink RX5 200 yX5_endsWord) ∈ ev_W := ev_wm (a := 7) (i := 1) (r := ev_g7) rfl rfl
theorem ev_v230 : (Cond.static yX5_endsWord) ∈ ev_W := ev_wm (a := 7) (i := 2) (r := ev_g7) rfl rfl
theorem ev_v231 : (Cond.code yX5_endWord cX5_endWord 5 none) ∈ ev_W := ev_wm (a := 7) (i := 3) (r := ev_g7) rfl rfl
theorem ev_v232 : (Cond.methodLink RX5 506 yX5_endWord) ∈ ev_W := ev_wm (a := 7) (i := 4) (r := ev_g7) rfl rfl
theorem ev_v233 : (Cond.instanceMethod yX5_endWord) ∈ ev_W := ev_wm (a := 7) (i := 5) (r := ev_g7) rfl rfl
theorem ev_v234 : (Cond.selects RX5 yX5_endWord yX5_endWord) ∈ ev_W := ev_wm (a := 0) (i := 23) (r := ev_g0) rfl rfl
theorem ev_v235 : (Cond.code yX5_pass cX5_pass 2 none) ∈ ev_W := ev_wm (a := 6) (i := 17) (r := ev_g6) rfl rfl
theorem ev_v236 : (Cond.methodLink RX5 168 yX5_pass) ∈ ev_W := ev_wm (a := 6) (i := 18) (r := ev_g6) rfl rfl
theorem ev_v237 : (Cond.instanceMethod yX5_pass) ∈ ev_W := ev_wm (a := 6) (i := 19) (r := ev_g6) rfl rfl
theorem ev_v238 : (Cond.selects RX5 yX5_pass yX5_pass) ∈ ev_W := ev_wm (a := 0) (i := 24) (r := ev_g0) rfl rfl
theorem ev_v239 : (Cond.code yX5_emit cX5_emit 3 none) ∈ ev_W := ev_wm (a := 6) (i := 20) (r := ev_g6) rfl rfl
theorem ev_v240 : (Cond.methodLink RX5 466 yX5_emit) ∈ ev_W := ev_wm (a := 6) (i := 21) (r := ev_g6) rfl rfl
theorem ev_v241 : (Cond.instanceMethod yX5_emit) ∈ ev_W := ev_wm (a := 6) (i := 22) (r := ev_g6) rfl rfl
theorem ev_v242 : (Cond.selects RX5 yX5_emit yX5_emit) ∈ ev_W := ev_wm (a := 0) (i := 25) (r := ev_g0) rfl rfl
theorem ev_v243 : (Cond.fieldLink RX5 133 "TextShell$Reader" "source" "I") ∈ ev_W := ev_wm (a := 3) (i := 17) (r := ev_g3) rfl rfl
theorem ev_v244 : (Cond.constant RX5 136 (40000)) ∈ ev_W := ev_wm (a := 5) (i := 25) (r := ev_g5) rfl rfl
theorem ev_v245 : (Cond.code yX5_endText cX5_endText 5 none) ∈ ev_W := ev_wm (a := 6) (i := 23) (r := ev_g6) rfl rfl
theorem ev_v246 : (Cond.methodLink RX5 452 yX5_endText) ∈ ev_W := ev_wm (a := 6) (i := 24) (r := ev_g6) rfl rfl
theorem ev_v247 : (Cond.instanceMethod yX5_endText) ∈ ev_W := ev_wm (a := 6) (i := 25) (r := ev_g6) rfl rfl
theorem ev_v248 : (Cond.selects RX5 yX5_endText yX5_endText) ∈ ev_W := ev_wm (a := 0) (i := 26) (r := ev_g0) rfl rfl
theorem ev_v249 : (Cond.fieldLink RX5 50 "TextShell$Reader" "codes" "I") ∈ ev_W := ev_wm (a := 2) (i := 43) (r := ev_g2) rfl rfl
theorem ev_v250 : (Cond.methodLink RX5 180 yJ9_max_7cf53) ∈ ev_W := ev_wm (a := 7) (i := 6) (r := ev_g7) rfl rfl
theorem ev_v251 : (Cond.static yJ9_max_7cf53) ∈ ev_W := ev_wm (a := 7) (i := 7) (r := ev_g7) rfl rfl
theorem ev_v252 : (Cond.initialized RJ9) ∈ ev_W := ev_wm (a := 1) (i := 59) (r := ev_g1) rfl rfl
theorem ev_v253 : (Cond.code yJ9_max_7cf53 cJ9_max_7cf53 2 (some .int)) ∈ ev_W := ev_wm (a := 7) (i := 8) (r := ev_g7) rfl rfl
theorem ev_v254 : (Cond.instantiable RX11 15) ∈ ev_W := ev_wm (a := 5) (i := 26) (r := ev_g5) rfl rfl
theorem ev_v255 : (Cond.initialized RX11) ∈ ev_W := ev_wm (a := 1) (i := 60) (r := ev_g1) rfl rfl
theorem ev_v256 : (Cond.code yX11_init cX11_init 2 none) ∈ ev_W := ev_wm (a := 5) (i := 27) (r := ev_g5) rfl rfl
theorem ev_v257 : (Cond.instanceMethod yX11_init) ∈ ev_W := ev_wm (a := 5) (i := 28) (r := ev_g5) rfl rfl
theorem ev_v258 : (Cond.fieldLink RX5 47 "TextShell$Reader" "depth" "I") ∈ ev_W := ev_wm (a := 2) (i := 44) (r := ev_g2) rfl rfl
theorem ev_v259 : (Cond.fieldLink RX5 62 "TextShell$Reader" "script" "LTextShell$Tree;") ∈ ev_W := ev_wm (a := 3) (i := 18) (r := ev_g3) rfl rfl
theorem ev_v260 : (Cond.code yX5_cutCode cX5_cutCode 4 (some (.array .int))) ∈ ev_W := ev_wm (a := 7) (i := 9) (r := ev_g7) rfl rfl
theorem ev_v261 : (Cond.methodLink RX5 230 yX5_cutCode) ∈ ev_W := ev_wm (a := 7) (i := 10) (r := ev_g7) rfl rfl
theorem ev_v262 : (Cond.instanceMethod yX5_cutCode) ∈ ev_W := ev_wm (a := 7) (i := 11) (r := ev_g7) rfl rfl
theorem ev_v263 : (Cond.selects RX5 yX5_cutCode yX5_cutCode) ∈ ev_W := ev_wm (a := 0) (i := 27) (r := ev_g0) rfl rfl
theorem ev_v264 : (Cond.fieldLink RX5 56 "TextShell$Reader" "inner" "I") ∈ ev_W := ev_wm (a := 2) (i := 45) (r := ev_g2) rfl rfl
theorem ev_v265 : (Cond.fieldLink RX5 117 "TextShell$Reader" "in" "LTextShell$Stream;") ∈ ev_W := ev_wm (a := 2) (i := 46) (r := ev_g2) rfl rfl
theorem ev_v266 : (Cond.code yX5_told cX5_told 9 (some (.object "TextShell$Row"))) ∈ ev_W := ev_wm (a := 7) (i := 12) (r := ev_g7) rfl rfl
theorem ev_v267 : (Cond.methodLink RX5 239 yX5_told) ∈ ev_W := ev_wm (a := 7) (i := 13) (r := ev_g7) rfl rfl
theorem ev_v268 : (Cond.instanceMethod yX5_told) ∈ ev_W := ev_wm (a := 7) (i := 14) (r := ev_g7) rfl rfl
theorem ev_v269 : (Cond.selects RX5 yX5_told yX5_told) ∈ ev_W := ev_wm (a := 0) (i := 28) (r := ev_g0) rfl rfl
theorem ev_v270 : (Cond.fieldLink RX5 250 "TextShell$Reader" "word" "LTextShell$Tree;") ∈ ev_W := ev_wm (a := 3) (i := 19) (r := ev_g3) rfl rfl
theorem ev_v271 : (Cond.fieldLink RX5 130 "TextShell$Reader" "tokenLine" "I") ∈ ev_W := ev_wm (a := 3) (i := 20) (r := ev_g3) rfl rfl
theorem ev_v272 : (Cond.fieldLink RX5 253 "TextShell$Reader" "tokenFollows" "Z") ∈ ev_W := ev_wm (a := 3) (i := 21) (r := ev_g3) rfl rfl
theorem ev_v273 : (Cond.code yX12_isDigit cX12_isDigit 1 (some .boolean)) ∈ ev_W := ev_wm (a := 6) (i := 26) (r := ev_g6) rfl rfl
theorem ev_v274 : (Cond.static yX12_isDigit) ∈ ev_W := ev_wm (a := 6) (i := 27) (r := ev_g6) rfl rfl
theorem ev_v275 : (Cond.code yX5_reservedAs cX5_reservedAs 3 (some .int)) ∈ ev_W := ev_wm (a := 7) (i := 15) (r := ev_g7) rfl rfl
theorem ev_v276 : (Cond.methodLink RX5 260 yX5_reservedAs) ∈ ev_W := ev_wm (a := 7) (i := 16) (r := ev_g7) rfl rfl
theorem ev_v277 : (Cond.instanceMethod yX5_reservedAs) ∈ ev_W := ev_wm (a := 7) (i := 17) (r := ev_g7) rfl rfl
theorem ev_v278 : (Cond.selects RX5 yX5_reservedAs yX5_reservedAs) ∈ ev_W := ev_wm (a := 0) (i := 29) (r := ev_g0) rfl rfl
theorem ev_v279 : (Cond.fieldLink RX5 77 "TextShell$Reader" "due" "I") ∈ ev_W := ev_wm (a := 3) (i := 22) (r := ev_g3) rfl rfl
theorem ev_v280 : (Cond.instantiable RX1 19) ∈ ev_W := ev_wm (a := 5) (i := 29) (r := ev_g5) rfl rfl
theorem ev_v281 : (Cond.code yX1_init cX1_init 1 none) ∈ ev_W := ev_wm (a := 5) (i := 30) (r := ev_g5) rfl rfl
theorem ev_v282 : (Cond.instanceMethod yX1_init) ∈ ev_W := ev_wm (a := 5) (i := 31) (r := ev_g5) rfl rfl
theorem ev_v283 : (Cond.code yX1_set cX1_set 4 none) ∈ ev_W := ev_wm (a := 5) (i := 32) (r := ev_g5) rfl rfl
theorem ev_v284 : (Cond.instanceMethod yX1_set) ∈ ev_W := ev_wm (a := 5) (i := 33) (r := ev_g5) rfl rfl
theorem ev_v285 : (Cond.selects RX1 yX1_set yX1_set) ∈ ev_W := ev_wm (a := 0) (i := 30) (r := ev_g0) rfl rfl
theorem ev_v286 : (Cond.code yX5_skipBlanks cX5_skipBlanks 6 (some .boolean)) ∈ ev_W := ev_wm (a := 7) (i := 18) (r := ev_g7) rfl rfl
theorem ev_v287 : (Cond.methodLink RX5 189 yX5_skipBlanks) ∈ ev_W := ev_wm (a := 7) (i := 19) (r := ev_g7) rfl rfl
theorem ev_v288 : (Cond.instanceMethod yX5_skipBlanks) ∈ ev_W := ev_wm (a := 7) (i := 20) (r := ev_g7) rfl rfl
theorem ev_v289 : (Cond.selects RX5 yX5_skipBlanks yX5_skipBlanks) ∈ ev_W := ev_wm (a := 0) (i := 31) (r := ev_g0) rfl rfl
theorem ev_v290 : (Cond.code yX5_operator cX5_operator 2 (some .int)) ∈ ev_W := ev_wm (a := 7) (i := 21) (r := ev_g7) rfl rfl
theorem ev_v291 : (Cond.methodLink RX5 203 yX5_operator) ∈ ev_W := ev_wm (a := 7) (i := 22) (r := ev_g7) rfl rfl
theorem ev_v292 : (Cond.instanceMethod yX5_operator) ∈ ev_W := ev_wm (a := 7) (i := 23) (r := ev_g7) rfl rfl
theorem ev_v293 : (Cond.selects RX5 yX5_operator yX5_operator) ∈ ev_W := ev_wm (a := 0) (i := 32) (r := ev_g0) rfl rfl
theorem ev_v294 : (Cond.code yX5_enter cX5_enter 6 (some (.object "TextShell$Frame"))) ∈ ev_W := ev_wm (a := 5) (i := 34) (r := ev_g5) rfl rfl
theorem ev_v295 : (Cond.methodLink RX5 157 yX5_enter) ∈ ev_W := ev_wm (a := 5) (i := 35) (r := ev_g5) rfl rfl
theorem ev_v296 : (Cond.instanceMethod yX5_enter) ∈ ev_W := ev_wm (a := 5) (i := 36) (r := ev_g5) rfl rfl
theorem ev_v297 : (Cond.selects RX5 yX5_enter yX5_enter) ∈ ev_W := ev_wm (a := 0) (i := 33) (r := ev_g0) rfl rfl
theorem ev_v298 : (Cond.code yX8_text cX8_text 5 (some (.object "TextShell$Stream"))) ∈ ev_W := ev_wm (a := 5) (i := 37) (r := ev_g5) rfl rfl
theorem ev_v299 : (Cond.initialized RX8) ∈ ev_W := ev_wm (a := 1) (i := 61) (r := ev_g1) rfl rfl
theorem ev_v300 : (Cond.static yX8_text) ∈ ev_W := ev_wm (a := 5) (i := 38) (r := ev_g5) rfl rfl
theorem ev_v301 : (Cond.fieldLink RX5 40 "TextShell$Reader" "fault" "I") ∈ ev_W := ev_wm (a := 2) (i := 47) (r := ev_g2) rfl rfl
theorem ev_v302 : (Cond.fieldLink RX5 44 "TextShell$Reader" "faultLine" "I") ∈ ev_W := ev_wm (a := 2) (i := 48) (r := ev_g2) rfl rfl
theorem ev_v303 : (Cond.fieldLink RX5 53 "TextShell$Reader" "nested" "I") ∈ ev_W := ev_wm (a := 2) (i := 49) (r := ev_g2) rfl rfl
theorem ev_v304 : (Cond.fieldLink RX5 59 "TextShell$Reader" "commands" "I") ∈ ev_W := ev_wm (a := 3) (i := 23) (r := ev_g3) rfl rfl
theorem ev_v305 : (Cond.code yX5_begins cX5_begins 2 (some .boolean)) ∈ ev_W := ev_wm (a := 5) (i := 39) (r := ev_g5) rfl rfl
theorem ev_v306 : (Cond.methodLink RX5 69 yX5_begins) ∈ ev_W := ev_wm (a := 5) (i := 40) (r := ev_g5) rfl rfl
theorem ev_v307 : (Cond.instanceMethod yX5_begins) ∈ ev_W := ev_wm (a := 5) (i := 41) (r := ev_g5) rfl rfl
theorem ev_v308 : (Cond.selects RX5 yX5_begins yX5_begins) ∈ ev_W := ev_wm (a := 0) (i := 34) (r := ev_g0) rfl rfl
theorem ev_v309 : (Cond.code yX5_openText cX5_openText 6 (some (.object "TextShell$Frame"))) ∈ ev_W := ev_wm (a := 5) (i := 42) (r := ev_g5) rfl rfl
theorem ev_v310 : (Cond.methodLink RX5 73 yX5_openText) ∈ ev_W := ev_wm (a := 5) (i := 43) (r := ev_g5) rfl rfl
theorem ev_v311 : (Cond.instanceMethod yX5_openText) ∈ ev_W := ev_wm (a := 5) (i := 44) (r := ev_g5) rfl rfl
theorem ev_v312 : (Cond.selects RX5 yX5_openText yX5_openText) ∈ ev_W := ev_wm (a := 0) (i := 35) (r := ev_g0) rfl rfl
theorem ev_v313 : (Cond.constant RX5 80 (10000000)) ∈ ev_W := ev_wm (a := 5) (i := 45) (r := ev_g5) rfl rfl
theorem ev_v314 : (Cond.code yX5_top cX5_top 1 (some (.object "TextShell$Frame"))) ∈ ev_W := ev_wm (a := 5) (i := 46) (r := ev_g5) rfl rfl
theorem ev_v315 : (Cond.methodLink RX5 81 yX5_top) ∈ ev_W := ev_wm (a := 5) (i := 47) (r := ev_g5) rfl rfl
theorem ev_v316 : (Cond.instanceMethod yX5_top) ∈ ev_W := ev_wm (a := 5) (i := 48) (r := ev_g5) rfl rfl
theorem ev_v317 : (Cond.selects RX5 yX5_top yX5_top) ∈ ev_W := ev_wm (a := 0) (i := 36) (r := ev_g0) rfl rfl
theorem ev_v318 : (Cond.code yX5_accept cX5_accept 2 none) ∈ ev_W := ev_wm (a := 5) (i := 49) (r := ev_g5) rfl rfl
theorem ev_v319 : (Cond.methodLink RX5 85 yX5_accept) ∈ ev_W := ev_wm (a := 5) (i := 50) (r := ev_g5) rfl rfl
theorem ev_v320 : (Cond.instanceMethod yX5_accept) ∈ ev_W := ev_wm (a := 5) (i := 51) (r := ev_g5) rfl rfl
theorem ev_v321 : (Cond.selects RX5 yX5_accept yX5_accept) ∈ ev_W := ev_wm (a := 0) (i := 37) (r := ev_g0) rfl rfl
theorem ev_v322 : (Cond.code yX5_nextToken cX5_nextToken 5 none) ∈ ev_W := ev_wm (a := 7) (i := 24) (r := ev_g7) rfl rfl
theorem ev_v323 : (Cond.methodLink RX5 99 yX5_nextToken) ∈ ev_W := ev_wm (a := 7) (i := 25) (r := ev_g7) rfl rfl
theorem ev_v324 : (Cond.instanceMethod yX5_nextToken) ∈ ev_W := ev_wm (a := 7) (i := 26) (r := ev_g7) rfl rfl
theorem ev_v325 : (Cond.selects RX5 yX5_nextToken yX5_nextToken) ∈ ev_W := ev_wm (a := 0) (i := 38) (r := ev_g0) rfl rfl
theorem ev_v326 : (Cond.code yX5_bareSign cX5_bareSign 3 none) ∈ ev_W := ev_wm (a := 7) (i := 27) (r := ev_g7) rfl rfl
theorem ev_v327 : (Cond.methodLink RX5 108 yX5_bareSign) ∈ ev_W := ev_wm (a := 7) (i := 28) (r := ev_g7) rfl rfl
theorem ev_v328 : (Cond.instanceMethod yX5_bareSign) ∈ ev_W := ev_wm (a := 7) (i := 29) (r := ev_g7) rfl rfl
theorem ev_v329 : (Cond.selects RX5 yX5_bareSign yX5_bareSign) ∈ ev_W := ev_wm (a := 0) (i := 39) (r := ev_g0) rfl rfl
theorem ev_v330 : (Cond.code yX5_isPlain cX5_isPlain 2 (some .boolean)) ∈ ev_W := ev_wm (a := 6) (i := 28) (r := ev_g6) rfl rfl
theorem ev_v331 : (Cond.methodLink RX5 235 yX5_isPlain) ∈ ev_W := ev_wm (a := 6) (i := 29) (r := ev_g6) rfl rfl
theorem ev_v332 : (Cond.static yX5_isPlain) ∈ ev_W := ev_wm (a := 6) (i := 30) (r := ev_g6) rfl rfl
theorem ev_v333 : (Cond.methodLink RX6 3 objectInit) ∈ ev_W := ev_wm (a := 1) (i := 62) (r := ev_g1) rfl rfl
theorem ev_v334 : (Cond.arrayClass .char) ∈ ev_W := ev_wm (a := 1) (i := 63) (r := ev_g1) rfl rfl
theorem ev_v335 : (Cond.fieldLink RX6 9 "TextShell$Row" "signs" "[C") ∈ ev_W := ev_wm (a := 1) (i := 64) (r := ev_g1) rfl rfl
theorem ev_v336 : (Cond.fieldLink RX6 15 "TextShell$Row" "length" "I") ∈ ev_W := ev_wm (a := 1) (i := 65) (r := ev_g1) rfl rfl
theorem ev_v337 : (Cond.methodLink RX6 19 ⟨"java/lang/System", "arraycopy", "(Ljava/lang/Object;ILjava/lang/Object;II)V"⟩) ∈ ev_W := ev_wm (a := 1) (i := 66) (r := ev_g1) rfl rfl
theorem ev_v338 : (Cond.native ⟨"java/lang/System", "arraycopy", "(Ljava/lang/Object;ILjava/lang/Object;II)V"⟩) ∈ ev_W := ev_wm (a := 1) (i := 67) (r := ev_g1) rfl rfl
theorem ev_v339 : (Cond.static ⟨"java/lang/System", "arraycopy", "(Ljava/lang/Object;ILjava/lang/Object;II)V"⟩) ∈ ev_W := ev_wm (a := 1) (i := 68) (r := ev_g1) rfl rfl
theorem ev_v340 : (Cond.initialized "java/lang/System") ∈ ev_W := ev_wm (a := 1) (i := 69) (r := ev_g1) rfl rfl
theorem ev_v341 : (Cond.methodLink RX6 33 yJ0_length_8abf5) ∈ ev_W := ev_wm (a := 1) (i := 70) (r := ev_g1) rfl rfl
theorem ev_v342 : (Cond.code yJ0_charAt_5068e cJ0_charAt_5068e 2 (some .char)) ∈ ev_W := ev_wm (a := 1) (i := 71) (r := ev_g1) rfl rfl
theorem ev_v343 : (Cond.methodLink RX6 38 yJ0_charAt_5068e) ∈ ev_W := ev_wm (a := 1) (i := 72) (r := ev_g1) rfl rfl
theorem ev_v344 : (Cond.instanceMethod yJ0_charAt_5068e) ∈ ev_W := ev_wm (a := 1) (i := 73) (r := ev_g1) rfl rfl
theorem ev_v345 : (Cond.selects RJ0 yJ0_charAt_5068e yJ0_charAt_5068e) ∈ ev_W := ev_wm (a := 1) (i := 74) (r := ev_g1) rfl rfl
theorem ev_v346 : (Cond.methodLink RX6 29 yX6_add) ∈ ev_W := ev_wm (a := 1) (i := 75) (r := ev_g1) rfl rfl
theorem ev_v347 : (Cond.code yX6_isText cX6_isText 2 (some .boolean)) ∈ ev_W := ev_wm (a := 10) (i := 2) (r := ev_g10) rfl rfl
theorem ev_v348 : (Cond.methodLink RX6 72 yX6_isText) ∈ ev_W := ev_wm (a := 11) (i := 2) (r := ev_g11) rfl rfl
theorem ev_v349 : (Cond.instanceMethod yX6_isText) ∈ ev_W := ev_wm (a := 10) (i := 3) (r := ev_g10) rfl rfl
theorem ev_v350 : (Cond.selects RX6 yX6_isText yX6_isText) ∈ ev_W := ev_wm (a := 0) (i := 40) (r := ev_g0) rfl rfl
theorem ev_v351 : (Cond.code yX6_place cX6_place 5 (some .int)) ∈ ev_W := ev_wm (a := 9) (i := 0) (r := ev_g9) rfl rfl
theorem ev_v352 : (Cond.methodLink RX6 76 yX6_place) ∈ ev_W := ev_wm (a := 11) (i := 3) (r := ev_g11) rfl rfl
theorem ev_v353 : (Cond.instanceMethod yX6_place) ∈ ev_W := ev_wm (a := 9) (i := 1) (r := ev_g9) rfl rfl
theorem ev_v354 : (Cond.selects RX6 yX6_place yX6_place) ∈ ev_W := ev_wm (a := 0) (i := 41) (r := ev_g0) rfl rfl
theorem ev_v355 : (Cond.code yX6_isNameUpTo cX6_isNameUpTo 3 (some .boolean)) ∈ ev_W := ev_wm (a := 6) (i := 31) (r := ev_g6) rfl rfl
theorem ev_v356 : (Cond.methodLink RX6 59 yX6_isNameUpTo) ∈ ev_W := ev_wm (a := 10) (i := 4) (r := ev_g10) rfl rfl
theorem ev_v357 : (Cond.instanceMethod yX6_isNameUpTo) ∈ ev_W := ev_wm (a := 6) (i := 32) (r := ev_g6) rfl rfl
theorem ev_v358 : (Cond.selects RX6 yX6_isNameUpTo yX6_isNameUpTo) ∈ ev_W := ev_wm (a := 0) (i := 42) (r := ev_g0) rfl rfl
theorem ev_v359 : (Cond.methodLink RX6 25 yX6_at) ∈ ev_W := ev_wm (a := 6) (i := 33) (r := ev_g6) rfl rfl
theorem ev_v360 : (Cond.code yX12_beginsName cX12_beginsName 1 (some .boolean)) ∈ ev_W := ev_wm (a := 6) (i := 34) (r := ev_g6) rfl rfl
theorem ev_v361 : (Cond.static yX12_beginsName) ∈ ev_W := ev_wm (a := 6) (i := 35) (r := ev_g6) rfl rfl
theorem ev_v362 : (Cond.classLink RX6 10 RX6) ∈ ev_W := ev_wm (a := 2) (i := 50) (r := ev_g2) rfl rfl
theorem ev_v363 : (Cond.methodLink RX6 48 yX6_init) ∈ ev_W := ev_wm (a := 2) (i := 51) (r := ev_g2) rfl rfl
theorem ev_v364 : (Cond.methodLink RX6 56 yJ9_max_7cf53) ∈ ev_W := ev_wm (a := 7) (i := 30) (r := ev_g7) rfl rfl
theorem ev_v365 : (Cond.methodLink RX7 3 objectInit) ∈ ev_W := ev_wm (a := 3) (i := 24) (r := ev_g3) rfl rfl
theorem ev_v366 : (Cond.classLink RX7 9 RX8) ∈ ev_W := ev_wm (a := 3) (i := 25) (r := ev_g3) rfl rfl
theorem ev_v367 : (Cond.fieldLink RX7 11 "TextShell$Shell" "base" "[LTextShell$Stream;") ∈ ev_W := ev_wm (a := 3) (i := 26) (r := ev_g3) rfl rfl
theorem ev_v368 : (Cond.fieldLink RX7 17 "TextShell$Shell" "open" "[LTextShell$Stream;") ∈ ev_W := ev_wm (a := 3) (i := 27) (r := ev_g3) rfl rfl
theorem ev_v369 : (Cond.instantiable RX8 9) ∈ ev_W := ev_wm (a := 3) (i := 28) (r := ev_g3) rfl rfl
theorem ev_v370 : (Cond.code yX8_init cX8_init 5 none) ∈ ev_W := ev_wm (a := 3) (i := 29) (r := ev_g3) rfl rfl
theorem ev_v371 : (Cond.instanceMethod yX8_init) ∈ ev_W := ev_wm (a := 3) (i := 30) (r := ev_g3) rfl rfl
theorem ev_v372 : (Cond.fieldLink RX7 23 "TextShell$Shell" "closed" "LTextShell$Stream;") ∈ ev_W := ev_wm (a := 3) (i := 31) (r := ev_g3) rfl rfl
theorem ev_v373 : (Cond.fieldLink RX7 27 "TextShell$Shell" "savedStreams" "[LTextShell$Stream;") ∈ ev_W := ev_wm (a := 3) (i := 32) (r := ev_g3) rfl rfl
theorem ev_v374 : (Cond.fieldLink RX7 30 "TextShell$Shell" "savedNumbers" "[I") ∈ ev_W := ev_wm (a := 3) (i := 33) (r := ev_g3) rfl rfl
theorem ev_v375 : (Cond.classLink RX7 34 RX3) ∈ ev_W := ev_wm (a := 3) (i := 34) (r := ev_g3) rfl rfl
theorem ev_v376 : (Cond.fieldLink RX7 36 "TextShell$Shell" "lentNames" "[LTextShell$Name;") ∈ ev_W := ev_wm (a := 3) (i := 35) (r := ev_g3) rfl rfl
theorem ev_v377 : (Cond.classLink RX7 40 RX6) ∈ ev_W := ev_wm (a := 3) (i := 36) (r := ev_g3) rfl rfl
theorem ev_v378 : (Cond.fieldLink RX7 42 "TextShell$Shell" "lentValues" "[LTextShell$Row;") ∈ ev_W := ev_wm (a := 3) (i := 37) (r := ev_g3) rfl rfl
theorem ev_v379 : (Cond.fieldLink RX7 46 "TextShell$Shell" "substituted" "I") ∈ ev_W := ev_wm (a := 3) (i := 38) (r := ev_g3) rfl rfl
theorem ev_v380 : (Cond.fieldLink RX7 50 "TextShell$Shell" "captures" "[LTextShell$Stream;") ∈ ev_W := ev_wm (a := 3) (i := 39) (r := ev_g3) rfl rfl
theorem ev_v381 : (Cond.fieldLink RX7 53 "TextShell$Shell" "memory" "LTextShell$Memory;") ∈ ev_W := ev_wm (a := 3) (i := 40) (r := ev_g3) rfl rfl
theorem ev_v382 : (Cond.fieldLink RX7 57 "TextShell$Shell" "reader" "LTextShell$Reader;") ∈ ev_W := ev_wm (a := 3) (i := 41) (r := ev_g3) rfl rfl
theorem ev_v383 : (Cond.constant RX7 64 (65536)) ∈ ev_W := ev_wm (a := 3) (i := 42) (r := ev_g3) rfl rfl
theorem ev_v384 : (Cond.methodLink RX8 3 objectInit) ∈ ev_W := ev_wm (a := 3) (i := 43) (r := ev_g3) rfl rfl
theorem ev_v385 : (Cond.fieldLink RX8 9 "TextShell$Stream" "data" "LTextShell$Row;") ∈ ev_W := ev_wm (a := 3) (i := 44) (r := ev_g3) rfl rfl
theorem ev_v386 : (Cond.fieldLink RX8 15 "TextShell$Stream" "file" "LTextShell$Node;") ∈ ev_W := ev_wm (a := 3) (i := 45) (r := ev_g3) rfl rfl
theorem ev_v387 : (Cond.fieldLink RX8 19 "TextShell$Stream" "reading" "Z") ∈ ev_W := ev_wm (a := 3) (i := 46) (r := ev_g3) rfl rfl
theorem ev_v388 : (Cond.fieldLink RX8 23 "TextShell$Stream" "most" "I") ∈ ev_W := ev_wm (a := 3) (i := 47) (r := ev_g3) rfl rfl
theorem ev_v389 : (Cond.classLink RX8 10 RX8) ∈ ev_W := ev_wm (a := 5) (i := 52) (r := ev_g5) rfl rfl
theorem ev_v390 : (Cond.methodLink RX8 27 yX8_init) ∈ ev_W := ev_wm (a := 5) (i := 53) (r := ev_g5) rfl rfl
theorem ev_v391 : (Cond.fieldLink RX8 30 "TextShell$Stream" "line" "I") ∈ ev_W := ev_wm (a := 3) (i := 48) (r := ev_g3) rfl rfl
theorem ev_v392 : (Cond.fieldLink RX8 33 "TextShell$Stream" "under" "LTextShell$Stream;") ∈ ev_W := ev_wm (a := 3) (i := 49) (r := ev_g3) rfl rfl
theorem ev_v393 : (Cond.fieldLink RX8 37 "TextShell$Stream" "alias" "LTextShell$Name;") ∈ ev_W := ev_wm (a := 3) (i := 50) (r := ev_g3) rfl rfl
theorem ev_v394 : (Cond.fieldLink RX8 41 "TextShell$Stream" "aliases" "I") ∈ ev_W := ev_wm (a := 3) (i := 51) (r := ev_g3) rfl rfl
theorem ev_v395 : (Cond.methodLink RX9 3 objectInit) ∈ ev_W := ev_wm (a := 3) (i := 52) (r := ev_g3) rfl rfl
theorem ev_v396 : (Cond.arrayClass .long) ∈ ev_W := ev_wm (a := 4) (i := 37) (r := ev_g4) rfl rfl
theorem ev_v397 : (Cond.fieldLink RX9 11 "TextShell$Sum" "numbers" "[J") ∈ ev_W := ev_wm (a := 3) (i := 53) (r := ev_g3) rfl rfl
theorem ev_v398 : (Cond.fieldLink RX9 15 "TextShell$Sum" "entries" "[I") ∈ ev_W := ev_wm (a := 3) (i := 54) (r := ev_g3) rfl rfl
theorem ev_v399 : (Cond.classLink RX9 19 RX6) ∈ ev_W := ev_wm (a := 3) (i := 55) (r := ev_g3) rfl rfl
theorem ev_v400 : (Cond.fieldLink RX9 24 "TextShell$Sum" "spelled" "LTextShell$Row;") ∈ ev_W := ev_wm (a := 3) (i := 56) (r := ev_g3) rfl rfl
theorem ev_v401 : (Cond.fieldLink RX9 28 "TextShell$Sum" "memory" "LTextShell$Memory;") ∈ ev_W := ev_wm (a := 3) (i := 57) (r := ev_g3) rfl rfl
theorem ev_v402 : (Cond.methodLink RX10 3 objectInit) ∈ ev_W := ev_wm (a := 4) (i := 38) (r := ev_g4) rfl rfl
theorem ev_v403 : (Cond.classLink RX10 9 RX6) ∈ ev_W := ev_wm (a := 4) (i := 39) (r := ev_g4) rfl rfl
theorem ev_v404 : (Cond.fieldLink RX10 14 "TextShell$Tools" "text" "LTextShell$Row;") ∈ ev_W := ev_wm (a := 4) (i := 40) (r := ev_g4) rfl rfl
theorem ev_v405 : (Cond.fieldLink RX10 20 "TextShell$Tools" "made" "LTextShell$Row;") ∈ ev_W := ev_wm (a := 4) (i := 41) (r := ev_g4) rfl rfl
theorem ev_v406 : (Cond.fieldLink RX10 23 "TextShell$Tools" "lines" "[I") ∈ ev_W := ev_wm (a := 4) (i := 42) (r := ev_g4) rfl rfl
theorem ev_v407 : (Cond.fieldLink RX10 27 "TextShell$Tools" "order" "[I") ∈ ev_W := ev_wm (a := 4) (i := 43) (r := ev_g4) rfl rfl
theorem ev_v408 : (Cond.fieldLink RX10 30 "TextShell$Tools" "spare" "[I") ∈ ev_W := ev_wm (a := 4) (i := 44) (r := ev_g4) rfl rfl
theorem ev_v409 : (Cond.fieldLink RX10 33 "TextShell$Tools" "from" "LTextShell$Row;") ∈ ev_W := ev_wm (a := 4) (i := 45) (r := ev_g4) rfl rfl
theorem ev_v410 : (Cond.fieldLink RX10 36 "TextShell$Tools" "table" "[I") ∈ ev_W := ev_wm (a := 4) (i := 46) (r := ev_g4) rfl rfl
theorem ev_v411 : (Cond.arrayClass .boolean) ∈ ev_W := ev_wm (a := 4) (i := 47) (r := ev_g4) rfl rfl
theorem ev_v412 : (Cond.fieldLink RX10 39 "TextShell$Tools" "known" "[Z") ∈ ev_W := ev_wm (a := 4) (i := 48) (r := ev_g4) rfl rfl
theorem ev_v413 : (Cond.fieldLink RX10 43 "TextShell$Tools" "walkA" "[I") ∈ ev_W := ev_wm (a := 4) (i := 49) (r := ev_g4) rfl rfl
theorem ev_v414 : (Cond.fieldLink RX10 46 "TextShell$Tools" "walkB" "[I") ∈ ev_W := ev_wm (a := 4) (i := 50) (r := ev_g4) rfl rfl
theorem ev_v415 : (Cond.fieldLink RX10 49 "TextShell$Tools" "memory" "LTextShell$Memory;") ∈ ev_W := ev_wm (a := 4) (i := 51) (r := ev_g4) rfl rfl
theorem ev_v416 : (Cond.fieldLink RX10 53 "TextShell$Tools" "shell" "LTextShell$Shell;") ∈ ev_W := ev_wm (a := 4) (i := 52) (r := ev_g4) rfl rfl
theorem ev_v417 : (Cond.fieldLink RX10 57 "TextShell$Tools" "expander" "LTextShell$Expander;") ∈ ev_W := ev_wm (a := 4) (i := 53) (r := ev_g4) rfl rfl
theorem ev_v418 : (Cond.methodLink RX11 3 objectInit) ∈ ev_W := ev_wm (a := 5) (i := 54) (r := ev_g5) rfl rfl
theorem ev_v419 : (Cond.fieldLink RX11 9 "TextShell$Tree" "link" "I") ∈ ev_W := ev_wm (a := 5) (i := 55) (r := ev_g5) rfl rfl
theorem ev_v420 : (Cond.fieldLink RX11 15 "TextShell$Tree" "number" "I") ∈ ev_W := ev_wm (a := 5) (i := 56) (r := ev_g5) rfl rfl
theorem ev_v421 : (Cond.fieldLink RX11 18 "TextShell$Tree" "kind" "I") ∈ ev_W := ev_wm (a := 5) (i := 57) (r := ev_g5) rfl rfl
theorem ev_v422 : (Cond.classLink RL 8 RX12) ∈ ev_W := ev_wm (a := 1) (i := 76) (r := ev_g1) rfl rfl
theorem ev_v423 : (Cond.instantiable RX12 10) ∈ ev_W := ev_wm (a := 1) (i := 77) (r := ev_g1) rfl rfl
theorem ev_v424 : (Cond.code yX12_init cX12_init 2 none) ∈ ev_W := ev_wm (a := 1) (i := 78) (r := ev_g1) rfl rfl
theorem ev_v425 : (Cond.methodLink RL 36 yX12_init) ∈ ev_W := ev_wm (a := 1) (i := 79) (r := ev_g1) rfl rfl
theorem ev_v426 : (Cond.instanceMethod yX12_init) ∈ ev_W := ev_wm (a := 1) (i := 80) (r := ev_g1) rfl rfl
theorem ev_v427 : (Cond.classLink RL 37 RX28) ∈ ev_W := ev_wm (a := 12) (i := 3) (r := ev_g12) rfl rfl
theorem ev_v428 : (Cond.instantiable RX28 104) ∈ ev_W := ev_wm (a := 12) (i := 4) (r := ev_g12) rfl rfl
theorem ev_v429 : (Cond.initialized RX28) ∈ ev_W := ev_wm (a := 1) (i := 81) (r := ev_g1) rfl rfl
theorem ev_v430 : (Cond.code yX28_init cX28_init 1 none) ∈ ev_W := ev_wm (a := 12) (i := 5) (r := ev_g12) rfl rfl
theorem ev_v431 : (Cond.methodLink RL 39 yX28_init) ∈ ev_W := ev_wm (a := 12) (i := 6) (r := ev_g12) rfl rfl
theorem ev_v432 : (Cond.instanceMethod yX28_init) ∈ ev_W := ev_wm (a := 12) (i := 7) (r := ev_g12) rfl rfl
theorem ev_v433 : (Cond.code yX12_feed cX12_feed 6 (some .int)) ∈ ev_W := ev_wm (a := 4) (i := 54) (r := ev_g4) rfl rfl
theorem ev_v434 : (Cond.methodLink RL 40 yX12_feed) ∈ ev_W := ev_wm (a := 4) (i := 55) (r := ev_g4) rfl rfl
theorem ev_v435 : (Cond.instanceMethod yX12_feed) ∈ ev_W := ev_wm (a := 4) (i := 56) (r := ev_g4) rfl rfl
theorem ev_v436 : (Cond.selects RX12 yX12_feed yX12_feed) ∈ ev_W := ev_wm (a := 4) (i := 57) (r := ev_g4) rfl rfl
theorem ev_v437 : (Cond.code yX28_feed cX28_feed 6 (some .int)) ∈ ev_W := ev_wm (a := 14) (i := 0) (r := ev_g14) rfl rfl
theorem ev_v438 : (Cond.methodLink RL 44 yX28_feed) ∈ ev_W := ev_wm (a := 14) (i := 1) (r := ev_g14) rfl rfl
theorem ev_v439 : (Cond.instanceMethod yX28_feed) ∈ ev_W := ev_wm (a := 14) (i := 2) (r := ev_g14) rfl rfl
theorem ev_v440 : (Cond.selects RX28 yX28_feed yX28_feed) ∈ ev_W := ev_wm (a := 14) (i := 3) (r := ev_g14) rfl rfl
theorem ev_v441 : (Cond.codeWith yL_read cL_read 4 (some .int) [(0, 9, 12, 13)]) ∈ ev_W := ev_wm (a := 4) (i := 58) (r := ev_g4) rfl rfl
theorem ev_v442 : (Cond.initialized RL) ∈ ev_W := ev_wm (a := 1) (i := 82) (r := ev_g1) rfl rfl
theorem ev_v443 : (Cond.methodLink RL 45 yL_read) ∈ ev_W := ev_wm (a := 4) (i := 59) (r := ev_g4) rfl rfl
theorem ev_v444 : (Cond.static yL_read) ∈ ev_W := ev_wm (a := 4) (i := 60) (r := ev_g4) rfl rfl
theorem ev_v445 : (Cond.code yX28_read_ cX28_read_ 3 (some .int)) ∈ ev_W := ev_wm (a := 14) (i := 4) (r := ev_g14) rfl rfl
theorem ev_v446 : (Cond.methodLink RL 50 yX28_read_) ∈ ev_W := ev_wm (a := 14) (i := 5) (r := ev_g14) rfl rfl
theorem ev_v447 : (Cond.instanceMethod yX28_read_) ∈ ev_W := ev_wm (a := 14) (i := 6) (r := ev_g14) rfl rfl
theorem ev_v448 : (Cond.selects RX28 yX28_read_ yX28_read_) ∈ ev_W := ev_wm (a := 14) (i := 7) (r := ev_g14) rfl rfl
theorem ev_v449 : (Cond.codeWith yL_put cL_put 6 (some .int) [(0, 19, 22, 13)]) ∈ ev_W := ev_wm (a := 12) (i := 8) (r := ev_g12) rfl rfl
theorem ev_v450 : (Cond.methodLink RL 65 yL_put) ∈ ev_W := ev_wm (a := 12) (i := 9) (r := ev_g12) rfl rfl
theorem ev_v451 : (Cond.static yL_put) ∈ ev_W := ev_wm (a := 12) (i := 10) (r := ev_g12) rfl rfl
theorem ev_v452 : (Cond.code yX28_put_ cX28_put_ 9 (some .boolean)) ∈ ev_W := ev_wm (a := 22) (i := 0) (r := ev_g22) rfl rfl
theorem ev_v453 : (Cond.methodLink RL 68 yX28_put_) ∈ ev_W := ev_wm (a := 22) (i := 1) (r := ev_g22) rfl rfl
theorem ev_v454 : (Cond.instanceMethod yX28_put_) ∈ ev_W := ev_wm (a := 22) (i := 2) (r := ev_g22) rfl rfl
theorem ev_v455 : (Cond.selects RX28 yX28_put_ yX28_put_) ∈ ev_W := ev_wm (a := 22) (i := 3) (r := ev_g22) rfl rfl
theorem ev_v456 : (Cond.code yX12_put cX12_put 6 (some .boolean)) ∈ ev_W := ev_wm (a := 12) (i := 11) (r := ev_g12) rfl rfl
theorem ev_v457 : (Cond.methodLink RL 28 yX12_put) ∈ ev_W := ev_wm (a := 12) (i := 12) (r := ev_g12) rfl rfl
theorem ev_v458 : (Cond.instanceMethod yX12_put) ∈ ev_W := ev_wm (a := 12) (i := 13) (r := ev_g12) rfl rfl
theorem ev_v459 : (Cond.selects RX12 yX12_put yX12_put) ∈ ev_W := ev_wm (a := 12) (i := 14) (r := ev_g12) rfl rfl
theorem ev_v460 : (Cond.code yX12_read cX12_read 3 (some .int)) ∈ ev_W := ev_wm (a := 4) (i := 61) (r := ev_g4) rfl rfl
theorem ev_v461 : (Cond.methodLink RL 7 yX12_read) ∈ ev_W := ev_wm (a := 4) (i := 62) (r := ev_g4) rfl rfl
theorem ev_v462 : (Cond.instanceMethod yX12_read) ∈ ev_W := ev_wm (a := 4) (i := 63) (r := ev_g4) rfl rfl
theorem ev_v463 : (Cond.selects RX12 yX12_read yX12_read) ∈ ev_W := ev_wm (a := 4) (i := 64) (r := ev_g4) rfl rfl
theorem ev_v464 : (Cond.methodLink RX28 1448 objectInit) ∈ ev_W := ev_wm (a := 12) (i := 15) (r := ev_g12) rfl rfl
theorem ev_v465 : (Cond.classLink RX28 464 "[B") ∈ ev_W := ev_wm (a := 12) (i := 16) (r := ev_g12) rfl rfl
theorem ev_v466 : (Cond.fieldLink RX28 13 "TextShellModel" "small" "[[B") ∈ ev_W := ev_wm (a := 12) (i := 17) (r := ev_g12) rfl rfl
theorem ev_v467 : (Cond.arrayClass .byte) ∈ ev_W := ev_wm (a := 2) (i := 52) (r := ev_g2) rfl rfl
theorem ev_v468 : (Cond.fieldLink RX28 30 "TextShellModel" "emptyRow" "[B") ∈ ev_W := ev_wm (a := 13) (i := 0) (r := ev_g13) rfl rfl
theorem ev_v469 : (Cond.fieldLink RX28 27 "TextShellModel" "singles" "[[B") ∈ ev_W := ev_wm (a := 13) (i := 1) (r := ev_g13) rfl rfl
theorem ev_v470 : (Cond.classLink RX28 139 "java/lang/IllegalStateException") ∈ ev_W := ev_wm (a := 12) (i := 18) (r := ev_g12) rfl rfl
theorem ev_v471 : (Cond.initialized "java/lang/IllegalStateException") ∈ ev_W := ev_wm (a := 1) (i := 83) (r := ev_g1) rfl rfl
theorem ev_v472 : (Cond.fieldLink RX28 60 "TextShellModel" "stop" "Ljava/lang/IllegalStateException;") ∈ ev_W := ev_wm (a := 13) (i := 2) (r := ev_g13) rfl rfl
theorem ev_v473 : (Cond.classLink RX28 123 RX14) ∈ ev_W := ev_wm (a := 12) (i := 19) (r := ev_g12) rfl rfl
theorem ev_v474 : (Cond.instantiable RX14 2) ∈ ev_W := ev_wm (a := 12) (i := 20) (r := ev_g12) rfl rfl
theorem ev_v475 : (Cond.initialized RX14) ∈ ev_W := ev_wm (a := 1) (i := 84) (r := ev_g1) rfl rfl
theorem ev_v476 : (Cond.code yX14_init cX14_init 1 none) ∈ ev_W := ev_wm (a := 12) (i := 21) (r := ev_g12) rfl rfl
theorem ev_v477 : (Cond.instanceMethod yX14_init) ∈ ev_W := ev_wm (a := 12) (i := 22) (r := ev_g12) rfl rfl
theorem ev_v478 : (Cond.fieldLink RX28 1452 "TextShellModel" "raw" "LTextShellModel$Bytes;") ∈ ev_W := ev_wm (a := 13) (i := 3) (r := ev_g13) rfl rfl
theorem ev_v479 : (Cond.fieldLink RX28 118 "TextShellModel" "run" "LTextShellModel$Bytes;") ∈ ev_W := ev_wm (a := 13) (i := 4) (r := ev_g13) rfl rfl
theorem ev_v480 : (Cond.fieldLink RX28 1454 "TextShellModel" "rows" "[I") ∈ ev_W := ev_wm (a := 13) (i := 5) (r := ev_g13) rfl rfl
theorem ev_v481 : (Cond.fieldLink RX28 141 "TextShellModel" "out" "LTextShellModel$Bytes;") ∈ ev_W := ev_wm (a := 13) (i := 6) (r := ev_g13) rfl rfl
theorem ev_v482 : (Cond.classLink RX28 359 RX21) ∈ ev_W := ev_wm (a := 12) (i := 23) (r := ev_g12) rfl rfl
theorem ev_v483 : (Cond.instantiable RX21 7) ∈ ev_W := ev_wm (a := 12) (i := 24) (r := ev_g12) rfl rfl
theorem ev_v484 : (Cond.initialized RX21) ∈ ev_W := ev_wm (a := 1) (i := 85) (r := ev_g1) rfl rfl
theorem ev_v485 : (Cond.code yX21_init cX21_init 3 none) ∈ ev_W := ev_wm (a := 12) (i := 25) (r := ev_g12) rfl rfl
theorem ev_v486 : (Cond.methodLink RX28 420 yX21_init) ∈ ev_W := ev_wm (a := 12) (i := 26) (r := ev_g12) rfl rfl
theorem ev_v487 : (Cond.instanceMethod yX21_init) ∈ ev_W := ev_wm (a := 12) (i := 27) (r := ev_g12) rfl rfl
theorem ev_v488 : (Cond.fieldLink RX28 374 "TextShellModel" "root" "LTextShellModel$Node;") ∈ ev_W := ev_wm (a := 13) (i := 7) (r := ev_g13) rfl rfl
theorem ev_v489 : (Cond.fieldLink RX28 823 "TextShellModel" "here" "LTextShellModel$Node;") ∈ ev_W := ev_wm (a := 13) (i := 8) (r := ev_g13) rfl rfl
theorem ev_v490 : (Cond.fieldLink RX28 417 "TextShellModel" "directories" "I") ∈ ev_W := ev_wm (a := 13) (i := 9) (r := ev_g13) rfl rfl
theorem ev_v491 : (Cond.classLink RX28 446 RJx4a65c) ∈ ev_W := ev_wm (a := 12) (i := 28) (r := ev_g12) rfl rfl
theorem ev_v492 : (Cond.instantiable RJx4a65c 3) ∈ ev_W := ev_wm (a := 12) (i := 29) (r := ev_g12) rfl rfl
theorem ev_v493 : (Cond.initialized RJx4a65c) ∈ ev_W := ev_wm (a := 1) (i := 86) (r := ev_g1) rfl rfl
theorem ev_v494 : (Cond.code yJx4a65c_init_da8c8 cJx4a65c_init_da8c8 1 none) ∈ ev_W := ev_wm (a := 12) (i := 30) (r := ev_g12) rfl rfl
theorem ev_v495 : (Cond.methodLink RX28 1064 yJx4a65c_init_da8c8) ∈ ev_W := ev_wm (a := 12) (i := 31) (r := ev_g12) rfl rfl
theorem ev_v496 : (Cond.instanceMethod yJx4a65c_init_da8c8) ∈ ev_W := ev_wm (a := 12) (i := 32) (r := ev_g12) rfl rfl
theorem ev_v497 : (Cond.fieldLink RX28 441 "TextShellModel" "listed" "Ljava/util/ArrayList;") ∈ ev_W := ev_wm (a := 13) (i := 10) (r := ev_g13) rfl rfl
theorem ev_v498 : (Cond.classLink RX28 475 RX22) ∈ ev_W := ev_wm (a := 12) (i := 33) (r := ev_g12) rfl rfl
theorem ev_v499 : (Cond.fieldLink RX28 754 "TextShellModel" "open" "[LTextShellModel$Open;") ∈ ev_W := ev_wm (a := 13) (i := 11) (r := ev_g13) rfl rfl
theorem ev_v500 : (Cond.classLink RX28 564 RX26) ∈ ev_W := ev_wm (a := 12) (i := 34) (r := ev_g12) rfl rfl
theorem ev_v501 : (Cond.instantiable RX26 4) ∈ ev_W := ev_wm (a := 12) (i := 35) (r := ev_g12) rfl rfl
theorem ev_v502 : (Cond.initialized RX26) ∈ ev_W := ev_wm (a := 1) (i := 87) (r := ev_g1) rfl rfl
theorem ev_v503 : (Cond.code yX26_init cX26_init 1 none) ∈ ev_W := ev_wm (a := 12) (i := 36) (r := ev_g12) rfl rfl
theorem ev_v504 : (Cond.instanceMethod yX26_init) ∈ ev_W := ev_wm (a := 12) (i := 37) (r := ev_g12) rfl rfl
theorem ev_v505 : (Cond.fieldLink RX28 570 "TextShellModel" "variables" "LTextShellModel$Table;") ∈ ev_W := ev_wm (a := 13) (i := 12) (r := ev_g13) rfl rfl
theorem ev_v506 : (Cond.fieldLink RX28 1032 "TextShellModel" "functions" "LTextShellModel$Table;") ∈ ev_W := ev_wm (a := 13) (i := 13) (r := ev_g13) rfl rfl
theorem ev_v507 : (Cond.fieldLink RX28 1366 "TextShellModel" "aliases" "LTextShellModel$Table;") ∈ ev_W := ev_wm (a := 13) (i := 14) (r := ev_g13) rfl rfl
theorem ev_v508 : (Cond.fieldLink RX28 585 "TextShellModel" "parameters" "[[B") ∈ ev_W := ev_wm (a := 13) (i := 15) (r := ev_g13) rfl rfl
theorem ev_v509 : (Cond.fieldLink RX28 524 "TextShellModel" "changed" "Ljava/util/ArrayList;") ∈ ev_W := ev_wm (a := 13) (i := 16) (r := ev_g13) rfl rfl
theorem ev_v510 : (Cond.fieldLink RX28 534 "TextShellModel" "oldValues" "[[B") ∈ ev_W := ev_wm (a := 13) (i := 17) (r := ev_g13) rfl rfl
theorem ev_v511 : (Cond.classLink RX28 208 RX16) ∈ ev_W := ev_wm (a := 12) (i := 38) (r := ev_g12) rfl rfl
theorem ev_v512 : (Cond.fieldLink RX28 540 "TextShellModel" "oldFunctions" "[LTextShellModel$Cmd;") ∈ ev_W := ev_wm (a := 13) (i := 18) (r := ev_g13) rfl rfl
theorem ev_v513 : (Cond.fieldLink RX28 527 "TextShellModel" "oldOthers" "[I") ∈ ev_W := ev_wm (a := 13) (i := 19) (r := ev_g13) rfl rfl
theorem ev_v514 : (Cond.fieldLink RX28 669 "TextShellModel" "homeName" "[B") ∈ ev_W := ev_wm (a := 13) (i := 20) (r := ev_g13) rfl rfl
theorem ev_v515 : (Cond.fieldLink RX28 731 "TextShellModel" "ifsName" "[B") ∈ ev_W := ev_wm (a := 13) (i := 21) (r := ev_g13) rfl rfl
theorem ev_v516 : (Cond.classLink RX28 598 "[I") ∈ ev_W := ev_wm (a := 12) (i := 39) (r := ev_g12) rfl rfl
theorem ev_v517 : (Cond.fieldLink RX28 594 "TextShellModel" "cells" "[[I") ∈ ev_W := ev_wm (a := 13) (i := 22) (r := ev_g13) rfl rfl
theorem ev_v518 : (Cond.fieldLink RX28 678 "TextShellModel" "shell" "[B") ∈ ev_W := ev_wm (a := 13) (i := 23) (r := ev_g13) rfl rfl
theorem ev_v519 : (Cond.fieldLink RX28 687 "TextShellModel" "options" "[[B") ∈ ev_W := ev_wm (a := 13) (i := 24) (r := ev_g13) rfl rfl
theorem ev_v520 : (Cond.fieldLink RX28 798 "TextShellModel" "pathBytes" "[B") ∈ ev_W := ev_wm (a := 13) (i := 25) (r := ev_g13) rfl rfl
theorem ev_v521 : (Cond.fieldLink RX28 801 "TextShellModel" "moreBytes" "[B") ∈ ev_W := ev_wm (a := 13) (i := 26) (r := ev_g13) rfl rfl
theorem ev_v522 : (Cond.fieldLink RX28 804 "TextShellModel" "pathEnds" "[I") ∈ ev_W := ev_wm (a := 13) (i := 27) (r := ev_g13) rfl rfl
theorem ev_v523 : (Cond.fieldLink RX28 807 "TextShellModel" "moreEnds" "[I") ∈ ev_W := ev_wm (a := 13) (i := 28) (r := ev_g13) rfl rfl
theorem ev_v524 : (Cond.fieldLink RX28 810 "TextShellModel" "pathNodes" "[LTextShellModel$Node;") ∈ ev_W := ev_wm (a := 13) (i := 29) (r := ev_g13) rfl rfl
theorem ev_v525 : (Cond.fieldLink RX28 814 "TextShellModel" "moreNodes" "[LTextShellModel$Node;") ∈ ev_W := ev_wm (a := 13) (i := 30) (r := ev_g13) rfl rfl
theorem ev_v526 : (Cond.fieldLink RX28 842 "TextShellModel" "sorted" "Ljava/util/ArrayList;") ∈ ev_W := ev_wm (a := 13) (i := 31) (r := ev_g13) rfl rfl
theorem ev_v527 : (Cond.fieldLink RX28 855 "TextShellModel" "partName" "[B") ∈ ev_W := ev_wm (a := 13) (i := 32) (r := ev_g13) rfl rfl
theorem ev_v528 : (Cond.fieldLink RX28 869 "TextShellModel" "signs" "[I") ∈ ev_W := ev_wm (a := 13) (i := 33) (r := ev_g13) rfl rfl
theorem ev_v529 : (Cond.fieldLink RX28 887 "TextShellModel" "sets" "[J") ∈ ev_W := ev_wm (a := 13) (i := 34) (r := ev_g13) rfl rfl
theorem ev_v530 : (Cond.fieldLink RX28 872 "TextShellModel" "at" "[Z") ∈ ev_W := ev_wm (a := 13) (i := 35) (r := ev_g13) rfl rfl
theorem ev_v531 : (Cond.fieldLink RX28 876 "TextShellModel" "then" "[Z") ∈ ev_W := ev_wm (a := 13) (i := 36) (r := ev_g13) rfl rfl
theorem ev_v532 : (Cond.fieldLink RX28 994 "TextShellModel" "keptOnes" "Ljava/util/ArrayList;") ∈ ev_W := ev_wm (a := 13) (i := 37) (r := ev_g13) rfl rfl
theorem ev_v533 : (Cond.fieldLink RX28 1385 "TextShellModel" "begins" "[I") ∈ ev_W := ev_wm (a := 13) (i := 38) (r := ev_g13) rfl rfl
theorem ev_v534 : (Cond.fieldLink RX28 1457 "TextShellModel" "tape" "LTextShellModel$Bytes;") ∈ ev_W := ev_wm (a := 13) (i := 39) (r := ev_g13) rfl rfl
theorem ev_v535 : (Cond.fieldLink RX28 1460 "TextShellModel" "printed" "LTextShellModel$Bytes;") ∈ ev_W := ev_wm (a := 13) (i := 40) (r := ev_g13) rfl rfl
theorem ev_v536 : (Cond.fieldLink RX28 1463 "TextShellModel" "output" "LTextShellModel$Bytes;") ∈ ev_W := ev_wm (a := 13) (i := 41) (r := ev_g13) rfl rfl
theorem ev_v537 : (Cond.fieldLink RX28 1466 "TextShellModel" "errors" "LTextShellModel$Bytes;") ∈ ev_W := ev_wm (a := 13) (i := 42) (r := ev_g13) rfl rfl
theorem ev_v538 : (Cond.fieldLink RX28 1469 "TextShellModel" "answer" "LTextShellModel$Bytes;") ∈ ev_W := ev_wm (a := 13) (i := 43) (r := ev_g13) rfl rfl
theorem ev_v539 : (Cond.code yX28_begin0 cX28_begin0 1 none) ∈ ev_W := ev_wm (a := 12) (i := 40) (r := ev_g12) rfl rfl
theorem ev_v540 : (Cond.methodLink RX28 1472 yX28_begin0) ∈ ev_W := ev_wm (a := 12) (i := 41) (r := ev_g12) rfl rfl
theorem ev_v541 : (Cond.instanceMethod yX28_begin0) ∈ ev_W := ev_wm (a := 12) (i := 42) (r := ev_g12) rfl rfl
theorem ev_v542 : (Cond.selects RX28 yX28_begin0 yX28_begin0) ∈ ev_W := ev_wm (a := 0) (i := 43) (r := ev_g0) rfl rfl
theorem ev_v543 : (Cond.code yX26_clear cX26_clear 2 none) ∈ ev_W := ev_wm (a := 12) (i := 43) (r := ev_g12) rfl rfl
theorem ev_v544 : (Cond.methodLink RX28 1478 yX26_clear) ∈ ev_W := ev_wm (a := 12) (i := 44) (r := ev_g12) rfl rfl
theorem ev_v545 : (Cond.instanceMethod yX26_clear) ∈ ev_W := ev_wm (a := 12) (i := 45) (r := ev_g12) rfl rfl
theorem ev_v546 : (Cond.selects RX26 yX26_clear yX26_clear) ∈ ev_W := ev_wm (a := 12) (i := 46) (r := ev_g12) rfl rfl
theorem ev_v547 : (Cond.fieldLink RX28 588 "TextShellModel" "firstParameter" "I") ∈ ev_W := ev_wm (a := 13) (i := 44) (r := ev_g13) rfl rfl
theorem ev_v548 : (Cond.fieldLink RX28 644 "TextShellModel" "manyParameters" "I") ∈ ev_W := ev_wm (a := 13) (i := 45) (r := ev_g13) rfl rfl
theorem ev_v549 : (Cond.fieldLink RX28 690 "TextShellModel" "optionE" "Z") ∈ ev_W := ev_wm (a := 13) (i := 46) (r := ev_g13) rfl rfl
theorem ev_v550 : (Cond.fieldLink RX28 693 "TextShellModel" "optionF" "Z") ∈ ev_W := ev_wm (a := 13) (i := 47) (r := ev_g13) rfl rfl
theorem ev_v551 : (Cond.fieldLink RX28 696 "TextShellModel" "optionU" "Z") ∈ ev_W := ev_wm (a := 13) (i := 48) (r := ev_g13) rfl rfl
theorem ev_v552 : (Cond.fieldLink RX28 506 "TextShellModel" "status" "I") ∈ ev_W := ev_wm (a := 13) (i := 49) (r := ev_g13) rfl rfl
theorem ev_v553 : (Cond.fieldLink RX28 414 "TextShellModel" "files" "I") ∈ ev_W := ev_wm (a := 13) (i := 50) (r := ev_g13) rfl rfl
theorem ev_v554 : (Cond.fieldLink RX28 434 "TextShellModel" "filled" "I") ∈ ev_W := ev_wm (a := 13) (i := 51) (r := ev_g13) rfl rfl
theorem ev_v555 : (Cond.fieldLink RX28 1479 "TextShellModel" "script" "LTextShellModel$AndOr;") ∈ ev_W := ev_wm (a := 13) (i := 52) (r := ev_g13) rfl rfl
theorem ev_v556 : (Cond.fieldLink RX28 1480 "TextShellModel" "isThere" "Z") ∈ ev_W := ev_wm (a := 13) (i := 53) (r := ev_g13) rfl rfl
theorem ev_v557 : (Cond.fieldLink RX28 1482 "TextShellModel" "isPrinted" "Z") ∈ ev_W := ev_wm (a := 13) (i := 54) (r := ev_g13) rfl rfl
theorem ev_v558 : (Cond.fieldLink RX28 1485 "TextShellModel" "isAnswered" "Z") ∈ ev_W := ev_wm (a := 13) (i := 55) (r := ev_g13) rfl rfl
theorem ev_v559 : (Cond.fieldLink RX28 1100 "TextShellModel" "simples" "I") ∈ ev_W := ev_wm (a := 13) (i := 56) (r := ev_g13) rfl rfl
theorem ev_v560 : (Cond.code yX28_opened cX28_opened 5 (some (.object "TextShellModel$Open"))) ∈ ev_W := ev_wm (a := 12) (i := 47) (r := ev_g12) rfl rfl
theorem ev_v561 : (Cond.methodLink RX28 758 yX28_opened) ∈ ev_W := ev_wm (a := 12) (i := 48) (r := ev_g12) rfl rfl
theorem ev_v562 : (Cond.static yX28_opened) ∈ ev_W := ev_wm (a := 12) (i := 49) (r := ev_g12) rfl rfl
theorem ev_v563 : (Cond.fieldLink RX28 1488 "TextShellModel" "input" "LTextShellModel$Open;") ∈ ev_W := ev_wm (a := 13) (i := 57) (r := ev_g13) rfl rfl
theorem ev_v564 : (Cond.code yX28_touch cX28_touch 3 none) ∈ ev_W := ev_wm (a := 19) (i := 0) (r := ev_g19) rfl rfl
theorem ev_v565 : (Cond.methodLink RX28 581 yX28_touch) ∈ ev_W := ev_wm (a := 19) (i := 1) (r := ev_g19) rfl rfl
theorem ev_v566 : (Cond.instanceMethod yX28_touch) ∈ ev_W := ev_wm (a := 19) (i := 2) (r := ev_g19) rfl rfl
theorem ev_v567 : (Cond.selects RX28 yX28_touch yX28_touch) ∈ ev_W := ev_wm (a := 0) (i := 44) (r := ev_g0) rfl rfl
theorem ev_v568 : (Cond.code yX28_setTo cX28_setTo 4 none) ∈ ev_W := ev_wm (a := 19) (i := 3) (r := ev_g19) rfl rfl
theorem ev_v569 : (Cond.methodLink RX28 555 yX28_setTo) ∈ ev_W := ev_wm (a := 19) (i := 4) (r := ev_g19) rfl rfl
theorem ev_v570 : (Cond.instanceMethod yX28_setTo) ∈ ev_W := ev_wm (a := 19) (i := 5) (r := ev_g19) rfl rfl
theorem ev_v571 : (Cond.selects RX28 yX28_setTo yX28_setTo) ∈ ev_W := ev_wm (a := 0) (i := 45) (r := ev_g0) rfl rfl
theorem ev_v572 : (Cond.fieldLink RX28 1475 "TextShellModel" "thrown" "I") ∈ ev_W := ev_wm (a := 13) (i := 58) (r := ev_g13) rfl rfl
theorem ev_v573 : (Cond.code yX28_five cX28_five 3 none) ∈ ev_W := ev_wm (a := 14) (i := 8) (r := ev_g14) rfl rfl
theorem ev_v574 : (Cond.methodLink RX28 1492 yX28_five) ∈ ev_W := ev_wm (a := 14) (i := 9) (r := ev_g14) rfl rfl
theorem ev_v575 : (Cond.instanceMethod yX28_five) ∈ ev_W := ev_wm (a := 14) (i := 10) (r := ev_g14) rfl rfl
theorem ev_v576 : (Cond.selects RX28 yX28_five yX28_five) ∈ ev_W := ev_wm (a := 0) (i := 46) (r := ev_g0) rfl rfl
theorem ev_v577 : (Cond.code yX14_add cX14_add 4 none) ∈ ev_W := ev_wm (a := 14) (i := 11) (r := ev_g14) rfl rfl
theorem ev_v578 : (Cond.methodLink RX28 144 yX14_add) ∈ ev_W := ev_wm (a := 14) (i := 12) (r := ev_g14) rfl rfl
theorem ev_v579 : (Cond.instanceMethod yX14_add) ∈ ev_W := ev_wm (a := 14) (i := 13) (r := ev_g14) rfl rfl
theorem ev_v580 : (Cond.selects RX14 yX14_add yX14_add) ∈ ev_W := ev_wm (a := 14) (i := 14) (r := ev_g14) rfl rfl
theorem ev_v581 : (Cond.code yX28_isTextByte cX28_isTextByte 1 (some .boolean)) ∈ ev_W := ev_wm (a := 14) (i := 15) (r := ev_g14) rfl rfl
theorem ev_v582 : (Cond.methodLink RX28 53 yX28_isTextByte) ∈ ev_W := ev_wm (a := 14) (i := 16) (r := ev_g14) rfl rfl
theorem ev_v583 : (Cond.static yX28_isTextByte) ∈ ev_W := ev_wm (a := 14) (i := 17) (r := ev_g14) rfl rfl
theorem ev_v584 : (Cond.methodLink RX28 1 yJ0_length_8abf5) ∈ ev_W := ev_wm (a := 15) (i := 0) (r := ev_g15) rfl rfl
theorem ev_v585 : (Cond.methodLink RX28 7 yJ0_charAt_5068e) ∈ ev_W := ev_wm (a := 15) (i := 1) (r := ev_g15) rfl rfl
theorem ev_v586 : (Cond.code yX28_isText cX28_isText 3 (some .boolean)) ∈ ev_W := ev_wm (a := 14) (i := 18) (r := ev_g14) rfl rfl
theorem ev_v587 : (Cond.methodLink RX28 131 yX28_isText) ∈ ev_W := ev_wm (a := 14) (i := 19) (r := ev_g14) rfl rfl
theorem ev_v588 : (Cond.static yX28_isText) ∈ ev_W := ev_wm (a := 14) (i := 20) (r := ev_g14) rfl rfl
theorem ev_v589 : (Cond.code yX28_nameEnd cX28_nameEnd 3 (some .int)) ∈ ev_W := ev_wm (a := 15) (i := 2) (r := ev_g15) rfl rfl
theorem ev_v590 : (Cond.methodLink RX28 42 yX28_nameEnd) ∈ ev_W := ev_wm (a := 15) (i := 3) (r := ev_g15) rfl rfl
theorem ev_v591 : (Cond.static yX28_nameEnd) ∈ ev_W := ev_wm (a := 15) (i := 4) (r := ev_g15) rfl rfl
theorem ev_v592 : (Cond.code yX28_isLetter cX28_isLetter 1 (some .boolean)) ∈ ev_W := ev_wm (a := 15) (i := 5) (r := ev_g15) rfl rfl
theorem ev_v593 : (Cond.methodLink RX28 46 yX28_isLetter) ∈ ev_W := ev_wm (a := 15) (i := 6) (r := ev_g15) rfl rfl
theorem ev_v594 : (Cond.static yX28_isLetter) ∈ ev_W := ev_wm (a := 15) (i := 7) (r := ev_g15) rfl rfl
theorem ev_v595 : (Cond.instantiable RX22 5) ∈ ev_W := ev_wm (a := 12) (i := 50) (r := ev_g12) rfl rfl
theorem ev_v596 : (Cond.initialized RX22) ∈ ev_W := ev_wm (a := 1) (i := 88) (r := ev_g1) rfl rfl
theorem ev_v597 : (Cond.code yX22_init cX22_init 1 none) ∈ ev_W := ev_wm (a := 12) (i := 51) (r := ev_g12) rfl rfl
theorem ev_v598 : (Cond.instanceMethod yX22_init) ∈ ev_W := ev_wm (a := 12) (i := 52) (r := ev_g12) rfl rfl
theorem ev_v599 : (Cond.code yX28_has_ cX28_has_ 5 (some .boolean)) ∈ ev_W := ev_wm (a := 14) (i := 21) (r := ev_g14) rfl rfl
theorem ev_v600 : (Cond.methodLink RX28 1495 yX28_has_) ∈ ev_W := ev_wm (a := 14) (i := 22) (r := ev_g14) rfl rfl
theorem ev_v601 : (Cond.instanceMethod yX28_has_) ∈ ev_W := ev_wm (a := 14) (i := 23) (r := ev_g14) rfl rfl
theorem ev_v602 : (Cond.selects RX28 yX28_has_ yX28_has_) ∈ ev_W := ev_wm (a := 0) (i := 47) (r := ev_g0) rfl rfl
theorem ev_v603 : (Cond.code yX28_fails cX28_fails 3 (some .boolean)) ∈ ev_W := ev_wm (a := 14) (i := 24) (r := ev_g14) rfl rfl
theorem ev_v604 : (Cond.methodLink RX28 1498 yX28_fails) ∈ ev_W := ev_wm (a := 14) (i := 25) (r := ev_g14) rfl rfl
theorem ev_v605 : (Cond.instanceMethod yX28_fails) ∈ ev_W := ev_wm (a := 14) (i := 26) (r := ev_g14) rfl rfl
theorem ev_v606 : (Cond.selects RX28 yX28_fails yX28_fails) ∈ ev_W := ev_wm (a := 0) (i := 48) (r := ev_g0) rfl rfl
theorem ev_v607 : (Cond.code yX28_part cX28_part 5 (some (.array .byte))) ∈ ev_W := ev_wm (a := 14) (i := 27) (r := ev_g14) rfl rfl
theorem ev_v608 : (Cond.methodLink RX28 38 yX28_part) ∈ ev_W := ev_wm (a := 14) (i := 28) (r := ev_g14) rfl rfl
theorem ev_v609 : (Cond.static yX28_part) ∈ ev_W := ev_wm (a := 14) (i := 29) (r := ev_g14) rfl rfl
theorem ev_v610 : (Cond.code yX28_isName cX28_isName 1 (some .boolean)) ∈ ev_W := ev_wm (a := 15) (i := 8) (r := ev_g15) rfl rfl
theorem ev_v611 : (Cond.methodLink RX28 1204 yX28_isName) ∈ ev_W := ev_wm (a := 21) (i := 0) (r := ev_g21) rfl rfl
theorem ev_v612 : (Cond.static yX28_isName) ∈ ev_W := ev_wm (a := 15) (i := 9) (r := ev_g15) rfl rfl
theorem ev_v613 : (Cond.code yX28_isAliasText cX28_isAliasText 3 (some .boolean)) ∈ ev_W := ev_wm (a := 21) (i := 1) (r := ev_g21) rfl rfl
theorem ev_v614 : (Cond.methodLink RX28 1369 yX28_isAliasText) ∈ ev_W := ev_wm (a := 21) (i := 2) (r := ev_g21) rfl rfl
theorem ev_v615 : (Cond.static yX28_isAliasText) ∈ ev_W := ev_wm (a := 21) (i := 3) (r := ev_g21) rfl rfl
theorem ev_v616 : (Cond.code yX26_find cX26_find 5 (some (.object "TextShellModel$Entry"))) ∈ ev_W := ev_wm (a := 15) (i := 10) (r := ev_g15) rfl rfl
theorem ev_v617 : (Cond.methodLink RX28 573 yX26_find) ∈ ev_W := ev_wm (a := 19) (i := 6) (r := ev_g19) rfl rfl
theorem ev_v618 : (Cond.instanceMethod yX26_find) ∈ ev_W := ev_wm (a := 15) (i := 11) (r := ev_g15) rfl rfl
theorem ev_v619 : (Cond.selects RX26 yX26_find yX26_find) ∈ ev_W := ev_wm (a := 15) (i := 12) (r := ev_g15) rfl rfl
theorem ev_v620 : (Cond.code yX28_change cX28_change 4 none) ∈ ev_W := ev_wm (a := 19) (i := 7) (r := ev_g19) rfl rfl
theorem ev_v621 : (Cond.methodLink RX28 577 yX28_change) ∈ ev_W := ev_wm (a := 19) (i := 8) (r := ev_g19) rfl rfl
theorem ev_v622 : (Cond.instanceMethod yX28_change) ∈ ev_W := ev_wm (a := 19) (i := 9) (r := ev_g19) rfl rfl
theorem ev_v623 : (Cond.selects RX28 yX28_change yX28_change) ∈ ev_W := ev_wm (a := 0) (i := 49) (r := ev_g0) rfl rfl
theorem ev_v624 : (Cond.code yX28_taken cX28_taken 3 (some (.array .byte))) ∈ ev_W := ev_wm (a := 14) (i := 30) (r := ev_g14) rfl rfl
theorem ev_v625 : (Cond.methodLink RX28 1502 yX28_taken) ∈ ev_W := ev_wm (a := 14) (i := 31) (r := ev_g14) rfl rfl
theorem ev_v626 : (Cond.instanceMethod yX28_taken) ∈ ev_W := ev_wm (a := 14) (i := 32) (r := ev_g14) rfl rfl
theorem ev_v627 : (Cond.selects RX28 yX28_taken yX28_taken) ∈ ev_W := ev_wm (a := 0) (i := 50) (r := ev_g0) rfl rfl
theorem ev_v628 : (Cond.codeWith yX28_reads cX28_reads 3 (some .boolean) [(40, 52, 55, 139)]) ∈ ev_W := ev_wm (a := 14) (i := 33) (r := ev_g14) rfl rfl
theorem ev_v629 : (Cond.methodLink RX28 1183 yX28_reads) ∈ ev_W := ev_wm (a := 14) (i := 34) (r := ev_g14) rfl rfl
theorem ev_v630 : (Cond.instanceMethod yX28_reads) ∈ ev_W := ev_wm (a := 14) (i := 35) (r := ev_g14) rfl rfl
theorem ev_v631 : (Cond.selects RX28 yX28_reads yX28_reads) ∈ ev_W := ev_wm (a := 0) (i := 51) (r := ev_g0) rfl rfl
theorem ev_v632 : (Cond.fieldLink RX28 56 "TextShellModel" "fault" "I") ∈ ev_W := ev_wm (a := 13) (i := 59) (r := ev_g13) rfl rfl
theorem ev_v633 : (Cond.fieldLink RX28 127 "TextShellModel" "found" "LTextShellModel$AndOr;") ∈ ev_W := ev_wm (a := 13) (i := 60) (r := ev_g13) rfl rfl
theorem ev_v634 : (Cond.code yX28_scriptOf cX28_scriptOf 8 (some (.object "TextShellModel$AndOr"))) ∈ ev_W := ev_wm (a := 14) (i := 36) (r := ev_g14) rfl rfl
theorem ev_v635 : (Cond.methodLink RX28 135 yX28_scriptOf) ∈ ev_W := ev_wm (a := 14) (i := 37) (r := ev_g14) rfl rfl
theorem ev_v636 : (Cond.instanceMethod yX28_scriptOf) ∈ ev_W := ev_wm (a := 14) (i := 38) (r := ev_g14) rfl rfl
theorem ev_v637 : (Cond.selects RX28 yX28_scriptOf yX28_scriptOf) ∈ ev_W := ev_wm (a := 0) (i := 52) (r := ev_g0) rfl rfl
theorem ev_v638 : (Cond.fieldLink RX28 64 "TextShellModel" "source" "J") ∈ ev_W := ev_wm (a := 13) (i := 61) (r := ev_g13) rfl rfl
theorem ev_v639 : (Cond.constantLong RX28 68 (16)) ∈ ev_W := ev_wm (a := 14) (i := 39) (r := ev_g14) rfl rfl
theorem ev_v640 : (Cond.constantLong RX28 70 (40000)) ∈ ev_W := ev_wm (a := 14) (i := 40) (r := ev_g14) rfl rfl
theorem ev_v641 : (Cond.code yX28_oneByte cX28_oneByte 2 (some (.array .byte))) ∈ ev_W := ev_wm (a := 15) (i := 13) (r := ev_g15) rfl rfl
theorem ev_v642 : (Cond.methodLink RX28 34 yX28_oneByte) ∈ ev_W := ev_wm (a := 15) (i := 14) (r := ev_g15) rfl rfl
theorem ev_v643 : (Cond.instanceMethod yX28_oneByte) ∈ ev_W := ev_wm (a := 15) (i := 15) (r := ev_g15) rfl rfl
theorem ev_v644 : (Cond.selects RX28 yX28_oneByte yX28_oneByte) ∈ ev_W := ev_wm (a := 0) (i := 53) (r := ev_g0) rfl rfl
theorem ev_v645 : (Cond.code yX28_room cX28_room 2 none) ∈ ev_W := ev_wm (a := 14) (i := 41) (r := ev_g14) rfl rfl
theorem ev_v646 : (Cond.methodLink RX28 76 yX28_room) ∈ ev_W := ev_wm (a := 14) (i := 42) (r := ev_g14) rfl rfl
theorem ev_v647 : (Cond.instanceMethod yX28_room) ∈ ev_W := ev_wm (a := 14) (i := 43) (r := ev_g14) rfl rfl
theorem ev_v648 : (Cond.selects RX28 yX28_room yX28_room) ∈ ev_W := ev_wm (a := 0) (i := 54) (r := ev_g0) rfl rfl
theorem ev_v649 : (Cond.classLink RX28 80 RX25) ∈ ev_W := ev_wm (a := 14) (i := 44) (r := ev_g14) rfl rfl
theorem ev_v650 : (Cond.instantiable RX25 17) ∈ ev_W := ev_wm (a := 14) (i := 45) (r := ev_g14) rfl rfl
theorem ev_v651 : (Cond.initialized RX25) ∈ ev_W := ev_wm (a := 1) (i := 89) (r := ev_g1) rfl rfl
theorem ev_v652 : (Cond.code yX25_init cX25_init 7 none) ∈ ev_W := ev_wm (a := 14) (i := 46) (r := ev_g14) rfl rfl
theorem ev_v653 : (Cond.methodLink RX28 82 yX25_init) ∈ ev_W := ev_wm (a := 14) (i := 47) (r := ev_g14) rfl rfl
theorem ev_v654 : (Cond.instanceMethod yX25_init) ∈ ev_W := ev_wm (a := 14) (i := 48) (r := ev_g14) rfl rfl
theorem ev_v655 : (Cond.code yX25_next cX25_next 2 none) ∈ ev_W := ev_wm (a := 14) (i := 49) (r := ev_g14) rfl rfl
theorem ev_v656 : (Cond.instanceMethod yX25_next) ∈ ev_W := ev_wm (a := 14) (i := 50) (r := ev_g14) rfl rfl
theorem ev_v657 : (Cond.selects RX25 yX25_next yX25_next) ∈ ev_W := ev_wm (a := 0) (i := 55) (r := ev_g0) rfl rfl
theorem ev_v658 : (Cond.code yX25_script cX25_script 2 (some (.object "TextShellModel$AndOr"))) ∈ ev_W := ev_wm (a := 15) (i := 16) (r := ev_g15) rfl rfl
theorem ev_v659 : (Cond.instanceMethod yX25_script) ∈ ev_W := ev_wm (a := 15) (i := 17) (r := ev_g15) rfl rfl
theorem ev_v660 : (Cond.selects RX25 yX25_script yX25_script) ∈ ev_W := ev_wm (a := 0) (i := 56) (r := ev_g0) rfl rfl
theorem ev_v661 : (Cond.fieldLink RX28 523 "TextShellModel" "level" "I") ∈ ev_W := ev_wm (a := 13) (i := 62) (r := ev_g13) rfl rfl
theorem ev_v662 : (Cond.methodLink RX14 1 objectInit) ∈ ev_W := ev_wm (a := 12) (i := 53) (r := ev_g12) rfl rfl
theorem ev_v663 : (Cond.fieldLink RX14 7 "TextShellModel$Bytes" "b" "[B") ∈ ev_W := ev_wm (a := 12) (i := 54) (r := ev_g12) rfl rfl
theorem ev_v664 : (Cond.fieldLink RX14 13 "TextShellModel$Bytes" "n" "I") ∈ ev_W := ev_wm (a := 12) (i := 55) (r := ev_g12) rfl rfl
theorem ev_v665 : (Cond.methodLink RX18 1 objectInit) ∈ ev_W := ev_wm (a := 16) (i := 0) (r := ev_g16) rfl rfl
theorem ev_v666 : (Cond.methodLink RX19 1 objectInit) ∈ ev_W := ev_wm (a := 14) (i := 51) (r := ev_g14) rfl rfl
theorem ev_v667 : (Cond.fieldLink RX19 7 "TextShellModel$Input" "line" "I") ∈ ev_W := ev_wm (a := 14) (i := 52) (r := ev_g14) rfl rfl
theorem ev_v668 : (Cond.methodLink RX21 1 objectInit) ∈ ev_W := ev_wm (a := 12) (i := 56) (r := ev_g12) rfl rfl
theorem ev_v669 : (Cond.fieldLink RX21 7 "TextShellModel$Node" "name" "[B") ∈ ev_W := ev_wm (a := 12) (i := 57) (r := ev_g12) rfl rfl
theorem ev_v670 : (Cond.fieldLink RX21 13 "TextShellModel$Node" "directory" "Z") ∈ ev_W := ev_wm (a := 12) (i := 58) (r := ev_g12) rfl rfl
theorem ev_v671 : (Cond.fieldLink RX21 20 "TextShellModel$Node" "data" "LTextShellModel$Bytes;") ∈ ev_W := ev_wm (a := 12) (i := 59) (r := ev_g12) rfl rfl
theorem ev_v672 : (Cond.methodLink RX22 1 objectInit) ∈ ev_W := ev_wm (a := 12) (i := 60) (r := ev_g12) rfl rfl
theorem ev_v673 : (Cond.methodLink RX23 1 objectInit) ∈ ev_W := ev_wm (a := 15) (i := 18) (r := ev_g15) rfl rfl
theorem ev_v674 : (Cond.methodLink RX25 3 objectInit) ∈ ev_W := ev_wm (a := 14) (i := 53) (r := ev_g14) rfl rfl
theorem ev_v675 : (Cond.fieldLink RX25 9 "TextShellModel$Reader" "house" "LTextShellModel;") ∈ ev_W := ev_wm (a := 14) (i := 54) (r := ev_g14) rfl rfl
theorem ev_v676 : (Cond.fieldLink RX25 15 "TextShellModel$Reader" "depth" "I") ∈ ev_W := ev_wm (a := 14) (i := 55) (r := ev_g14) rfl rfl
theorem ev_v677 : (Cond.fieldLink RX25 19 "TextShellModel$Reader" "inner" "I") ∈ ev_W := ev_wm (a := 14) (i := 56) (r := ev_g14) rfl rfl
theorem ev_v678 : (Cond.classLink RX25 22 RX19) ∈ ev_W := ev_wm (a := 14) (i := 57) (r := ev_g14) rfl rfl
theorem ev_v679 : (Cond.instantiable RX19 8) ∈ ev_W := ev_wm (a := 14) (i := 58) (r := ev_g14) rfl rfl
theorem ev_v680 : (Cond.initialized RX19) ∈ ev_W := ev_wm (a := 1) (i := 90) (r := ev_g1) rfl rfl
theorem ev_v681 : (Cond.code yX19_init cX19_init 1 none) ∈ ev_W := ev_wm (a := 14) (i := 59) (r := ev_g14) rfl rfl
theorem ev_v682 : (Cond.instanceMethod yX19_init) ∈ ev_W := ev_wm (a := 14) (i := 60) (r := ev_g14) rfl rfl
theorem ev_v683 : (Cond.fieldLink RX25 25 "TextShellModel$Reader" "in" "LTextShellModel$Input;") ∈ ev_W := ev_wm (a := 14) (i := 61) (r := ev_g14) rfl rfl
theorem ev_v684 : (Cond.fieldLink RX25 39 "TextShellModel$Reader" "limit" "LTextShellModel$Input;") ∈ ev_W := ev_wm (a := 14) (i := 62) (r := ev_g14) rfl rfl
theorem ev_v685 : (Cond.classLink RX25 251 RX27) ∈ ev_W := ev_wm (a := 15) (i := 19) (r := ev_g15) rfl rfl
theorem ev_v686 : (Cond.instantiable RX27 9) ∈ ev_W := ev_wm (a := 15) (i := 20) (r := ev_g15) rfl rfl
theorem ev_v687 : (Cond.initialized RX27) ∈ ev_W := ev_wm (a := 1) (i := 91) (r := ev_g1) rfl rfl
theorem ev_v688 : (Cond.code yX27_init cX27_init 1 none) ∈ ev_W := ev_wm (a := 15) (i := 21) (r := ev_g15) rfl rfl
theorem ev_v689 : (Cond.instanceMethod yX27_init) ∈ ev_W := ev_wm (a := 15) (i := 22) (r := ev_g15) rfl rfl
theorem ev_v690 : (Cond.fieldLink RX25 196 "TextShellModel$Reader" "word" "LTextShellModel$Word;") ∈ ev_W := ev_wm (a := 14) (i := 63) (r := ev_g14) rfl rfl
theorem ev_v691 : (Cond.fieldLink RX25 193 "TextShellModel$Reader" "tokenLine" "I") ∈ ev_W := ev_wm (a := 14) (i := 64) (r := ev_g14) rfl rfl
theorem ev_v692 : (Cond.fieldLink RX25 255 "TextShellModel$Reader" "tells" "Z") ∈ ev_W := ev_wm (a := 14) (i := 65) (r := ev_g14) rfl rfl
theorem ev_v693 : (Cond.fieldLink RX25 52 "TextShellModel$Reader" "rawDepth" "I") ∈ ev_W := ev_wm (a := 14) (i := 66) (r := ev_g14) rfl rfl
theorem ev_v694 : (Cond.fieldLink RX25 55 "TextShellModel$Reader" "rawIn" "LTextShellModel$Input;") ∈ ev_W := ev_wm (a := 14) (i := 67) (r := ev_g14) rfl rfl
theorem ev_v695 : (Cond.code yX25_parts cX25_parts 11 (some (.object "TextShellModel$Part"))) ∈ ev_W := ev_wm (a := 15) (i := 23) (r := ev_g15) rfl rfl
theorem ev_v696 : (Cond.methodLink RX25 140 yX25_parts) ∈ ev_W := ev_wm (a := 15) (i := 24) (r := ev_g15) rfl rfl
theorem ev_v697 : (Cond.instanceMethod yX25_parts) ∈ ev_W := ev_wm (a := 15) (i := 25) (r := ev_g15) rfl rfl
theorem ev_v698 : (Cond.selects RX25 yX25_parts yX25_parts) ∈ ev_W := ev_wm (a := 0) (i := 57) (r := ev_g0) rfl rfl
theorem ev_v699 : (Cond.code yX28_rowOf cX28_rowOf 4 (some (.array .byte))) ∈ ev_W := ev_wm (a := 15) (i := 26) (r := ev_g15) rfl rfl
theorem ev_v700 : (Cond.instanceMethod yX28_rowOf) ∈ ev_W := ev_wm (a := 15) (i := 27) (r := ev_g15) rfl rfl
theorem ev_v701 : (Cond.selects RX28 yX28_rowOf yX28_rowOf) ∈ ev_W := ev_wm (a := 0) (i := 58) (r := ev_g0) rfl rfl
theorem ev_v702 : (Cond.fieldLink RX25 190 "TextShellModel$Reader" "token" "I") ∈ ev_W := ev_wm (a := 14) (i := 68) (r := ev_g14) rfl rfl
theorem ev_v703 : (Cond.code yX25_plain cX25_plain 1 (some (.array .byte))) ∈ ev_W := ev_wm (a := 15) (i := 28) (r := ev_g15) rfl rfl
theorem ev_v704 : (Cond.methodLink RX25 262 yX25_plain) ∈ ev_W := ev_wm (a := 15) (i := 29) (r := ev_g15) rfl rfl
theorem ev_v705 : (Cond.instanceMethod yX25_plain) ∈ ev_W := ev_wm (a := 15) (i := 30) (r := ev_g15) rfl rfl
theorem ev_v706 : (Cond.selects RX25 yX25_plain yX25_plain) ∈ ev_W := ev_wm (a := 0) (i := 59) (r := ev_g0) rfl rfl
theorem ev_v707 : (Cond.code yX25_look cX25_look 1 (some .int)) ∈ ev_W := ev_wm (a := 14) (i := 69) (r := ev_g14) rfl rfl
theorem ev_v708 : (Cond.methodLink RX25 85 yX25_look) ∈ ev_W := ev_wm (a := 14) (i := 70) (r := ev_g14) rfl rfl
theorem ev_v709 : (Cond.instanceMethod yX25_look) ∈ ev_W := ev_wm (a := 14) (i := 71) (r := ev_g14) rfl rfl
theorem ev_v710 : (Cond.selects RX25 yX25_look yX25_look) ∈ ev_W := ev_wm (a := 0) (i := 60) (r := ev_g0) rfl rfl
theorem ev_v711 : (Cond.code yX28_isDigit cX28_isDigit 1 (some .boolean)) ∈ ev_W := ev_wm (a := 15) (i := 31) (r := ev_g15) rfl rfl
theorem ev_v712 : (Cond.static yX28_isDigit) ∈ ev_W := ev_wm (a := 15) (i := 32) (r := ev_g15) rfl rfl
theorem ev_v713 : (Cond.fieldLink RX25 203 "TextShellModel$Reader" "follows" "Z") ∈ ev_W := ev_wm (a := 14) (i := 72) (r := ev_g14) rfl rfl
theorem ev_v714 : (Cond.code yX25_isReserved cX25_isReserved 2 (some .boolean)) ∈ ev_W := ev_wm (a := 15) (i := 33) (r := ev_g15) rfl rfl
theorem ev_v715 : (Cond.methodLink RX25 314 yX25_isReserved) ∈ ev_W := ev_wm (a := 15) (i := 34) (r := ev_g15) rfl rfl
theorem ev_v716 : (Cond.instanceMethod yX25_isReserved) ∈ ev_W := ev_wm (a := 15) (i := 35) (r := ev_g15) rfl rfl
theorem ev_v717 : (Cond.selects RX25 yX25_isReserved yX25_isReserved) ∈ ev_W := ev_wm (a := 0) (i := 61) (r := ev_g0) rfl rfl
theorem ev_v718 : (Cond.methodLink RX25 324 yX26_find) ∈ ev_W := ev_wm (a := 15) (i := 36) (r := ev_g15) rfl rfl
theorem ev_v719 : (Cond.code yX25_isFree cX25_isFree 5 (some .boolean)) ∈ ev_W := ev_wm (a := 16) (i := 1) (r := ev_g16) rfl rfl
theorem ev_v720 : (Cond.methodLink RX25 335 yX25_isFree) ∈ ev_W := ev_wm (a := 16) (i := 2) (r := ev_g16) rfl rfl
theorem ev_v721 : (Cond.instanceMethod yX25_isFree) ∈ ev_W := ev_wm (a := 16) (i := 3) (r := ev_g16) rfl rfl
theorem ev_v722 : (Cond.selects RX25 yX25_isFree yX25_isFree) ∈ ev_W := ev_wm (a := 0) (i := 62) (r := ev_g0) rfl rfl
theorem ev_v723 : (Cond.fieldLink RX25 200 "TextShellModel$Reader" "tokenIn" "LTextShellModel$Input;") ∈ ev_W := ev_wm (a := 14) (i := 73) (r := ev_g14) rfl rfl
theorem ev_v724 : (Cond.methodLink RX25 206 yX25_next) ∈ ev_W := ev_wm (a := 15) (i := 37) (r := ev_g15) rfl rfl
theorem ev_v725 : (Cond.code yX28_is cX28_is 3 (some .boolean)) ∈ ev_W := ev_wm (a := 15) (i := 38) (r := ev_g15) rfl rfl
theorem ev_v726 : (Cond.static yX28_is) ∈ ev_W := ev_wm (a := 15) (i := 39) (r := ev_g15) rfl rfl
theorem ev_v727 : (Cond.code yX25_made cX25_made 3 (some (.object "TextShellModel$Part"))) ∈ ev_W := ev_wm (a := 15) (i := 40) (r := ev_g15) rfl rfl
theorem ev_v728 : (Cond.methodLink RX25 128 yX25_made) ∈ ev_W := ev_wm (a := 15) (i := 41) (r := ev_g15) rfl rfl
theorem ev_v729 : (Cond.instanceMethod yX25_made) ∈ ev_W := ev_wm (a := 15) (i := 42) (r := ev_g15) rfl rfl
theorem ev_v730 : (Cond.selects RX25 yX25_made yX25_made) ∈ ev_W := ev_wm (a := 0) (i := 63) (r := ev_g0) rfl rfl
theorem ev_v731 : (Cond.code yX25_begins cX25_begins 2 (some .boolean)) ∈ ev_W := ev_wm (a := 15) (i := 43) (r := ev_g15) rfl rfl
theorem ev_v732 : (Cond.methodLink RX25 272 yX25_begins) ∈ ev_W := ev_wm (a := 15) (i := 44) (r := ev_g15) rfl rfl
theorem ev_v733 : (Cond.instanceMethod yX25_begins) ∈ ev_W := ev_wm (a := 15) (i := 45) (r := ev_g15) rfl rfl
theorem ev_v734 : (Cond.selects RX25 yX25_begins yX25_begins) ∈ ev_W := ev_wm (a := 0) (i := 64) (r := ev_g0) rfl rfl
theorem ev_v735 : (Cond.code yX25_closes cX25_closes 2 (some .boolean)) ∈ ev_W := ev_wm (a := 15) (i := 46) (r := ev_g15) rfl rfl
theorem ev_v736 : (Cond.methodLink RX25 276 yX25_closes) ∈ ev_W := ev_wm (a := 15) (i := 47) (r := ev_g15) rfl rfl
theorem ev_v737 : (Cond.instanceMethod yX25_closes) ∈ ev_W := ev_wm (a := 15) (i := 48) (r := ev_g15) rfl rfl
theorem ev_v738 : (Cond.selects RX25 yX25_closes yX25_closes) ∈ ev_W := ev_wm (a := 0) (i := 65) (r := ev_g0) rfl rfl
theorem ev_v739 : (Cond.classLink RX25 75 RX23) ∈ ev_W := ev_wm (a := 15) (i := 49) (r := ev_g15) rfl rfl
theorem ev_v740 : (Cond.instantiable RX23 7) ∈ ev_W := ev_wm (a := 15) (i := 50) (r := ev_g15) rfl rfl
theorem ev_v741 : (Cond.initialized RX23) ∈ ev_W := ev_wm (a := 1) (i := 92) (r := ev_g1) rfl rfl
theorem ev_v742 : (Cond.code yX23_init cX23_init 1 none) ∈ ev_W := ev_wm (a := 15) (i := 51) (r := ev_g15) rfl rfl
theorem ev_v743 : (Cond.instanceMethod yX23_init) ∈ ev_W := ev_wm (a := 15) (i := 52) (r := ev_g15) rfl rfl
theorem ev_v744 : (Cond.code yX25_isBlank cX25_isBlank 2 (some .boolean)) ∈ ev_W := ev_wm (a := 15) (i := 53) (r := ev_g15) rfl rfl
theorem ev_v745 : (Cond.methodLink RX25 226 yX25_isBlank) ∈ ev_W := ev_wm (a := 14) (i := 74) (r := ev_g14) rfl rfl
theorem ev_v746 : (Cond.instanceMethod yX25_isBlank) ∈ ev_W := ev_wm (a := 14) (i := 75) (r := ev_g14) rfl rfl
theorem ev_v747 : (Cond.selects RX25 yX25_isBlank yX25_isBlank) ∈ ev_W := ev_wm (a := 0) (i := 66) (r := ev_g0) rfl rfl
theorem ev_v748 : (Cond.code yX25_take cX25_take 2 (some .int)) ∈ ev_W := ev_wm (a := 15) (i := 54) (r := ev_g15) rfl rfl
theorem ev_v749 : (Cond.methodLink RX25 96 yX25_take) ∈ ev_W := ev_wm (a := 15) (i := 55) (r := ev_g15) rfl rfl
theorem ev_v750 : (Cond.instanceMethod yX25_take) ∈ ev_W := ev_wm (a := 15) (i := 56) (r := ev_g15) rfl rfl
theorem ev_v751 : (Cond.selects RX25 yX25_take yX25_take) ∈ ev_W := ev_wm (a := 0) (i := 67) (r := ev_g0) rfl rfl
theorem ev_v752 : (Cond.code yX25_line cX25_line 1 (some .int)) ∈ ev_W := ev_wm (a := 15) (i := 57) (r := ev_g15) rfl rfl
theorem ev_v753 : (Cond.methodLink RX25 68 yX25_line) ∈ ev_W := ev_wm (a := 15) (i := 58) (r := ev_g15) rfl rfl
theorem ev_v754 : (Cond.instanceMethod yX25_line) ∈ ev_W := ev_wm (a := 15) (i := 59) (r := ev_g15) rfl rfl
theorem ev_v755 : (Cond.selects RX25 yX25_line yX25_line) ∈ ev_W := ev_wm (a := 0) (i := 68) (r := ev_g0) rfl rfl
theorem ev_v756 : (Cond.code yX25_aWord cX25_aWord 4 none) ∈ ev_W := ev_wm (a := 15) (i := 60) (r := ev_g15) rfl rfl
theorem ev_v757 : (Cond.methodLink RX25 244 yX25_aWord) ∈ ev_W := ev_wm (a := 15) (i := 61) (r := ev_g15) rfl rfl
theorem ev_v758 : (Cond.instanceMethod yX25_aWord) ∈ ev_W := ev_wm (a := 15) (i := 62) (r := ev_g15) rfl rfl
theorem ev_v759 : (Cond.selects RX25 yX25_aWord yX25_aWord) ∈ ev_W := ev_wm (a := 0) (i := 69) (r := ev_g0) rfl rfl
theorem ev_v760 : (Cond.code yX25_aliases cX25_aliases 7 none) ∈ ev_W := ev_wm (a := 15) (i := 63) (r := ev_g15) rfl rfl
theorem ev_v761 : (Cond.methodLink RX25 247 yX25_aliases) ∈ ev_W := ev_wm (a := 15) (i := 64) (r := ev_g15) rfl rfl
theorem ev_v762 : (Cond.instanceMethod yX25_aliases) ∈ ev_W := ev_wm (a := 15) (i := 65) (r := ev_g15) rfl rfl
theorem ev_v763 : (Cond.selects RX25 yX25_aliases yX25_aliases) ∈ ev_W := ev_wm (a := 0) (i := 70) (r := ev_g0) rfl rfl
theorem ev_v764 : (Cond.code yX25_ends cX25_ends 2 (some .boolean)) ∈ ev_W := ev_wm (a := 15) (i := 66) (r := ev_g15) rfl rfl
theorem ev_v765 : (Cond.methodLink RX25 92 yX25_ends) ∈ ev_W := ev_wm (a := 15) (i := 67) (r := ev_g15) rfl rfl
theorem ev_v766 : (Cond.instanceMethod yX25_ends) ∈ ev_W := ev_wm (a := 15) (i := 68) (r := ev_g15) rfl rfl
theorem ev_v767 : (Cond.selects RX25 yX25_ends yX25_ends) ∈ ev_W := ev_wm (a := 0) (i := 71) (r := ev_g0) rfl rfl
theorem ev_v768 : (Cond.methodLink RX25 62 yX14_add) ∈ ev_W := ev_wm (a := 15) (i := 69) (r := ev_g15) rfl rfl
theorem ev_v769 : (Cond.code yX25_flushed cX25_flushed 4 (some (.object "TextShellModel$Part"))) ∈ ev_W := ev_wm (a := 17) (i := 0) (r := ev_g17) rfl rfl
theorem ev_v770 : (Cond.methodLink RX25 110 yX25_flushed) ∈ ev_W := ev_wm (a := 17) (i := 1) (r := ev_g17) rfl rfl
theorem ev_v771 : (Cond.instanceMethod yX25_flushed) ∈ ev_W := ev_wm (a := 17) (i := 2) (r := ev_g17) rfl rfl
theorem ev_v772 : (Cond.selects RX25 yX25_flushed yX25_flushed) ∈ ev_W := ev_wm (a := 0) (i := 72) (r := ev_g0) rfl rfl
theorem ev_v773 : (Cond.code yX25_linked cX25_linked 3 (some (.object "TextShellModel$Part"))) ∈ ev_W := ev_wm (a := 17) (i := 3) (r := ev_g17) rfl rfl
theorem ev_v774 : (Cond.methodLink RX25 114 yX25_linked) ∈ ev_W := ev_wm (a := 17) (i := 4) (r := ev_g17) rfl rfl
theorem ev_v775 : (Cond.instanceMethod yX25_linked) ∈ ev_W := ev_wm (a := 17) (i := 5) (r := ev_g17) rfl rfl
theorem ev_v776 : (Cond.selects RX25 yX25_linked yX25_linked) ∈ ev_W := ev_wm (a := 0) (i := 73) (r := ev_g0) rfl rfl
theorem ev_v777 : (Cond.code yX25_settle cX25_settle 1 none) ∈ ev_W := ev_wm (a := 15) (i := 70) (r := ev_g15) rfl rfl
theorem ev_v778 : (Cond.methodLink RX25 397 yX25_settle) ∈ ev_W := ev_wm (a := 15) (i := 71) (r := ev_g15) rfl rfl
theorem ev_v779 : (Cond.instanceMethod yX25_settle) ∈ ev_W := ev_wm (a := 15) (i := 72) (r := ev_g15) rfl rfl
theorem ev_v780 : (Cond.selects RX25 yX25_settle yX25_settle) ∈ ev_W := ev_wm (a := 0) (i := 74) (r := ev_g0) rfl rfl
theorem ev_v781 : (Cond.methodLink RX26 1 objectInit) ∈ ev_W := ev_wm (a := 12) (i := 61) (r := ev_g12) rfl rfl
theorem ev_v782 : (Cond.classLink RX26 7 RJx4a65c) ∈ ev_W := ev_wm (a := 12) (i := 62) (r := ev_g12) rfl rfl
theorem ev_v783 : (Cond.methodLink RX26 9 yJx4a65c_init_da8c8) ∈ ev_W := ev_wm (a := 12) (i := 63) (r := ev_g12) rfl rfl
theorem ev_v784 : (Cond.fieldLink RX26 10 "TextShellModel$Table" "all" "Ljava/util/ArrayList;") ∈ ev_W := ev_wm (a := 12) (i := 64) (r := ev_g12) rfl rfl
theorem ev_v785 : (Cond.classLink RX26 16 RX18) ∈ ev_W := ev_wm (a := 12) (i := 65) (r := ev_g12) rfl rfl
theorem ev_v786 : (Cond.fieldLink RX26 18 "TextShellModel$Table" "heads" "[LTextShellModel$Entry;") ∈ ev_W := ev_wm (a := 12) (i := 66) (r := ev_g12) rfl rfl
theorem ev_v787 : (Cond.fieldLink RX26 45 "TextShellModel$Table" "many" "I") ∈ ev_W := ev_wm (a := 12) (i := 67) (r := ev_g12) rfl rfl
theorem ev_v788 : (Cond.fieldLink RX26 49 "TextShellModel$Table" "fixed" "I") ∈ ev_W := ev_wm (a := 12) (i := 68) (r := ev_g12) rfl rfl
theorem ev_v789 : (Cond.code yX26_chain cX26_chain 3 (some .int)) ∈ ev_W := ev_wm (a := 15) (i := 73) (r := ev_g15) rfl rfl
theorem ev_v790 : (Cond.methodLink RX26 22 yX26_chain) ∈ ev_W := ev_wm (a := 15) (i := 74) (r := ev_g15) rfl rfl
theorem ev_v791 : (Cond.static yX26_chain) ∈ ev_W := ev_wm (a := 15) (i := 75) (r := ev_g15) rfl rfl
theorem ev_v792 : (Cond.code yX28_same cX28_same 3 (some .boolean)) ∈ ev_W := ev_wm (a := 15) (i := 76) (r := ev_g15) rfl rfl
theorem ev_v793 : (Cond.static yX28_same) ∈ ev_W := ev_wm (a := 15) (i := 77) (r := ev_g15) rfl rfl
theorem ev_v794 : (Cond.instantiable RX18 8) ∈ ev_W := ev_wm (a := 15) (i := 78) (r := ev_g15) rfl rfl
theorem ev_v795 : (Cond.initialized RX18) ∈ ev_W := ev_wm (a := 1) (i := 93) (r := ev_g1) rfl rfl
theorem ev_v796 : (Cond.code yX18_init cX18_init 1 none) ∈ ev_W := ev_wm (a := 16) (i := 4) (r := ev_g16) rfl rfl
theorem ev_v797 : (Cond.instanceMethod yX18_init) ∈ ev_W := ev_wm (a := 16) (i := 5) (r := ev_g16) rfl rfl
theorem ev_v798 : (Cond.methodLink RX27 3 objectInit) ∈ ev_W := ev_wm (a := 15) (i := 79) (r := ev_g15) rfl rfl
theorem ev_v799 : (Cond.fieldLink RX27 9 "TextShellModel$Word" "number" "I") ∈ ev_W := ev_wm (a := 15) (i := 80) (r := ev_g15) rfl rfl
theorem ev_v800 : (Cond.code yJ0_isLatin1_aae02 cJ0_isLatin1_aae02 1 (some .boolean)) ∈ ev_W := ev_wm (a := 1) (i := 94) (r := ev_g1) rfl rfl
theorem ev_v801 : (Cond.methodLink RJ0 492 yJ0_isLatin1_aae02) ∈ ev_W := ev_wm (a := 1) (i := 95) (r := ev_g1) rfl rfl
theorem ev_v802 : (Cond.instanceMethod yJ0_isLatin1_aae02) ∈ ev_W := ev_wm (a := 1) (i := 96) (r := ev_g1) rfl rfl
theorem ev_v803 : (Cond.selects RJ0 yJ0_isLatin1_aae02 yJ0_isLatin1_aae02) ∈ ev_W := ev_wm (a := 1) (i := 97) (r := ev_g1) rfl rfl
theorem ev_v804 : (Cond.fieldLink RJ0 9 "java/lang/String" "value" "[B") ∈ ev_W := ev_wm (a := 19) (i := 10) (r := ev_g19) rfl rfl
theorem ev_v805 : (Cond.code yJ1_charAt_3b067 cJ1_charAt_3b067 2 (some .char)) ∈ ev_W := ev_wm (a := 1) (i := 98) (r := ev_g1) rfl rfl
theorem ev_v806 : (Cond.initialized RJ1) ∈ ev_W := ev_wm (a := 1) (i := 99) (r := ev_g1) rfl rfl
theorem ev_v807 : (Cond.methodLink RJ0 495 yJ1_charAt_3b067) ∈ ev_W := ev_wm (a := 1) (i := 100) (r := ev_g1) rfl rfl
theorem ev_v808 : (Cond.static yJ1_charAt_3b067) ∈ ev_W := ev_wm (a := 1) (i := 101) (r := ev_g1) rfl rfl
theorem ev_v809 : (Cond.fieldLink RJ0 1053 "jdk/internal/util/Preconditions" "SIOOBE_FORMATTER" "Ljava/util/function/BiFunction;") ∈ ev_W := ev_wm (a := 1) (i := 102) (r := ev_g1) rfl rfl
theorem ev_v810 : (Cond.code yJ3_checkIndex_8e157 cJ3_checkIndex_8e157 3 (some .int)) ∈ ev_W := ev_wm (a := 1) (i := 103) (r := ev_g1) rfl rfl
theorem ev_v811 : (Cond.initialized RJ3) ∈ ev_W := ev_wm (a := 1) (i := 104) (r := ev_g1) rfl rfl
theorem ev_v812 : (Cond.methodLink RJ0 1059 yJ3_checkIndex_8e157) ∈ ev_W := ev_wm (a := 1) (i := 105) (r := ev_g1) rfl rfl
theorem ev_v813 : (Cond.static yJ3_checkIndex_8e157) ∈ ev_W := ev_wm (a := 1) (i := 106) (r := ev_g1) rfl rfl
theorem ev_v814 : (Cond.fieldLink RJ0 38 "java/lang/String" "COMPACT_STRINGS" "Z") ∈ ev_W := ev_wm (a := 1) (i := 107) (r := ev_g1) rfl rfl
theorem ev_v815 : (Cond.fieldLink RJ0 15 "java/lang/String" "coder" "B") ∈ ev_W := ev_wm (a := 19) (i := 11) (r := ev_g19) rfl rfl
theorem ev_v816 : (Cond.code yJ0_coder_7d493 cJ0_coder_7d493 1 (some .byte)) ∈ ev_W := ev_wm (a := 1) (i := 108) (r := ev_g1) rfl rfl
theorem ev_v817 : (Cond.methodLink RJ0 335 yJ0_coder_7d493) ∈ ev_W := ev_wm (a := 1) (i := 109) (r := ev_g1) rfl rfl
theorem ev_v818 : (Cond.instanceMethod yJ0_coder_7d493) ∈ ev_W := ev_wm (a := 1) (i := 110) (r := ev_g1) rfl rfl
theorem ev_v819 : (Cond.selects RJ0 yJ0_coder_7d493 yJ0_coder_7d493) ∈ ev_W := ev_wm (a := 1) (i := 111) (r := ev_g1) rfl rfl
theorem ev_v820 : (Cond.code yJ0_checkIndex_df160 cJ0_checkIndex_df160 2 none) ∈ ev_W := ev_wm (a := 1) (i := 112) (r := ev_g1) rfl rfl
theorem ev_v821 : (Cond.methodLink RJ1 9 yJ0_checkIndex_df160) ∈ ev_W := ev_wm (a := 1) (i := 113) (r := ev_g1) rfl rfl
theorem ev_v822 : (Cond.static yJ0_checkIndex_df160) ∈ ev_W := ev_wm (a := 1) (i := 114) (r := ev_g1) rfl rfl
theorem ev_v823 : (Cond.methodLink RJxa1e45 1 objectInit) ∈ ev_W := ev_wm (a := 12) (i := 69) (r := ev_g12) rfl rfl
theorem ev_v824 : (Cond.code yJxa1e45_init_da8c8 cJxa1e45_init_da8c8 1 none) ∈ ev_W := ev_wm (a := 12) (i := 70) (r := ev_g12) rfl rfl
theorem ev_v825 : (Cond.initialized RJxa1e45) ∈ ev_W := ev_wm (a := 1) (i := 115) (r := ev_g1) rfl rfl
theorem ev_v826 : (Cond.methodLink RJxc12de 1 yJxa1e45_init_da8c8) ∈ ev_W := ev_wm (a := 12) (i := 71) (r := ev_g12) rfl rfl
theorem ev_v827 : (Cond.instanceMethod yJxa1e45_init_da8c8) ∈ ev_W := ev_wm (a := 12) (i := 72) (r := ev_g12) rfl rfl
theorem ev_v828 : (Cond.fieldLink RJxc12de 7 "java/util/AbstractList" "modCount" "I") ∈ ev_W := ev_wm (a := 12) (i := 73) (r := ev_g12) rfl rfl
theorem ev_v829 : (Cond.code yJxc12de_init_da8c8 cJxc12de_init_da8c8 1 none) ∈ ev_W := ev_wm (a := 12) (i := 74) (r := ev_g12) rfl rfl
theorem ev_v830 : (Cond.initialized RJxc12de) ∈ ev_W := ev_wm (a := 1) (i := 116) (r := ev_g1) rfl rfl
theorem ev_v831 : (Cond.methodLink RJx4a65c 1 yJxc12de_init_da8c8) ∈ ev_W := ev_wm (a := 12) (i := 75) (r := ev_g12) rfl rfl
theorem ev_v832 : (Cond.instanceMethod yJxc12de_init_da8c8) ∈ ev_W := ev_wm (a := 12) (i := 76) (r := ev_g12) rfl rfl
theorem ev_v833 : (Cond.fieldLink RJx4a65c 39 "java/util/ArrayList" "DEFAULTCAPACITY_EMPTY_ELEMENTDATA" "[Ljava/lang/Object;") ∈ ev_W := ev_wm (a := 12) (i := 77) (r := ev_g12) rfl rfl
theorem ev_v834 : (Cond.fieldLink RJx4a65c 9 "java/util/ArrayList" "elementData" "[Ljava/lang/Object;") ∈ ev_W := ev_wm (a := 12) (i := 78) (r := ev_g12) rfl rfl
theorem ev_v835 : (Cond.lays RX6 "TextShell$Row" "signs" "[C") ∈ ev_W := ev_wm (a := 1) (i := 117) (r := ev_g1) rfl rfl
theorem ev_v836 : (Cond.lays RX6 "TextShell$Row" "length" "I") ∈ ev_W := ev_wm (a := 1) (i := 118) (r := ev_g1) rfl rfl
theorem ev_v837 : (Cond.laysFinal RX12 "TextShell" "tape" "LTextShell$Row;") ∈ ev_W := ev_wm (a := 4) (i := 65) (r := ev_g4) rfl rfl
theorem ev_v838 : (Cond.laysFinal RX12 "TextShell" "printed" "LTextShell$Row;") ∈ ev_W := ev_wm (a := 4) (i := 66) (r := ev_g4) rfl rfl
theorem ev_v839 : (Cond.laysFinal RX12 "TextShell" "answer" "LTextShell$Row;") ∈ ev_W := ev_wm (a := 4) (i := 67) (r := ev_g4) rfl rfl
theorem ev_v840 : (Cond.laysFinal RX12 "TextShell" "memory" "LTextShell$Memory;") ∈ ev_W := ev_wm (a := 4) (i := 68) (r := ev_g4) rfl rfl
theorem ev_v841 : (Cond.laysFinal RX12 "TextShell" "reader" "LTextShell$Reader;") ∈ ev_W := ev_wm (a := 4) (i := 69) (r := ev_g4) rfl rfl
theorem ev_v842 : (Cond.laysFinal RX12 "TextShell" "shell" "LTextShell$Shell;") ∈ ev_W := ev_wm (a := 4) (i := 70) (r := ev_g4) rfl rfl
theorem ev_v843 : (Cond.lays RX12 "TextShell" "script" "LTextShell$Tree;") ∈ ev_W := ev_wm (a := 4) (i := 71) (r := ev_g4) rfl rfl
theorem ev_v844 : (Cond.lays RX12 "TextShell" "commands" "I") ∈ ev_W := ev_wm (a := 4) (i := 72) (r := ev_g4) rfl rfl
theorem ev_v845 : (Cond.lays RX12 "TextShell" "hasPrint" "Z") ∈ ev_W := ev_wm (a := 4) (i := 73) (r := ev_g4) rfl rfl
theorem ev_v846 : (Cond.lays RX12 "TextShell" "hasAnswer" "Z") ∈ ev_W := ev_wm (a := 4) (i := 74) (r := ev_g4) rfl rfl
theorem ev_v847 : (Cond.laysFinal RX2 "TextShell$Memory" "buckets" "[LTextShell$Name;") ∈ ev_W := ev_wm (a := 2) (i := 53) (r := ev_g2) rfl rfl
theorem ev_v848 : (Cond.lays RX2 "TextShell$Memory" "bucket" "I") ∈ ev_W := ev_wm (a := 2) (i := 54) (r := ev_g2) rfl rfl
theorem ev_v849 : (Cond.lays RX2 "TextShell$Memory" "names" "[LTextShell$Name;") ∈ ev_W := ev_wm (a := 2) (i := 55) (r := ev_g2) rfl rfl
theorem ev_v850 : (Cond.lays RX2 "TextShell$Memory" "size" "I") ∈ ev_W := ev_wm (a := 2) (i := 56) (r := ev_g2) rfl rfl
theorem ev_v851 : (Cond.lays RX2 "TextShell$Memory" "log" "[LTextShell$Name;") ∈ ev_W := ev_wm (a := 2) (i := 57) (r := ev_g2) rfl rfl
theorem ev_v852 : (Cond.lays RX2 "TextShell$Memory" "logged" "I") ∈ ev_W := ev_wm (a := 2) (i := 58) (r := ev_g2) rfl rfl
theorem ev_v853 : (Cond.lays RX2 "TextShell$Memory" "subshells" "I") ∈ ev_W := ev_wm (a := 2) (i := 59) (r := ev_g2) rfl rfl
theorem ev_v854 : (Cond.laysFinal RX2 "TextShell$Memory" "saves" "[I") ∈ ev_W := ev_wm (a := 2) (i := 60) (r := ev_g2) rfl rfl
theorem ev_v855 : (Cond.laysFinal RX2 "TextShell$Memory" "places" "[LTextShell$Node;") ∈ ev_W := ev_wm (a := 2) (i := 61) (r := ev_g2) rfl rfl
theorem ev_v856 : (Cond.lays RX2 "TextShell$Memory" "pool" "[LTextShell$Row;") ∈ ev_W := ev_wm (a := 2) (i := 62) (r := ev_g2) rfl rfl
theorem ev_v857 : (Cond.lays RX2 "TextShell$Memory" "base" "I") ∈ ev_W := ev_wm (a := 2) (i := 63) (r := ev_g2) rfl rfl
theorem ev_v858 : (Cond.lays RX2 "TextShell$Memory" "parameters" "I") ∈ ev_W := ev_wm (a := 2) (i := 64) (r := ev_g2) rfl rfl
theorem ev_v859 : (Cond.lays RX2 "TextShell$Memory" "floor" "I") ∈ ev_W := ev_wm (a := 2) (i := 65) (r := ev_g2) rfl rfl
theorem ev_v860 : (Cond.lays RX2 "TextShell$Memory" "options" "I") ∈ ev_W := ev_wm (a := 2) (i := 66) (r := ev_g2) rfl rfl
theorem ev_v861 : (Cond.lays RX2 "TextShell$Memory" "loops" "I") ∈ ev_W := ev_wm (a := 2) (i := 67) (r := ev_g2) rfl rfl
theorem ev_v862 : (Cond.lays RX2 "TextShell$Memory" "calls" "I") ∈ ev_W := ev_wm (a := 2) (i := 68) (r := ev_g2) rfl rfl
theorem ev_v863 : (Cond.laysFinal RX2 "TextShell$Memory" "root" "LTextShell$Node;") ∈ ev_W := ev_wm (a := 2) (i := 69) (r := ev_g2) rfl rfl
theorem ev_v864 : (Cond.lays RX2 "TextShell$Memory" "here" "LTextShell$Node;") ∈ ev_W := ev_wm (a := 2) (i := 70) (r := ev_g2) rfl rfl
theorem ev_v865 : (Cond.laysFinal RX2 "TextShell$Memory" "separators" "LTextShell$Name;") ∈ ev_W := ev_wm (a := 2) (i := 71) (r := ev_g2) rfl rfl
theorem ev_v866 : (Cond.laysFinal RX2 "TextShell$Memory" "home" "LTextShell$Name;") ∈ ev_W := ev_wm (a := 2) (i := 72) (r := ev_g2) rfl rfl
theorem ev_v867 : (Cond.laysFinal RX2 "TextShell$Memory" "nothing" "LTextShell$Row;") ∈ ev_W := ev_wm (a := 2) (i := 73) (r := ev_g2) rfl rfl
theorem ev_v868 : (Cond.laysFinal RX5 "TextShell$Reader" "memory" "LTextShell$Memory;") ∈ ev_W := ev_wm (a := 3) (i := 58) (r := ev_g3) rfl rfl
theorem ev_v869 : (Cond.lays RX5 "TextShell$Reader" "frames" "[LTextShell$Frame;") ∈ ev_W := ev_wm (a := 3) (i := 59) (r := ev_g3) rfl rfl
theorem ev_v870 : (Cond.lays RX5 "TextShell$Reader" "depth" "I") ∈ ev_W := ev_wm (a := 3) (i := 60) (r := ev_g3) rfl rfl
theorem ev_v871 : (Cond.lays RX5 "TextShell$Reader" "in" "LTextShell$Stream;") ∈ ev_W := ev_wm (a := 3) (i := 61) (r := ev_g3) rfl rfl
theorem ev_v872 : (Cond.lays RX5 "TextShell$Reader" "code" "[I") ∈ ev_W := ev_wm (a := 3) (i := 62) (r := ev_g3) rfl rfl
theorem ev_v873 : (Cond.lays RX5 "TextShell$Reader" "codes" "I") ∈ ev_W := ev_wm (a := 3) (i := 63) (r := ev_g3) rfl rfl
theorem ev_v874 : (Cond.lays RX5 "TextShell$Reader" "scripts" "[LTextShell$Tree;") ∈ ev_W := ev_wm (a := 3) (i := 64) (r := ev_g3) rfl rfl
theorem ev_v875 : (Cond.lays RX5 "TextShell$Reader" "scriptCount" "I") ∈ ev_W := ev_wm (a := 3) (i := 65) (r := ev_g3) rfl rfl
theorem ev_v876 : (Cond.laysFinal RX5 "TextShell$Reader" "spelled" "LTextShell$Row;") ∈ ev_W := ev_wm (a := 3) (i := 66) (r := ev_g3) rfl rfl
theorem ev_v877 : (Cond.lays RX5 "TextShell$Reader" "fault" "I") ∈ ev_W := ev_wm (a := 3) (i := 67) (r := ev_g3) rfl rfl
theorem ev_v878 : (Cond.lays RX5 "TextShell$Reader" "faultLine" "I") ∈ ev_W := ev_wm (a := 3) (i := 68) (r := ev_g3) rfl rfl
theorem ev_v879 : (Cond.lays RX5 "TextShell$Reader" "nested" "I") ∈ ev_W := ev_wm (a := 3) (i := 69) (r := ev_g3) rfl rfl
theorem ev_v880 : (Cond.lays RX5 "TextShell$Reader" "inner" "I") ∈ ev_W := ev_wm (a := 3) (i := 70) (r := ev_g3) rfl rfl
theorem ev_v881 : (Cond.lays RX5 "TextShell$Reader" "commands" "I") ∈ ev_W := ev_wm (a := 3) (i := 71) (r := ev_g3) rfl rfl
theorem ev_v882 : (Cond.lays RX5 "TextShell$Reader" "source" "I") ∈ ev_W := ev_wm (a := 3) (i := 72) (r := ev_g3) rfl rfl
theorem ev_v883 : (Cond.lays RX5 "TextShell$Reader" "due" "I") ∈ ev_W := ev_wm (a := 3) (i := 73) (r := ev_g3) rfl rfl
theorem ev_v884 : (Cond.lays RX5 "TextShell$Reader" "token" "I") ∈ ev_W := ev_wm (a := 3) (i := 74) (r := ev_g3) rfl rfl
theorem ev_v885 : (Cond.lays RX5 "TextShell$Reader" "tokenLine" "I") ∈ ev_W := ev_wm (a := 3) (i := 75) (r := ev_g3) rfl rfl
theorem ev_v886 : (Cond.lays RX5 "TextShell$Reader" "tokenFollows" "Z") ∈ ev_W := ev_wm (a := 3) (i := 76) (r := ev_g3) rfl rfl
theorem ev_v887 : (Cond.lays RX5 "TextShell$Reader" "reserved" "I") ∈ ev_W := ev_wm (a := 3) (i := 77) (r := ev_g3) rfl rfl
theorem ev_v888 : (Cond.lays RX5 "TextShell$Reader" "word" "LTextShell$Tree;") ∈ ev_W := ev_wm (a := 3) (i := 78) (r := ev_g3) rfl rfl
theorem ev_v889 : (Cond.lays RX5 "TextShell$Reader" "script" "LTextShell$Tree;") ∈ ev_W := ev_wm (a := 3) (i := 79) (r := ev_g3) rfl rfl
theorem ev_v890 : (Cond.laysFinal RX7 "TextShell$Shell" "memory" "LTextShell$Memory;") ∈ ev_W := ev_wm (a := 3) (i := 80) (r := ev_g3) rfl rfl
theorem ev_v891 : (Cond.laysFinal RX7 "TextShell$Shell" "reader" "LTextShell$Reader;") ∈ ev_W := ev_wm (a := 3) (i := 81) (r := ev_g3) rfl rfl
theorem ev_v892 : (Cond.lays RX7 "TextShell$Shell" "expander" "LTextShell$Expander;") ∈ ev_W := ev_wm (a := 3) (i := 82) (r := ev_g3) rfl rfl
theorem ev_v893 : (Cond.lays RX7 "TextShell$Shell" "tools" "LTextShell$Tools;") ∈ ev_W := ev_wm (a := 3) (i := 83) (r := ev_g3) rfl rfl
theorem ev_v894 : (Cond.laysFinal RX7 "TextShell$Shell" "base" "[LTextShell$Stream;") ∈ ev_W := ev_wm (a := 3) (i := 84) (r := ev_g3) rfl rfl
theorem ev_v895 : (Cond.laysFinal RX7 "TextShell$Shell" "open" "[LTextShell$Stream;") ∈ ev_W := ev_wm (a := 3) (i := 85) (r := ev_g3) rfl rfl
theorem ev_v896 : (Cond.laysFinal RX7 "TextShell$Shell" "closed" "LTextShell$Stream;") ∈ ev_W := ev_wm (a := 3) (i := 86) (r := ev_g3) rfl rfl
theorem ev_v897 : (Cond.lays RX7 "TextShell$Shell" "savedStreams" "[LTextShell$Stream;") ∈ ev_W := ev_wm (a := 3) (i := 87) (r := ev_g3) rfl rfl
theorem ev_v898 : (Cond.lays RX7 "TextShell$Shell" "savedNumbers" "[I") ∈ ev_W := ev_wm (a := 3) (i := 88) (r := ev_g3) rfl rfl
theorem ev_v899 : (Cond.lays RX7 "TextShell$Shell" "redirected" "I") ∈ ev_W := ev_wm (a := 3) (i := 89) (r := ev_g3) rfl rfl
theorem ev_v900 : (Cond.lays RX7 "TextShell$Shell" "lentNames" "[LTextShell$Name;") ∈ ev_W := ev_wm (a := 3) (i := 90) (r := ev_g3) rfl rfl
theorem ev_v901 : (Cond.lays RX7 "TextShell$Shell" "lentValues" "[LTextShell$Row;") ∈ ev_W := ev_wm (a := 3) (i := 91) (r := ev_g3) rfl rfl
theorem ev_v902 : (Cond.lays RX7 "TextShell$Shell" "lent" "I") ∈ ev_W := ev_wm (a := 3) (i := 92) (r := ev_g3) rfl rfl
theorem ev_v903 : (Cond.lays RX7 "TextShell$Shell" "status" "I") ∈ ev_W := ev_wm (a := 3) (i := 93) (r := ev_g3) rfl rfl
theorem ev_v904 : (Cond.lays RX7 "TextShell$Shell" "signal" "I") ∈ ev_W := ev_wm (a := 3) (i := 94) (r := ev_g3) rfl rfl
theorem ev_v905 : (Cond.lays RX7 "TextShell$Shell" "leaving" "I") ∈ ev_W := ev_wm (a := 3) (i := 95) (r := ev_g3) rfl rfl
theorem ev_v906 : (Cond.lays RX7 "TextShell$Shell" "level" "I") ∈ ev_W := ev_wm (a := 3) (i := 96) (r := ev_g3) rfl rfl
theorem ev_v907 : (Cond.lays RX7 "TextShell$Shell" "shields" "I") ∈ ev_W := ev_wm (a := 3) (i := 97) (r := ev_g3) rfl rfl
theorem ev_v908 : (Cond.lays RX7 "TextShell$Shell" "work" "I") ∈ ev_W := ev_wm (a := 3) (i := 98) (r := ev_g3) rfl rfl
theorem ev_v909 : (Cond.lays RX7 "TextShell$Shell" "simples" "I") ∈ ev_W := ev_wm (a := 3) (i := 99) (r := ev_g3) rfl rfl
theorem ev_v910 : (Cond.lays RX7 "TextShell$Shell" "most" "I") ∈ ev_W := ev_wm (a := 3) (i := 100) (r := ev_g3) rfl rfl
theorem ev_v911 : (Cond.lays RX7 "TextShell$Shell" "halted" "I") ∈ ev_W := ev_wm (a := 3) (i := 101) (r := ev_g3) rfl rfl
theorem ev_v912 : (Cond.lays RX7 "TextShell$Shell" "substituted" "I") ∈ ev_W := ev_wm (a := 3) (i := 102) (r := ev_g3) rfl rfl
theorem ev_v913 : (Cond.laysFinal RX7 "TextShell$Shell" "captures" "[LTextShell$Stream;") ∈ ev_W := ev_wm (a := 3) (i := 103) (r := ev_g3) rfl rfl
theorem ev_v914 : (Cond.laysFinal RX0 "TextShell$Expander" "memory" "LTextShell$Memory;") ∈ ev_W := ev_wm (a := 4) (i := 75) (r := ev_g4) rfl rfl
theorem ev_v915 : (Cond.laysFinal RX0 "TextShell$Expander" "reader" "LTextShell$Reader;") ∈ ev_W := ev_wm (a := 4) (i := 76) (r := ev_g4) rfl rfl
theorem ev_v916 : (Cond.laysFinal RX0 "TextShell$Expander" "shell" "LTextShell$Shell;") ∈ ev_W := ev_wm (a := 4) (i := 77) (r := ev_g4) rfl rfl
theorem ev_v917 : (Cond.laysFinal RX0 "TextShell$Expander" "sum" "LTextShell$Sum;") ∈ ev_W := ev_wm (a := 4) (i := 78) (r := ev_g4) rfl rfl
theorem ev_v918 : (Cond.lays RX0 "TextShell$Expander" "items" "[I") ∈ ev_W := ev_wm (a := 4) (i := 79) (r := ev_g4) rfl rfl
theorem ev_v919 : (Cond.lays RX0 "TextShell$Expander" "top" "I") ∈ ev_W := ev_wm (a := 4) (i := 80) (r := ev_g4) rfl rfl
theorem ev_v920 : (Cond.lays RX0 "TextShell$Expander" "signs" "I") ∈ ev_W := ev_wm (a := 4) (i := 81) (r := ev_g4) rfl rfl
theorem ev_v921 : (Cond.lays RX0 "TextShell$Expander" "fields" "[LTextShell$Row;") ∈ ev_W := ev_wm (a := 4) (i := 82) (r := ev_g4) rfl rfl
theorem ev_v922 : (Cond.lays RX0 "TextShell$Expander" "fieldTop" "I") ∈ ev_W := ev_wm (a := 4) (i := 83) (r := ev_g4) rfl rfl
theorem ev_v923 : (Cond.laysFinal RX0 "TextShell$Expander" "separators" "[I") ∈ ev_W := ev_wm (a := 4) (i := 84) (r := ev_g4) rfl rfl
theorem ev_v924 : (Cond.lays RX0 "TextShell$Expander" "separatorsOf" "LTextShell$Row;") ∈ ev_W := ev_wm (a := 4) (i := 85) (r := ev_g4) rfl rfl
theorem ev_v925 : (Cond.laysFinal RX0 "TextShell$Expander" "scratch" "LTextShell$Row;") ∈ ev_W := ev_wm (a := 4) (i := 86) (r := ev_g4) rfl rfl
theorem ev_v926 : (Cond.lays RX0 "TextShell$Expander" "pattern" "[I") ∈ ev_W := ev_wm (a := 4) (i := 87) (r := ev_g4) rfl rfl
theorem ev_v927 : (Cond.lays RX0 "TextShell$Expander" "elements" "[I") ∈ ev_W := ev_wm (a := 4) (i := 88) (r := ev_g4) rfl rfl
theorem ev_v928 : (Cond.lays RX0 "TextShell$Expander" "elementCount" "I") ∈ ev_W := ev_wm (a := 4) (i := 89) (r := ev_g4) rfl rfl
theorem ev_v929 : (Cond.lays RX0 "TextShell$Expander" "reached" "[I") ∈ ev_W := ev_wm (a := 4) (i := 90) (r := ev_g4) rfl rfl
theorem ev_v930 : (Cond.lays RX0 "TextShell$Expander" "shortest" "I") ∈ ev_W := ev_wm (a := 4) (i := 91) (r := ev_g4) rfl rfl
theorem ev_v931 : (Cond.lays RX0 "TextShell$Expander" "longest" "I") ∈ ev_W := ev_wm (a := 4) (i := 92) (r := ev_g4) rfl rfl
theorem ev_v932 : (Cond.lays RX0 "TextShell$Expander" "paths" "[LTextShell$Row;") ∈ ev_W := ev_wm (a := 4) (i := 93) (r := ev_g4) rfl rfl
theorem ev_v933 : (Cond.lays RX0 "TextShell$Expander" "nodes" "[LTextShell$Node;") ∈ ev_W := ev_wm (a := 4) (i := 94) (r := ev_g4) rfl rfl
theorem ev_v934 : (Cond.lays RX0 "TextShell$Expander" "pathCount" "I") ∈ ev_W := ev_wm (a := 4) (i := 95) (r := ev_g4) rfl rfl
theorem ev_v935 : (Cond.lays RX0 "TextShell$Expander" "part" "I") ∈ ev_W := ev_wm (a := 4) (i := 96) (r := ev_g4) rfl rfl
theorem ev_v936 : (Cond.laysFinal RX10 "TextShell$Tools" "memory" "LTextShell$Memory;") ∈ ev_W := ev_wm (a := 4) (i := 97) (r := ev_g4) rfl rfl
theorem ev_v937 : (Cond.laysFinal RX10 "TextShell$Tools" "shell" "LTextShell$Shell;") ∈ ev_W := ev_wm (a := 4) (i := 98) (r := ev_g4) rfl rfl
theorem ev_v938 : (Cond.laysFinal RX10 "TextShell$Tools" "expander" "LTextShell$Expander;") ∈ ev_W := ev_wm (a := 4) (i := 99) (r := ev_g4) rfl rfl
theorem ev_v939 : (Cond.laysFinal RX10 "TextShell$Tools" "text" "LTextShell$Row;") ∈ ev_W := ev_wm (a := 4) (i := 100) (r := ev_g4) rfl rfl
theorem ev_v940 : (Cond.laysFinal RX10 "TextShell$Tools" "made" "LTextShell$Row;") ∈ ev_W := ev_wm (a := 4) (i := 101) (r := ev_g4) rfl rfl
theorem ev_v941 : (Cond.lays RX10 "TextShell$Tools" "lines" "[I") ∈ ev_W := ev_wm (a := 4) (i := 102) (r := ev_g4) rfl rfl
theorem ev_v942 : (Cond.lays RX10 "TextShell$Tools" "order" "[I") ∈ ev_W := ev_wm (a := 4) (i := 103) (r := ev_g4) rfl rfl
theorem ev_v943 : (Cond.lays RX10 "TextShell$Tools" "spare" "[I") ∈ ev_W := ev_wm (a := 4) (i := 104) (r := ev_g4) rfl rfl
theorem ev_v944 : (Cond.lays RX10 "TextShell$Tools" "lineCount" "I") ∈ ev_W := ev_wm (a := 4) (i := 105) (r := ev_g4) rfl rfl
theorem ev_v945 : (Cond.laysFinal RX10 "TextShell$Tools" "from" "LTextShell$Row;") ∈ ev_W := ev_wm (a := 4) (i := 106) (r := ev_g4) rfl rfl
theorem ev_v946 : (Cond.laysFinal RX10 "TextShell$Tools" "table" "[I") ∈ ev_W := ev_wm (a := 4) (i := 107) (r := ev_g4) rfl rfl
theorem ev_v947 : (Cond.laysFinal RX10 "TextShell$Tools" "known" "[Z") ∈ ev_W := ev_wm (a := 4) (i := 108) (r := ev_g4) rfl rfl
theorem ev_v948 : (Cond.laysFinal RX10 "TextShell$Tools" "walkA" "[I") ∈ ev_W := ev_wm (a := 4) (i := 109) (r := ev_g4) rfl rfl
theorem ev_v949 : (Cond.laysFinal RX10 "TextShell$Tools" "walkB" "[I") ∈ ev_W := ev_wm (a := 4) (i := 110) (r := ev_g4) rfl rfl
theorem ev_v950 : (Cond.lays RX10 "TextShell$Tools" "first" "I") ∈ ev_W := ev_wm (a := 4) (i := 111) (r := ev_g4) rfl rfl
theorem ev_v951 : (Cond.lays RX10 "TextShell$Tools" "words" "I") ∈ ev_W := ev_wm (a := 4) (i := 112) (r := ev_g4) rfl rfl
theorem ev_v952 : (Cond.lays RX10 "TextShell$Tools" "numeric" "Z") ∈ ev_W := ev_wm (a := 4) (i := 113) (r := ev_g4) rfl rfl
theorem ev_v953 : (Cond.lays RX10 "TextShell$Tools" "reverse" "Z") ∈ ev_W := ev_wm (a := 4) (i := 114) (r := ev_g4) rfl rfl
theorem ev_v954 : (Cond.laysFinal RX3 "TextShell$Name" "text" "LTextShell$Row;") ∈ ev_W := ev_wm (a := 2) (i := 74) (r := ev_g2) rfl rfl
theorem ev_v955 : (Cond.laysFinal RX3 "TextShell$Name" "index" "I") ∈ ev_W := ev_wm (a := 2) (i := 75) (r := ev_g2) rfl rfl
theorem ev_v956 : (Cond.lays RX3 "TextShell$Name" "of" "LTextShell$Name;") ∈ ev_W := ev_wm (a := 2) (i := 76) (r := ev_g2) rfl rfl
theorem ev_v957 : (Cond.lays RX3 "TextShell$Name" "next" "LTextShell$Name;") ∈ ev_W := ev_wm (a := 2) (i := 77) (r := ev_g2) rfl rfl
theorem ev_v958 : (Cond.lays RX3 "TextShell$Name" "value" "LTextShell$Row;") ∈ ev_W := ev_wm (a := 2) (i := 78) (r := ev_g2) rfl rfl
theorem ev_v959 : (Cond.lays RX3 "TextShell$Name" "readOnly" "Z") ∈ ev_W := ev_wm (a := 2) (i := 79) (r := ev_g2) rfl rfl
theorem ev_v960 : (Cond.lays RX3 "TextShell$Name" "function" "LTextShell$Tree;") ∈ ev_W := ev_wm (a := 2) (i := 80) (r := ev_g2) rfl rfl
theorem ev_v961 : (Cond.lays RX3 "TextShell$Name" "alias" "LTextShell$Row;") ∈ ev_W := ev_wm (a := 2) (i := 81) (r := ev_g2) rfl rfl
theorem ev_v962 : (Cond.lays RX3 "TextShell$Name" "command" "I") ∈ ev_W := ev_wm (a := 2) (i := 82) (r := ev_g2) rfl rfl
theorem ev_v963 : (Cond.lays RX3 "TextShell$Name" "reserved" "I") ∈ ev_W := ev_wm (a := 2) (i := 83) (r := ev_g2) rfl rfl
theorem ev_v964 : (Cond.laysFinal RX9 "TextShell$Sum" "memory" "LTextShell$Memory;") ∈ ev_W := ev_wm (a := 3) (i := 104) (r := ev_g3) rfl rfl
theorem ev_v965 : (Cond.laysFinal RX9 "TextShell$Sum" "numbers" "[J") ∈ ev_W := ev_wm (a := 3) (i := 105) (r := ev_g3) rfl rfl
theorem ev_v966 : (Cond.lays RX9 "TextShell$Sum" "numberTop" "I") ∈ ev_W := ev_wm (a := 3) (i := 106) (r := ev_g3) rfl rfl
theorem ev_v967 : (Cond.laysFinal RX9 "TextShell$Sum" "entries" "[I") ∈ ev_W := ev_wm (a := 3) (i := 107) (r := ev_g3) rfl rfl
theorem ev_v968 : (Cond.lays RX9 "TextShell$Sum" "entryTop" "I") ∈ ev_W := ev_wm (a := 3) (i := 108) (r := ev_g3) rfl rfl
theorem ev_v969 : (Cond.lays RX9 "TextShell$Sum" "text" "LTextShell$Row;") ∈ ev_W := ev_wm (a := 3) (i := 109) (r := ev_g3) rfl rfl
theorem ev_v970 : (Cond.lays RX9 "TextShell$Sum" "at" "I") ∈ ev_W := ev_wm (a := 3) (i := 110) (r := ev_g3) rfl rfl
theorem ev_v971 : (Cond.laysFinal RX9 "TextShell$Sum" "spelled" "LTextShell$Row;") ∈ ev_W := ev_wm (a := 3) (i := 111) (r := ev_g3) rfl rfl
theorem ev_v972 : (Cond.lays RX9 "TextShell$Sum" "live" "Z") ∈ ev_W := ev_wm (a := 4) (i := 115) (r := ev_g4) rfl rfl
theorem ev_v973 : (Cond.lays RX9 "TextShell$Sum" "nested" "I") ∈ ev_W := ev_wm (a := 4) (i := 116) (r := ev_g4) rfl rfl
theorem ev_v974 : (Cond.lays RX9 "TextShell$Sum" "wrong" "Z") ∈ ev_W := ev_wm (a := 4) (i := 117) (r := ev_g4) rfl rfl
theorem ev_v975 : (Cond.lays RX1 "TextShell$Frame" "kind" "I") ∈ ev_W := ev_wm (a := 5) (i := 58) (r := ev_g5) rfl rfl
theorem ev_v976 : (Cond.lays RX1 "TextShell$Frame" "state" "I") ∈ ev_W := ev_wm (a := 5) (i := 59) (r := ev_g5) rfl rfl
theorem ev_v977 : (Cond.lays RX1 "TextShell$Frame" "section" "I") ∈ ev_W := ev_wm (a := 5) (i := 60) (r := ev_g5) rfl rfl
theorem ev_v978 : (Cond.lays RX1 "TextShell$Frame" "line" "I") ∈ ev_W := ev_wm (a := 5) (i := 61) (r := ev_g5) rfl rfl
theorem ev_v979 : (Cond.lays RX1 "TextShell$Frame" "flags" "I") ∈ ev_W := ev_wm (a := 5) (i := 62) (r := ev_g5) rfl rfl
theorem ev_v980 : (Cond.lays RX1 "TextShell$Frame" "source" "LTextShell$Stream;") ∈ ev_W := ev_wm (a := 5) (i := 63) (r := ev_g5) rfl rfl
theorem ev_v981 : (Cond.lays RX1 "TextShell$Frame" "script" "LTextShell$Frame;") ∈ ev_W := ev_wm (a := 5) (i := 64) (r := ev_g5) rfl rfl
theorem ev_v982 : (Cond.lays RX1 "TextShell$Frame" "command" "LTextShell$Tree;") ∈ ev_W := ev_wm (a := 5) (i := 65) (r := ev_g5) rfl rfl
theorem ev_v983 : (Cond.lays RX1 "TextShell$Frame" "clause" "LTextShell$Tree;") ∈ ev_W := ev_wm (a := 5) (i := 66) (r := ev_g5) rfl rfl
theorem ev_v984 : (Cond.lays RX1 "TextShell$Frame" "first" "LTextShell$Tree;") ∈ ev_W := ev_wm (a := 5) (i := 67) (r := ev_g5) rfl rfl
theorem ev_v985 : (Cond.lays RX1 "TextShell$Frame" "last" "LTextShell$Tree;") ∈ ev_W := ev_wm (a := 5) (i := 68) (r := ev_g5) rfl rfl
theorem ev_v986 : (Cond.lays RX1 "TextShell$Frame" "start" "LTextShell$Tree;") ∈ ev_W := ev_wm (a := 5) (i := 69) (r := ev_g5) rfl rfl
theorem ev_v987 : (Cond.lays RX1 "TextShell$Frame" "tail" "LTextShell$Tree;") ∈ ev_W := ev_wm (a := 5) (i := 70) (r := ev_g5) rfl rfl
theorem ev_v988 : (Cond.lays RX1 "TextShell$Frame" "waiting" "LTextShell$Tree;") ∈ ev_W := ev_wm (a := 5) (i := 71) (r := ev_g5) rfl rfl
theorem ev_v989 : (Cond.lays RX1 "TextShell$Frame" "number" "I") ∈ ev_W := ev_wm (a := 5) (i := 72) (r := ev_g5) rfl rfl
theorem ev_v990 : (Cond.lays RX1 "TextShell$Frame" "operator" "I") ∈ ev_W := ev_wm (a := 5) (i := 73) (r := ev_g5) rfl rfl
theorem ev_v991 : (Cond.lays RX1 "TextShell$Frame" "back" "I") ∈ ev_W := ev_wm (a := 5) (i := 74) (r := ev_g5) rfl rfl
theorem ev_v992 : (Cond.lays RX1 "TextShell$Frame" "from" "I") ∈ ev_W := ev_wm (a := 5) (i := 75) (r := ev_g5) rfl rfl
theorem ev_v993 : (Cond.lays RX1 "TextShell$Frame" "mark" "I") ∈ ev_W := ev_wm (a := 5) (i := 76) (r := ev_g5) rfl rfl
theorem ev_v994 : (Cond.lays RX4 "TextShell$Node" "name" "LTextShell$Row;") ∈ ev_W := ev_wm (a := 1) (i := 119) (r := ev_g1) rfl rfl
theorem ev_v995 : (Cond.lays RX4 "TextShell$Node" "parent" "LTextShell$Node;") ∈ ev_W := ev_wm (a := 1) (i := 120) (r := ev_g1) rfl rfl
theorem ev_v996 : (Cond.lays RX4 "TextShell$Node" "next" "LTextShell$Node;") ∈ ev_W := ev_wm (a := 1) (i := 121) (r := ev_g1) rfl rfl
theorem ev_v997 : (Cond.lays RX4 "TextShell$Node" "first" "LTextShell$Node;") ∈ ev_W := ev_wm (a := 1) (i := 122) (r := ev_g1) rfl rfl
theorem ev_v998 : (Cond.laysFinal RX4 "TextShell$Node" "root" "LTextShell$Node;") ∈ ev_W := ev_wm (a := 1) (i := 123) (r := ev_g1) rfl rfl
theorem ev_v999 : (Cond.laysFinal RX4 "TextShell$Node" "data" "LTextShell$Row;") ∈ ev_W := ev_wm (a := 1) (i := 124) (r := ev_g1) rfl rfl
theorem ev_v1000 : (Cond.lays RX4 "TextShell$Node" "gone" "Z") ∈ ev_W := ev_wm (a := 1) (i := 125) (r := ev_g1) rfl rfl
theorem ev_v1001 : (Cond.lays RX4 "TextShell$Node" "part" "I") ∈ ev_W := ev_wm (a := 1) (i := 126) (r := ev_g1) rfl rfl
theorem ev_v1002 : (Cond.lays RX4 "TextShell$Node" "fits" "Z") ∈ ev_W := ev_wm (a := 1) (i := 127) (r := ev_g1) rfl rfl
theorem ev_v1003 : (Cond.lays RX4 "TextShell$Node" "files" "I") ∈ ev_W := ev_wm (a := 1) (i := 128) (r := ev_g1) rfl rfl
theorem ev_v1004 : (Cond.lays RX4 "TextShell$Node" "directories" "I") ∈ ev_W := ev_wm (a := 1) (i := 129) (r := ev_g1) rfl rfl
theorem ev_v1005 : (Cond.lays RX4 "TextShell$Node" "bytes" "I") ∈ ev_W := ev_wm (a := 1) (i := 130) (r := ev_g1) rfl rfl
theorem ev_v1006 : (Cond.lays RX11 "TextShell$Tree" "kind" "I") ∈ ev_W := ev_wm (a := 6) (i := 36) (r := ev_g6) rfl rfl
theorem ev_v1007 : (Cond.lays RX11 "TextShell$Tree" "next" "LTextShell$Tree;") ∈ ev_W := ev_wm (a := 6) (i := 37) (r := ev_g6) rfl rfl
theorem ev_v1008 : (Cond.lays RX11 "TextShell$Tree" "link" "I") ∈ ev_W := ev_wm (a := 6) (i := 38) (r := ev_g6) rfl rfl
theorem ev_v1009 : (Cond.lays RX11 "TextShell$Tree" "not" "Z") ∈ ev_W := ev_wm (a := 6) (i := 39) (r := ev_g6) rfl rfl
theorem ev_v1010 : (Cond.lays RX11 "TextShell$Tree" "background" "Z") ∈ ev_W := ev_wm (a := 6) (i := 40) (r := ev_g6) rfl rfl
theorem ev_v1011 : (Cond.lays RX11 "TextShell$Tree" "in" "Z") ∈ ev_W := ev_wm (a := 6) (i := 41) (r := ev_g6) rfl rfl
theorem ev_v1012 : (Cond.lays RX11 "TextShell$Tree" "number" "I") ∈ ev_W := ev_wm (a := 6) (i := 42) (r := ev_g6) rfl rfl
theorem ev_v1013 : (Cond.lays RX11 "TextShell$Tree" "words" "LTextShell$Tree;") ∈ ev_W := ev_wm (a := 6) (i := 43) (r := ev_g6) rfl rfl
theorem ev_v1014 : (Cond.lays RX11 "TextShell$Tree" "head" "LTextShell$Tree;") ∈ ev_W := ev_wm (a := 6) (i := 44) (r := ev_g6) rfl rfl
theorem ev_v1015 : (Cond.lays RX11 "TextShell$Tree" "test" "LTextShell$Tree;") ∈ ev_W := ev_wm (a := 6) (i := 45) (r := ev_g6) rfl rfl
theorem ev_v1016 : (Cond.lays RX11 "TextShell$Tree" "body" "LTextShell$Tree;") ∈ ev_W := ev_wm (a := 6) (i := 46) (r := ev_g6) rfl rfl
theorem ev_v1017 : (Cond.lays RX11 "TextShell$Tree" "rest" "LTextShell$Tree;") ∈ ev_W := ev_wm (a := 6) (i := 47) (r := ev_g6) rfl rfl
theorem ev_v1018 : (Cond.lays RX11 "TextShell$Tree" "name" "LTextShell$Name;") ∈ ev_W := ev_wm (a := 6) (i := 48) (r := ev_g6) rfl rfl
theorem ev_v1019 : (Cond.lays RX11 "TextShell$Tree" "code" "[I") ∈ ev_W := ev_wm (a := 6) (i := 49) (r := ev_g6) rfl rfl
theorem ev_v1020 : (Cond.lays RX11 "TextShell$Tree" "told" "LTextShell$Row;") ∈ ev_W := ev_wm (a := 6) (i := 50) (r := ev_g6) rfl rfl
theorem ev_v1021 : (Cond.laysFinal RX8 "TextShell$Stream" "data" "LTextShell$Row;") ∈ ev_W := ev_wm (a := 3) (i := 112) (r := ev_g3) rfl rfl
theorem ev_v1022 : (Cond.laysFinal RX8 "TextShell$Stream" "file" "LTextShell$Node;") ∈ ev_W := ev_wm (a := 3) (i := 113) (r := ev_g3) rfl rfl
theorem ev_v1023 : (Cond.laysFinal RX8 "TextShell$Stream" "reading" "Z") ∈ ev_W := ev_wm (a := 3) (i := 114) (r := ev_g3) rfl rfl
theorem ev_v1024 : (Cond.laysFinal RX8 "TextShell$Stream" "most" "I") ∈ ev_W := ev_wm (a := 3) (i := 115) (r := ev_g3) rfl rfl
theorem ev_v1025 : (Cond.lays RX8 "TextShell$Stream" "at" "I") ∈ ev_W := ev_wm (a := 3) (i := 116) (r := ev_g3) rfl rfl
theorem ev_v1026 : (Cond.lays RX8 "TextShell$Stream" "line" "I") ∈ ev_W := ev_wm (a := 3) (i := 117) (r := ev_g3) rfl rfl
theorem ev_v1027 : (Cond.lays RX8 "TextShell$Stream" "under" "LTextShell$Stream;") ∈ ev_W := ev_wm (a := 3) (i := 118) (r := ev_g3) rfl rfl
theorem ev_v1028 : (Cond.lays RX8 "TextShell$Stream" "alias" "LTextShell$Name;") ∈ ev_W := ev_wm (a := 3) (i := 119) (r := ev_g3) rfl rfl
theorem ev_v1029 : (Cond.lays RX8 "TextShell$Stream" "aliases" "I") ∈ ev_W := ev_wm (a := 3) (i := 120) (r := ev_g3) rfl rfl
theorem ev_v1030 : (Cond.laysFinal RX28 "TextShellModel" "small" "[[B") ∈ ev_W := ev_wm (a := 13) (i := 63) (r := ev_g13) rfl rfl
theorem ev_v1031 : (Cond.laysFinal RX28 "TextShellModel" "emptyRow" "[B") ∈ ev_W := ev_wm (a := 13) (i := 64) (r := ev_g13) rfl rfl
theorem ev_v1032 : (Cond.laysFinal RX28 "TextShellModel" "singles" "[[B") ∈ ev_W := ev_wm (a := 13) (i := 65) (r := ev_g13) rfl rfl
theorem ev_v1033 : (Cond.laysFinal RX28 "TextShellModel" "stop" "Ljava/lang/IllegalStateException;") ∈ ev_W := ev_wm (a := 13) (i := 66) (r := ev_g13) rfl rfl
theorem ev_v1034 : (Cond.lays RX28 "TextShellModel" "fault" "I") ∈ ev_W := ev_wm (a := 13) (i := 67) (r := ev_g13) rfl rfl
theorem ev_v1035 : (Cond.laysFinal RX28 "TextShellModel" "raw" "LTextShellModel$Bytes;") ∈ ev_W := ev_wm (a := 13) (i := 68) (r := ev_g13) rfl rfl
theorem ev_v1036 : (Cond.laysFinal RX28 "TextShellModel" "run" "LTextShellModel$Bytes;") ∈ ev_W := ev_wm (a := 13) (i := 69) (r := ev_g13) rfl rfl
theorem ev_v1037 : (Cond.lays RX28 "TextShellModel" "rows" "[I") ∈ ev_W := ev_wm (a := 13) (i := 70) (r := ev_g13) rfl rfl
theorem ev_v1038 : (Cond.lays RX28 "TextShellModel" "source" "J") ∈ ev_W := ev_wm (a := 13) (i := 71) (r := ev_g13) rfl rfl
theorem ev_v1039 : (Cond.lays RX28 "TextShellModel" "readCommands" "I") ∈ ev_W := ev_wm (a := 13) (i := 72) (r := ev_g13) rfl rfl
theorem ev_v1040 : (Cond.lays RX28 "TextShellModel" "found" "LTextShellModel$AndOr;") ∈ ev_W := ev_wm (a := 13) (i := 73) (r := ev_g13) rfl rfl
theorem ev_v1041 : (Cond.lays RX28 "TextShellModel" "out" "LTextShellModel$Bytes;") ∈ ev_W := ev_wm (a := 13) (i := 74) (r := ev_g13) rfl rfl
theorem ev_v1042 : (Cond.lays RX28 "TextShellModel" "waiting" "LTextShellModel$Doc;") ∈ ev_W := ev_wm (a := 13) (i := 75) (r := ev_g13) rfl rfl
theorem ev_v1043 : (Cond.lays RX28 "TextShellModel" "latest" "LTextShellModel$Doc;") ∈ ev_W := ev_wm (a := 13) (i := 76) (r := ev_g13) rfl rfl
theorem ev_v1044 : (Cond.lays RX28 "TextShellModel" "root" "LTextShellModel$Node;") ∈ ev_W := ev_wm (a := 13) (i := 77) (r := ev_g13) rfl rfl
theorem ev_v1045 : (Cond.lays RX28 "TextShellModel" "here" "LTextShellModel$Node;") ∈ ev_W := ev_wm (a := 13) (i := 78) (r := ev_g13) rfl rfl
theorem ev_v1046 : (Cond.lays RX28 "TextShellModel" "files" "I") ∈ ev_W := ev_wm (a := 13) (i := 79) (r := ev_g13) rfl rfl
theorem ev_v1047 : (Cond.lays RX28 "TextShellModel" "directories" "I") ∈ ev_W := ev_wm (a := 13) (i := 80) (r := ev_g13) rfl rfl
theorem ev_v1048 : (Cond.lays RX28 "TextShellModel" "filled" "I") ∈ ev_W := ev_wm (a := 13) (i := 81) (r := ev_g13) rfl rfl
theorem ev_v1049 : (Cond.lays RX28 "TextShellModel" "placeIn" "LTextShellModel$Node;") ∈ ev_W := ev_wm (a := 13) (i := 82) (r := ev_g13) rfl rfl
theorem ev_v1050 : (Cond.lays RX28 "TextShellModel" "placeName" "[B") ∈ ev_W := ev_wm (a := 13) (i := 83) (r := ev_g13) rfl rfl
theorem ev_v1051 : (Cond.laysFinal RX28 "TextShellModel" "listed" "Ljava/util/ArrayList;") ∈ ev_W := ev_wm (a := 13) (i := 84) (r := ev_g13) rfl rfl
theorem ev_v1052 : (Cond.laysFinal RX28 "TextShellModel" "open" "[LTextShellModel$Open;") ∈ ev_W := ev_wm (a := 13) (i := 85) (r := ev_g13) rfl rfl
theorem ev_v1053 : (Cond.lays RX28 "TextShellModel" "work" "J") ∈ ev_W := ev_wm (a := 13) (i := 86) (r := ev_g13) rfl rfl
theorem ev_v1054 : (Cond.laysFinal RX28 "TextShellModel" "variables" "LTextShellModel$Table;") ∈ ev_W := ev_wm (a := 13) (i := 87) (r := ev_g13) rfl rfl
theorem ev_v1055 : (Cond.laysFinal RX28 "TextShellModel" "functions" "LTextShellModel$Table;") ∈ ev_W := ev_wm (a := 13) (i := 88) (r := ev_g13) rfl rfl
theorem ev_v1056 : (Cond.laysFinal RX28 "TextShellModel" "aliases" "LTextShellModel$Table;") ∈ ev_W := ev_wm (a := 13) (i := 89) (r := ev_g13) rfl rfl
theorem ev_v1057 : (Cond.lays RX28 "TextShellModel" "parameters" "[[B") ∈ ev_W := ev_wm (a := 13) (i := 90) (r := ev_g13) rfl rfl
theorem ev_v1058 : (Cond.lays RX28 "TextShellModel" "firstParameter" "I") ∈ ev_W := ev_wm (a := 13) (i := 91) (r := ev_g13) rfl rfl
theorem ev_v1059 : (Cond.lays RX28 "TextShellModel" "manyParameters" "I") ∈ ev_W := ev_wm (a := 13) (i := 92) (r := ev_g13) rfl rfl
theorem ev_v1060 : (Cond.lays RX28 "TextShellModel" "optionE" "Z") ∈ ev_W := ev_wm (a := 13) (i := 93) (r := ev_g13) rfl rfl
theorem ev_v1061 : (Cond.lays RX28 "TextShellModel" "optionF" "Z") ∈ ev_W := ev_wm (a := 13) (i := 94) (r := ev_g13) rfl rfl
theorem ev_v1062 : (Cond.lays RX28 "TextShellModel" "optionU" "Z") ∈ ev_W := ev_wm (a := 13) (i := 95) (r := ev_g13) rfl rfl
theorem ev_v1063 : (Cond.lays RX28 "TextShellModel" "status" "I") ∈ ev_W := ev_wm (a := 13) (i := 96) (r := ev_g13) rfl rfl
theorem ev_v1064 : (Cond.lays RX28 "TextShellModel" "flow" "I") ∈ ev_W := ev_wm (a := 13) (i := 97) (r := ev_g13) rfl rfl
theorem ev_v1065 : (Cond.lays RX28 "TextShellModel" "loops" "I") ∈ ev_W := ev_wm (a := 13) (i := 98) (r := ev_g13) rfl rfl
theorem ev_v1066 : (Cond.lays RX28 "TextShellModel" "outOf" "I") ∈ ev_W := ev_wm (a := 13) (i := 99) (r := ev_g13) rfl rfl
theorem ev_v1067 : (Cond.lays RX28 "TextShellModel" "functionsAround" "I") ∈ ev_W := ev_wm (a := 13) (i := 100) (r := ev_g13) rfl rfl
theorem ev_v1068 : (Cond.lays RX28 "TextShellModel" "nest" "I") ∈ ev_W := ev_wm (a := 13) (i := 101) (r := ev_g13) rfl rfl
theorem ev_v1069 : (Cond.lays RX28 "TextShellModel" "quiet" "I") ∈ ev_W := ev_wm (a := 13) (i := 102) (r := ev_g13) rfl rfl
theorem ev_v1070 : (Cond.lays RX28 "TextShellModel" "most" "I") ∈ ev_W := ev_wm (a := 13) (i := 103) (r := ev_g13) rfl rfl
theorem ev_v1071 : (Cond.lays RX28 "TextShellModel" "simples" "I") ∈ ev_W := ev_wm (a := 13) (i := 104) (r := ev_g13) rfl rfl
theorem ev_v1072 : (Cond.lays RX28 "TextShellModel" "level" "I") ∈ ev_W := ev_wm (a := 13) (i := 105) (r := ev_g13) rfl rfl
theorem ev_v1073 : (Cond.lays RX28 "TextShellModel" "subStatus" "I") ∈ ev_W := ev_wm (a := 13) (i := 106) (r := ev_g13) rfl rfl
theorem ev_v1074 : (Cond.lays RX28 "TextShellModel" "stoppedByMost" "Z") ∈ ev_W := ev_wm (a := 13) (i := 107) (r := ev_g13) rfl rfl
theorem ev_v1075 : (Cond.laysFinal RX28 "TextShellModel" "changed" "Ljava/util/ArrayList;") ∈ ev_W := ev_wm (a := 13) (i := 108) (r := ev_g13) rfl rfl
theorem ev_v1076 : (Cond.lays RX28 "TextShellModel" "oldValues" "[[B") ∈ ev_W := ev_wm (a := 13) (i := 109) (r := ev_g13) rfl rfl
theorem ev_v1077 : (Cond.lays RX28 "TextShellModel" "oldFunctions" "[LTextShellModel$Cmd;") ∈ ev_W := ev_wm (a := 13) (i := 110) (r := ev_g13) rfl rfl
theorem ev_v1078 : (Cond.lays RX28 "TextShellModel" "oldOthers" "[I") ∈ ev_W := ev_wm (a := 13) (i := 111) (r := ev_g13) rfl rfl
theorem ev_v1079 : (Cond.laysFinal RX28 "TextShellModel" "homeName" "[B") ∈ ev_W := ev_wm (a := 13) (i := 112) (r := ev_g13) rfl rfl
theorem ev_v1080 : (Cond.laysFinal RX28 "TextShellModel" "ifsName" "[B") ∈ ev_W := ev_wm (a := 13) (i := 113) (r := ev_g13) rfl rfl
theorem ev_v1081 : (Cond.lays RX28 "TextShellModel" "cells" "[[I") ∈ ev_W := ev_wm (a := 13) (i := 114) (r := ev_g13) rfl rfl
theorem ev_v1082 : (Cond.lays RX28 "TextShellModel" "top" "I") ∈ ev_W := ev_wm (a := 13) (i := 115) (r := ev_g13) rfl rfl
theorem ev_v1083 : (Cond.lays RX28 "TextShellModel" "chars" "I") ∈ ev_W := ev_wm (a := 13) (i := 116) (r := ev_g13) rfl rfl
theorem ev_v1084 : (Cond.laysFinal RX28 "TextShellModel" "shell" "[B") ∈ ev_W := ev_wm (a := 13) (i := 117) (r := ev_g13) rfl rfl
theorem ev_v1085 : (Cond.laysFinal RX28 "TextShellModel" "options" "[[B") ∈ ev_W := ev_wm (a := 13) (i := 118) (r := ev_g13) rfl rfl
theorem ev_v1086 : (Cond.lays RX28 "TextShellModel" "ifs" "[B") ∈ ev_W := ev_wm (a := 13) (i := 119) (r := ev_g13) rfl rfl
theorem ev_v1087 : (Cond.lays RX28 "TextShellModel" "pathBytes" "[B") ∈ ev_W := ev_wm (a := 13) (i := 120) (r := ev_g13) rfl rfl
theorem ev_v1088 : (Cond.lays RX28 "TextShellModel" "moreBytes" "[B") ∈ ev_W := ev_wm (a := 13) (i := 121) (r := ev_g13) rfl rfl
theorem ev_v1089 : (Cond.lays RX28 "TextShellModel" "pathEnds" "[I") ∈ ev_W := ev_wm (a := 13) (i := 122) (r := ev_g13) rfl rfl
theorem ev_v1090 : (Cond.lays RX28 "TextShellModel" "moreEnds" "[I") ∈ ev_W := ev_wm (a := 13) (i := 123) (r := ev_g13) rfl rfl
theorem ev_v1091 : (Cond.lays RX28 "TextShellModel" "pathNodes" "[LTextShellModel$Node;") ∈ ev_W := ev_wm (a := 13) (i := 124) (r := ev_g13) rfl rfl
theorem ev_v1092 : (Cond.lays RX28 "TextShellModel" "moreNodes" "[LTextShellModel$Node;") ∈ ev_W := ev_wm (a := 13) (i := 125) (r := ev_g13) rfl rfl
theorem ev_v1093 : (Cond.lays RX28 "TextShellModel" "pathMany" "I") ∈ ev_W := ev_wm (a := 13) (i := 126) (r := ev_g13) rfl rfl
theorem ev_v1094 : (Cond.lays RX28 "TextShellModel" "moreMany" "I") ∈ ev_W := ev_wm (a := 13) (i := 127) (r := ev_g13) rfl rfl
theorem ev_v1095 : (Cond.laysFinal RX28 "TextShellModel" "sorted" "Ljava/util/ArrayList;") ∈ ev_W := ev_wm (a := 13) (i := 128) (r := ev_g13) rfl rfl
theorem ev_v1096 : (Cond.lays RX28 "TextShellModel" "partName" "[B") ∈ ev_W := ev_wm (a := 13) (i := 129) (r := ev_g13) rfl rfl
theorem ev_v1097 : (Cond.lays RX28 "TextShellModel" "partLong" "I") ∈ ev_W := ev_wm (a := 14) (i := 76) (r := ev_g14) rfl rfl
theorem ev_v1098 : (Cond.lays RX28 "TextShellModel" "partWild" "Z") ∈ ev_W := ev_wm (a := 14) (i := 77) (r := ev_g14) rfl rfl
theorem ev_v1099 : (Cond.lays RX28 "TextShellModel" "pathWork" "I") ∈ ev_W := ev_wm (a := 14) (i := 78) (r := ev_g14) rfl rfl
theorem ev_v1100 : (Cond.lays RX28 "TextShellModel" "pathChars" "I") ∈ ev_W := ev_wm (a := 14) (i := 79) (r := ev_g14) rfl rfl
theorem ev_v1101 : (Cond.lays RX28 "TextShellModel" "signs" "[I") ∈ ev_W := ev_wm (a := 14) (i := 80) (r := ev_g14) rfl rfl
theorem ev_v1102 : (Cond.lays RX28 "TextShellModel" "sets" "[J") ∈ ev_W := ev_wm (a := 14) (i := 81) (r := ev_g14) rfl rfl
theorem ev_v1103 : (Cond.lays RX28 "TextShellModel" "many" "I") ∈ ev_W := ev_wm (a := 14) (i := 82) (r := ev_g14) rfl rfl
theorem ev_v1104 : (Cond.lays RX28 "TextShellModel" "manySets" "I") ∈ ev_W := ev_wm (a := 14) (i := 83) (r := ev_g14) rfl rfl
theorem ev_v1105 : (Cond.lays RX28 "TextShellModel" "at" "[Z") ∈ ev_W := ev_wm (a := 14) (i := 84) (r := ev_g14) rfl rfl
theorem ev_v1106 : (Cond.lays RX28 "TextShellModel" "then" "[Z") ∈ ev_W := ev_wm (a := 14) (i := 85) (r := ev_g14) rfl rfl
theorem ev_v1107 : (Cond.lays RX28 "TextShellModel" "leastAt" "I") ∈ ev_W := ev_wm (a := 14) (i := 86) (r := ev_g14) rfl rfl
theorem ev_v1108 : (Cond.lays RX28 "TextShellModel" "mostAt" "I") ∈ ev_W := ev_wm (a := 14) (i := 87) (r := ev_g14) rfl rfl
theorem ev_v1109 : (Cond.lays RX28 "TextShellModel" "sum" "[B") ∈ ev_W := ev_wm (a := 14) (i := 88) (r := ev_g14) rfl rfl
theorem ev_v1110 : (Cond.lays RX28 "TextShellModel" "place" "I") ∈ ev_W := ev_wm (a := 14) (i := 89) (r := ev_g14) rfl rfl
theorem ev_v1111 : (Cond.lays RX28 "TextShellModel" "within" "I") ∈ ev_W := ev_wm (a := 14) (i := 90) (r := ev_g14) rfl rfl
theorem ev_v1112 : (Cond.lays RX28 "TextShellModel" "bad" "Z") ∈ ev_W := ev_wm (a := 14) (i := 91) (r := ev_g14) rfl rfl
theorem ev_v1113 : (Cond.lays RX28 "TextShellModel" "number" "J") ∈ ev_W := ev_wm (a := 14) (i := 92) (r := ev_g14) rfl rfl
theorem ev_v1114 : (Cond.laysFinal RX28 "TextShellModel" "keptOnes" "Ljava/util/ArrayList;") ∈ ev_W := ev_wm (a := 14) (i := 93) (r := ev_g14) rfl rfl
theorem ev_v1115 : (Cond.lays RX28 "TextShellModel" "value" "J") ∈ ev_W := ev_wm (a := 14) (i := 94) (r := ev_g14) rfl rfl
theorem ev_v1116 : (Cond.lays RX28 "TextShellModel" "begins" "[I") ∈ ev_W := ev_wm (a := 14) (i := 95) (r := ev_g14) rfl rfl
theorem ev_v1117 : (Cond.lays RX28 "TextShellModel" "manyLines" "I") ∈ ev_W := ev_wm (a := 14) (i := 96) (r := ev_g14) rfl rfl
theorem ev_v1118 : (Cond.lays RX28 "TextShellModel" "setAt" "I") ∈ ev_W := ev_wm (a := 14) (i := 97) (r := ev_g14) rfl rfl
theorem ev_v1119 : (Cond.lays RX28 "TextShellModel" "low" "I") ∈ ev_W := ev_wm (a := 14) (i := 98) (r := ev_g14) rfl rfl
theorem ev_v1120 : (Cond.lays RX28 "TextShellModel" "high" "I") ∈ ev_W := ev_wm (a := 14) (i := 99) (r := ev_g14) rfl rfl
theorem ev_v1121 : (Cond.lays RX28 "TextShellModel" "thrown" "I") ∈ ev_W := ev_wm (a := 14) (i := 100) (r := ev_g14) rfl rfl
theorem ev_v1122 : (Cond.laysFinal RX28 "TextShellModel" "tape" "LTextShellModel$Bytes;") ∈ ev_W := ev_wm (a := 14) (i := 101) (r := ev_g14) rfl rfl
theorem ev_v1123 : (Cond.lays RX28 "TextShellModel" "script" "LTextShellModel$AndOr;") ∈ ev_W := ev_wm (a := 14) (i := 102) (r := ev_g14) rfl rfl
theorem ev_v1124 : (Cond.lays RX28 "TextShellModel" "isThere" "Z") ∈ ev_W := ev_wm (a := 14) (i := 103) (r := ev_g14) rfl rfl
theorem ev_v1125 : (Cond.lays RX28 "TextShellModel" "isPrinted" "Z") ∈ ev_W := ev_wm (a := 14) (i := 104) (r := ev_g14) rfl rfl
theorem ev_v1126 : (Cond.lays RX28 "TextShellModel" "isAnswered" "Z") ∈ ev_W := ev_wm (a := 14) (i := 105) (r := ev_g14) rfl rfl
theorem ev_v1127 : (Cond.lays RX28 "TextShellModel" "commands" "I") ∈ ev_W := ev_wm (a := 14) (i := 106) (r := ev_g14) rfl rfl
theorem ev_v1128 : (Cond.lays RX28 "TextShellModel" "answerLength" "I") ∈ ev_W := ev_wm (a := 14) (i := 107) (r := ev_g14) rfl rfl
theorem ev_v1129 : (Cond.laysFinal RX28 "TextShellModel" "printed" "LTextShellModel$Bytes;") ∈ ev_W := ev_wm (a := 14) (i := 108) (r := ev_g14) rfl rfl
theorem ev_v1130 : (Cond.laysFinal RX28 "TextShellModel" "output" "LTextShellModel$Bytes;") ∈ ev_W := ev_wm (a := 14) (i := 109) (r := ev_g14) rfl rfl
theorem ev_v1131 : (Cond.laysFinal RX28 "TextShellModel" "errors" "LTextShellModel$Bytes;") ∈ ev_W := ev_wm (a := 14) (i := 110) (r := ev_g14) rfl rfl
theorem ev_v1132 : (Cond.laysFinal RX28 "TextShellModel" "answer" "LTextShellModel$Bytes;") ∈ ev_W := ev_wm (a := 14) (i := 111) (r := ev_g14) rfl rfl
theorem ev_v1133 : (Cond.lays RX28 "TextShellModel" "input" "LTextShellModel$Open;") ∈ ev_W := ev_wm (a := 14) (i := 112) (r := ev_g14) rfl rfl
theorem ev_v1134 : (Cond.instantiable RJxb5711 6) ∈ ev_W := ev_wm (a := 7) (i := 31) (r := ev_g7) rfl rfl
theorem ev_v1135 : (Cond.lays RX14 "TextShellModel$Bytes" "b" "[B") ∈ ev_W := ev_wm (a := 12) (i := 79) (r := ev_g12) rfl rfl
theorem ev_v1136 : (Cond.lays RX14 "TextShellModel$Bytes" "n" "I") ∈ ev_W := ev_wm (a := 12) (i := 80) (r := ev_g12) rfl rfl
theorem ev_v1137 : (Cond.lays RX21 "TextShellModel$Node" "name" "[B") ∈ ev_W := ev_wm (a := 12) (i := 81) (r := ev_g12) rfl rfl
theorem ev_v1138 : (Cond.lays RX21 "TextShellModel$Node" "above" "LTextShellModel$Node;") ∈ ev_W := ev_wm (a := 12) (i := 82) (r := ev_g12) rfl rfl
theorem ev_v1139 : (Cond.lays RX21 "TextShellModel$Node" "first" "LTextShellModel$Node;") ∈ ev_W := ev_wm (a := 12) (i := 83) (r := ev_g12) rfl rfl
theorem ev_v1140 : (Cond.lays RX21 "TextShellModel$Node" "next" "LTextShellModel$Node;") ∈ ev_W := ev_wm (a := 12) (i := 84) (r := ev_g12) rfl rfl
theorem ev_v1141 : (Cond.lays RX21 "TextShellModel$Node" "directory" "Z") ∈ ev_W := ev_wm (a := 12) (i := 85) (r := ev_g12) rfl rfl
theorem ev_v1142 : (Cond.lays RX21 "TextShellModel$Node" "gone" "Z") ∈ ev_W := ev_wm (a := 12) (i := 86) (r := ev_g12) rfl rfl
theorem ev_v1143 : (Cond.laysFinal RX21 "TextShellModel$Node" "data" "LTextShellModel$Bytes;") ∈ ev_W := ev_wm (a := 12) (i := 87) (r := ev_g12) rfl rfl
theorem ev_v1144 : (Cond.lays RJx4a65c "java/util/AbstractList" "modCount" "I") ∈ ev_W := ev_wm (a := 12) (i := 88) (r := ev_g12) rfl rfl
theorem ev_v1145 : (Cond.lays RJx4a65c "java/util/ArrayList" "elementData" "[Ljava/lang/Object;") ∈ ev_W := ev_wm (a := 12) (i := 89) (r := ev_g12) rfl rfl
theorem ev_v1146 : (Cond.lays RJx4a65c "java/util/ArrayList" "size" "I") ∈ ev_W := ev_wm (a := 12) (i := 90) (r := ev_g12) rfl rfl
theorem ev_v1147 : (Cond.laysFinal RX26 "TextShellModel$Table" "all" "Ljava/util/ArrayList;") ∈ ev_W := ev_wm (a := 12) (i := 91) (r := ev_g12) rfl rfl
theorem ev_v1148 : (Cond.laysFinal RX26 "TextShellModel$Table" "heads" "[LTextShellModel$Entry;") ∈ ev_W := ev_wm (a := 12) (i := 92) (r := ev_g12) rfl rfl
theorem ev_v1149 : (Cond.lays RX26 "TextShellModel$Table" "many" "I") ∈ ev_W := ev_wm (a := 12) (i := 93) (r := ev_g12) rfl rfl
theorem ev_v1150 : (Cond.lays RX26 "TextShellModel$Table" "fixed" "I") ∈ ev_W := ev_wm (a := 12) (i := 94) (r := ev_g12) rfl rfl
theorem ev_v1151 : (Cond.lays RX18 "TextShellModel$Entry" "name" "[B") ∈ ev_W := ev_wm (a := 16) (i := 6) (r := ev_g16) rfl rfl
theorem ev_v1152 : (Cond.lays RX18 "TextShellModel$Entry" "value" "[B") ∈ ev_W := ev_wm (a := 16) (i := 7) (r := ev_g16) rfl rfl
theorem ev_v1153 : (Cond.lays RX18 "TextShellModel$Entry" "function" "LTextShellModel$Cmd;") ∈ ev_W := ev_wm (a := 16) (i := 8) (r := ev_g16) rfl rfl
theorem ev_v1154 : (Cond.lays RX18 "TextShellModel$Entry" "set" "Z") ∈ ev_W := ev_wm (a := 16) (i := 9) (r := ev_g16) rfl rfl
theorem ev_v1155 : (Cond.lays RX18 "TextShellModel$Entry" "fixed" "Z") ∈ ev_W := ev_wm (a := 16) (i := 10) (r := ev_g16) rfl rfl
theorem ev_v1156 : (Cond.lays RX18 "TextShellModel$Entry" "level" "I") ∈ ev_W := ev_wm (a := 16) (i := 11) (r := ev_g16) rfl rfl
theorem ev_v1157 : (Cond.lays RX18 "TextShellModel$Entry" "table" "LTextShellModel$Table;") ∈ ev_W := ev_wm (a := 16) (i := 12) (r := ev_g16) rfl rfl
theorem ev_v1158 : (Cond.lays RX18 "TextShellModel$Entry" "next" "LTextShellModel$Entry;") ∈ ev_W := ev_wm (a := 16) (i := 13) (r := ev_g16) rfl rfl
theorem ev_v1159 : (Cond.lays RX22 "TextShellModel$Open" "kind" "I") ∈ ev_W := ev_wm (a := 12) (i := 95) (r := ev_g12) rfl rfl
theorem ev_v1160 : (Cond.lays RX22 "TextShellModel$Open" "pos" "I") ∈ ev_W := ev_wm (a := 12) (i := 96) (r := ev_g12) rfl rfl
theorem ev_v1161 : (Cond.lays RX22 "TextShellModel$Open" "limit" "I") ∈ ev_W := ev_wm (a := 12) (i := 97) (r := ev_g12) rfl rfl
theorem ev_v1162 : (Cond.lays RX22 "TextShellModel$Open" "bytes" "LTextShellModel$Bytes;") ∈ ev_W := ev_wm (a := 12) (i := 98) (r := ev_g12) rfl rfl
theorem ev_v1163 : (Cond.lays RX22 "TextShellModel$Open" "file" "LTextShellModel$Node;") ∈ ev_W := ev_wm (a := 12) (i := 99) (r := ev_g12) rfl rfl
theorem ev_v1164 : (Cond.laysFinal RX25 "TextShellModel$Reader" "house" "LTextShellModel;") ∈ ev_W := ev_wm (a := 14) (i := 113) (r := ev_g14) rfl rfl
theorem ev_v1165 : (Cond.lays RX25 "TextShellModel$Reader" "in" "LTextShellModel$Input;") ∈ ev_W := ev_wm (a := 14) (i := 114) (r := ev_g14) rfl rfl
theorem ev_v1166 : (Cond.lays RX25 "TextShellModel$Reader" "limit" "LTextShellModel$Input;") ∈ ev_W := ev_wm (a := 14) (i := 115) (r := ev_g14) rfl rfl
theorem ev_v1167 : (Cond.lays RX25 "TextShellModel$Reader" "token" "I") ∈ ev_W := ev_wm (a := 14) (i := 116) (r := ev_g14) rfl rfl
theorem ev_v1168 : (Cond.lays RX25 "TextShellModel$Reader" "tokenLine" "I") ∈ ev_W := ev_wm (a := 14) (i := 117) (r := ev_g14) rfl rfl
theorem ev_v1169 : (Cond.lays RX25 "TextShellModel$Reader" "digit" "I") ∈ ev_W := ev_wm (a := 14) (i := 118) (r := ev_g14) rfl rfl
theorem ev_v1170 : (Cond.lays RX25 "TextShellModel$Reader" "word" "LTextShellModel$Word;") ∈ ev_W := ev_wm (a := 14) (i := 119) (r := ev_g14) rfl rfl
theorem ev_v1171 : (Cond.lays RX25 "TextShellModel$Reader" "tokenIn" "LTextShellModel$Input;") ∈ ev_W := ev_wm (a := 14) (i := 120) (r := ev_g14) rfl rfl
theorem ev_v1172 : (Cond.lays RX25 "TextShellModel$Reader" "follows" "Z") ∈ ev_W := ev_wm (a := 14) (i := 121) (r := ev_g14) rfl rfl
theorem ev_v1173 : (Cond.lays RX25 "TextShellModel$Reader" "first" "LTextShellModel$Doc;") ∈ ev_W := ev_wm (a := 14) (i := 122) (r := ev_g14) rfl rfl
theorem ev_v1174 : (Cond.lays RX25 "TextShellModel$Reader" "last" "LTextShellModel$Doc;") ∈ ev_W := ev_wm (a := 14) (i := 123) (r := ev_g14) rfl rfl
theorem ev_v1175 : (Cond.lays RX25 "TextShellModel$Reader" "depth" "I") ∈ ev_W := ev_wm (a := 14) (i := 124) (r := ev_g14) rfl rfl
theorem ev_v1176 : (Cond.lays RX25 "TextShellModel$Reader" "inner" "I") ∈ ev_W := ev_wm (a := 14) (i := 125) (r := ev_g14) rfl rfl
theorem ev_v1177 : (Cond.lays RX25 "TextShellModel$Reader" "commands" "I") ∈ ev_W := ev_wm (a := 14) (i := 126) (r := ev_g14) rfl rfl
theorem ev_v1178 : (Cond.lays RX25 "TextShellModel$Reader" "tells" "Z") ∈ ev_W := ev_wm (a := 14) (i := 127) (r := ev_g14) rfl rfl
theorem ev_v1179 : (Cond.lays RX25 "TextShellModel$Reader" "rawDepth" "I") ∈ ev_W := ev_wm (a := 14) (i := 128) (r := ev_g14) rfl rfl
theorem ev_v1180 : (Cond.lays RX25 "TextShellModel$Reader" "rawIn" "LTextShellModel$Input;") ∈ ev_W := ev_wm (a := 14) (i := 129) (r := ev_g14) rfl rfl
theorem ev_v1181 : (Cond.lays RX19 "TextShellModel$Input" "b" "[B") ∈ ev_W := ev_wm (a := 14) (i := 130) (r := ev_g14) rfl rfl
theorem ev_v1182 : (Cond.lays RX19 "TextShellModel$Input" "n" "I") ∈ ev_W := ev_wm (a := 14) (i := 131) (r := ev_g14) rfl rfl
theorem ev_v1183 : (Cond.lays RX19 "TextShellModel$Input" "pos" "I") ∈ ev_W := ev_wm (a := 14) (i := 132) (r := ev_g14) rfl rfl
theorem ev_v1184 : (Cond.lays RX19 "TextShellModel$Input" "line" "I") ∈ ev_W := ev_wm (a := 14) (i := 133) (r := ev_g14) rfl rfl
theorem ev_v1185 : (Cond.lays RX19 "TextShellModel$Input" "lines" "[I") ∈ ev_W := ev_wm (a := 14) (i := 134) (r := ev_g14) rfl rfl
theorem ev_v1186 : (Cond.lays RX19 "TextShellModel$Input" "alias" "LTextShellModel$Entry;") ∈ ev_W := ev_wm (a := 14) (i := 135) (r := ev_g14) rfl rfl
theorem ev_v1187 : (Cond.lays RX19 "TextShellModel$Input" "below" "LTextShellModel$Input;") ∈ ev_W := ev_wm (a := 14) (i := 136) (r := ev_g14) rfl rfl
theorem ev_v1188 : (Cond.lays RX19 "TextShellModel$Input" "up" "LTextShellModel$Input;") ∈ ev_W := ev_wm (a := 14) (i := 137) (r := ev_g14) rfl rfl
theorem ev_v1189 : (Cond.lays RX27 "TextShellModel$Word" "role" "I") ∈ ev_W := ev_wm (a := 15) (i := 81) (r := ev_g15) rfl rfl
theorem ev_v1190 : (Cond.lays RX27 "TextShellModel$Word" "number" "I") ∈ ev_W := ev_wm (a := 15) (i := 82) (r := ev_g15) rfl rfl
theorem ev_v1191 : (Cond.lays RX27 "TextShellModel$Word" "op" "I") ∈ ev_W := ev_wm (a := 15) (i := 83) (r := ev_g15) rfl rfl
theorem ev_v1192 : (Cond.lays RX27 "TextShellModel$Word" "line" "I") ∈ ev_W := ev_wm (a := 15) (i := 84) (r := ev_g15) rfl rfl
theorem ev_v1193 : (Cond.lays RX27 "TextShellModel$Word" "first" "LTextShellModel$Part;") ∈ ev_W := ev_wm (a := 15) (i := 85) (r := ev_g15) rfl rfl
theorem ev_v1194 : (Cond.lays RX27 "TextShellModel$Word" "raw" "[B") ∈ ev_W := ev_wm (a := 15) (i := 86) (r := ev_g15) rfl rfl
theorem ev_v1195 : (Cond.lays RX27 "TextShellModel$Word" "name" "[B") ∈ ev_W := ev_wm (a := 15) (i := 87) (r := ev_g15) rfl rfl
theorem ev_v1196 : (Cond.lays RX27 "TextShellModel$Word" "doc" "LTextShellModel$Doc;") ∈ ev_W := ev_wm (a := 15) (i := 88) (r := ev_g15) rfl rfl
theorem ev_v1197 : (Cond.lays RX27 "TextShellModel$Word" "next" "LTextShellModel$Word;") ∈ ev_W := ev_wm (a := 15) (i := 89) (r := ev_g15) rfl rfl
theorem ev_v1198 : (Cond.lays RX23 "TextShellModel$Part" "kind" "I") ∈ ev_W := ev_wm (a := 15) (i := 90) (r := ev_g15) rfl rfl
theorem ev_v1199 : (Cond.lays RX23 "TextShellModel$Part" "text" "[B") ∈ ev_W := ev_wm (a := 15) (i := 91) (r := ev_g15) rfl rfl
theorem ev_v1200 : (Cond.lays RX23 "TextShellModel$Part" "parts" "LTextShellModel$Part;") ∈ ev_W := ev_wm (a := 15) (i := 92) (r := ev_g15) rfl rfl
theorem ev_v1201 : (Cond.lays RX23 "TextShellModel$Part" "next" "LTextShellModel$Part;") ∈ ev_W := ev_wm (a := 15) (i := 93) (r := ev_g15) rfl rfl
theorem ev_v1202 : (Cond.lays RX23 "TextShellModel$Part" "sign" "I") ∈ ev_W := ev_wm (a := 15) (i := 94) (r := ev_g15) rfl rfl
theorem ev_v1203 : (Cond.lays RX23 "TextShellModel$Part" "colon" "Z") ∈ ev_W := ev_wm (a := 15) (i := 95) (r := ev_g15) rfl rfl
theorem ev_v1204 : (Cond.lays RX23 "TextShellModel$Part" "script" "LTextShellModel$AndOr;") ∈ ev_W := ev_wm (a := 15) (i := 96) (r := ev_g15) rfl rfl
theorem ev_v1205 : (Cond.initialized "java/lang/String") ∈ ev_W := ev_wm (a := 1) (i := 131) (r := ev_g1) rfl rfl
theorem ev_v1206 : (Cond.initialized "jdk/internal/util/Preconditions") ∈ ev_W := ev_wm (a := 1) (i := 132) (r := ev_g1) rfl rfl
theorem ev_v1207 : (Cond.initialized "java/util/ArrayList") ∈ ev_W := ev_wm (a := 1) (i := 133) (r := ev_g1) rfl rfl
theorem ev_v1208 : (Cond.initialized "java/lang/Throwable") ∈ ev_W := ev_wm (a := 1) (i := 134) (r := ev_g1) rfl rfl
theorem ev_wx0 : ∀ w ∈ (vx_at0 RX28 1451 "java/lang/IllegalStateException" ["java/lang/RuntimeException", "java/lang/Exception"]).filter goodWord, w ∈ ev_W := ev_wmL (a := 24) (r := ev_gx0) rfl
theorem ev_xg0 : ∀ w ∈ (vx_at0 RX28 1451 "java/lang/IllegalStateException" ["java/lang/RuntimeException", "java/lang/Exception"]).filter (fun w => !goodWord w), w ∈ [Cond.declares ⟨"java/lang/RuntimeException", "<init>", "()V"⟩, Cond.declares ⟨"java/lang/Exception", "<init>", "()V"⟩, Cond.declares ⟨"java/lang/Throwable", "<init>", "()V"⟩, Cond.castable "java/lang/IllegalStateException" "java/lang/IllegalStateException"] := by decide +kernel
theorem ev_xo0 : ∀ w ∈ Cond.classLink RX28 139 "java/lang/IllegalStateException" :: Cond.initialized "java/lang/IllegalStateException" :: vx_at0 RX28 1451 "java/lang/IllegalStateException" ["java/lang/RuntimeException", "java/lang/Exception"], vx_ot w = true := by decide +kernel
def ev_N : List Cond := [.methodLinkNest RX12 9 yX6_init "TextShell", .methodLinkNest RX12 26 yX2_init "TextShell", .methodLinkNest RX12 33 yX5_init "TextShell", .methodLinkNest RX12 42 yX7_init "TextShell", .methodLinkNest RX12 51 yX0_init "TextShell", .fieldLinkNest RX12 54 "TextShell$Shell" "expander" "LTextShell$Expander;" "TextShell", .methodLinkNest RX12 60 yX10_init "TextShell", .fieldLinkNest RX12 63 "TextShell$Shell" "tools" "LTextShell$Tools;" "TextShell", .fieldLinkNest RX12 67 "TextShell$Row" "length" "I" "TextShell", .methodLinkNest RX12 74 yX6_add "TextShell", .methodLinkNest RX12 181 yX6_at "TextShell", .methodLinkNest RX12 88 yX6_part "TextShell", .methodLinkNest RX12 166 yX6_isName "TextShell", .methodLinkNest RX12 197 yX6_isAliasText "TextShell", .methodLinkNest RX12 169 yX2_name "TextShell", .fieldLinkNest RX12 200 "TextShell$Name" "alias" "LTextShell$Row;" "TextShell", .methodLinkNest RX12 100 yX5_parse "TextShell", .fieldLinkNest RX12 110 "TextShell$Reader" "script" "LTextShell$Tree;" "TextShell", .fieldLinkNest RX12 111 "TextShell$Reader" "commands" "I" "TextShell", .arrayOver (.object "TextShell$Row"), .methodLinkNest RX0 24 yX6_init "TextShell", .arrayOver (.object "TextShell$Node"), .methodLinkNest RX0 63 yX9_init "TextShell", .arrayOver (.object "TextShell$Name"), .methodLinkNest RX2 39 yX6_init "TextShell", .methodLinkNest RX2 42 yX4_init "TextShell", .fieldLinkNest RX2 131 "TextShell$Name" "command" "I" "TextShell", .fieldLinkNest RX2 214 "TextShell$Row" "length" "I" "TextShell", .fieldLinkNest RX2 216 "TextShell$Row" "signs" "[C" "TextShell", .fieldLinkNest RX2 223 "TextShell$Name" "text" "LTextShell$Row;" "TextShell", .methodLinkNest RX2 226 yX6_same "TextShell", .fieldLinkNest RX2 230 "TextShell$Name" "next" "LTextShell$Name;" "TextShell", .methodLinkNest RX2 239 yX6_part "TextShell", .methodLinkNest RX2 243 yX3_init "TextShell", .fieldLinkNest RX2 91 "TextShell$Name" "reserved" "I" "TextShell", .methodLinkNest RX2 87 yX6_addText "TextShell", .arrayOver (.object "TextShell$Frame"), .arrayOver (.object "TextShell$Tree"), .methodLinkNest RX5 29 yX6_init "TextShell", .fieldLinkNest RX5 286 "TextShell$Frame" "state" "I" "TextShell", .methodLinkNest RX5 89 yX1_has "TextShell", .fieldLinkNest RX5 96 "TextShell$Frame" "kind" "I" "TextShell", .fieldLinkNest RX5 434 "TextShell$Frame" "waiting" "LTextShell$Tree;" "TextShell", .methodLinkNest RX5 229 yX11_init "TextShell", .fieldLinkNest RX5 443 "TextShell$Frame" "first" "LTextShell$Tree;" "TextShell", .fieldLinkNest RX5 363 "TextShell$Tree" "body" "LTextShell$Tree;" "TextShell", .fieldLinkNest RX5 210 "TextShell$Frame" "mark" "I" "TextShell", .fieldLinkNest RX5 234 "TextShell$Tree" "code" "[I" "TextShell", .fieldLinkNest RX5 207 "TextShell$Frame" "from" "I" "TextShell", .fieldLinkNest RX5 166 "TextShell$Stream" "at" "I" "TextShell", .fieldLinkNest RX5 248 "TextShell$Tree" "told" "LTextShell$Row;" "TextShell", .fieldLinkNest RX5 206 "TextShell$Frame" "line" "I" "TextShell", .fieldLinkNest RX5 66 "TextShell$Row" "length" "I" "TextShell", .methodLinkNest RX5 146 yX6_at "TextShell", .methodLinkNest RX5 257 yX12_isDigit "TextShell", .methodLinkNest RX5 137 yX1_init "TextShell", .methodLinkNest RX5 138 yX1_set "TextShell", .fieldLinkNest RX5 163 "TextShell$Stream" "data" "LTextShell$Row;" "TextShell", .fieldLinkNest RX5 186 "TextShell$Frame" "script" "LTextShell$Frame;" "TextShell", .fieldLinkNest RX5 121 "TextShell$Stream" "line" "I" "TextShell", .fieldLinkNest RX5 213 "TextShell$Frame" "flags" "I" "TextShell", .methodLinkNest RX5 142 yX6_part "TextShell", .methodLinkNest RX5 153 yX8_text "TextShell", .fieldLinkNest RX5 161 "TextShell$Frame" "source" "LTextShell$Stream;" "TextShell", .fieldLinkNest RX5 274 "TextShell$Stream" "aliases" "I" "TextShell", .methodLinkNest RX5 267 yX2_find "TextShell", .fieldLinkNest RX5 277 "TextShell$Name" "alias" "LTextShell$Row;" "TextShell", .fieldLinkNest RX5 219 "TextShell$Stream" "alias" "LTextShell$Name;" "TextShell", .fieldLinkNest RX5 223 "TextShell$Stream" "under" "LTextShell$Stream;" "TextShell", .fieldLinkNest RX5 271 "TextShell$Name" "reserved" "I" "TextShell", .methodLinkNest RX5 150 yX6_add "TextShell", .methodLinkNest RX6 63 yX12_beginsName "TextShell", .methodLinkNest RX6 69 yX12_isTextSign "TextShell", .arrayOver (.object "TextShell$Stream"), .methodLinkNest RX7 20 yX8_init "TextShell", .methodLinkNest RX7 61 yX6_init "TextShell", .methodLinkNest RX9 21 yX6_init "TextShell", .methodLinkNest RX10 11 yX6_init "TextShell", .arrayOver (.array .byte), .castable "java/lang/IllegalStateException" "java/lang/IllegalStateException", .declares ⟨"java/lang/Throwable", "<init>", "()V"⟩, .declares ⟨"java/lang/Exception", "<init>", "()V"⟩, .declares ⟨"java/lang/RuntimeException", "<init>", "()V"⟩, .methodLinkNest RX28 753 yX14_init "TextShellModel", .arrayOver (.object "TextShellModel$Open"), .methodLinkNest RX28 1456 yX26_init "TextShellModel", .arrayOver (.object "TextShellModel$Cmd"), .arrayOver (.array .int), .arrayOver (.object "TextShellModel$Node"), .fieldLinkNest RX28 122 "TextShellModel$Bytes" "n" "I" "TextShellModel", .fieldLinkNest RX28 537 "TextShellModel$Entry" "value" "[B" "TextShellModel", .fieldLinkNest RX28 549 "TextShellModel$Entry" "fixed" "Z" "TextShellModel", .fieldLinkNest RX28 497 "TextShellModel$Bytes" "b" "[B" "TextShellModel", .methodLinkNest RX28 477 yX22_init "TextShellModel", .fieldLinkNest RX28 479 "TextShellModel$Open" "kind" "I" "TextShellModel", .fieldLinkNest RX28 480 "TextShellModel$Open" "bytes" "LTextShellModel$Bytes;" "TextShellModel", .fieldLinkNest RX28 483 "TextShellModel$Open" "limit" "I" "TextShellModel", .fieldLinkNest RX28 486 "TextShellModel$Open" "file" "LTextShellModel$Node;" "TextShellModel", .fieldLinkNest RX28 86 "TextShellModel$Reader" "tells" "Z" "TextShellModel", .methodLinkNest RX28 90 yX25_next "TextShellModel", .methodLinkNest RX28 94 yX25_script "TextShellModel", .fieldLinkNest RX28 559 "TextShellModel$Entry" "table" "LTextShellModel$Table;" "TextShellModel", .fieldLinkNest RX28 563 "TextShellModel$Table" "many" "I" "TextShellModel", .fieldLinkNest RX28 547 "TextShellModel$Entry" "set" "Z" "TextShellModel", .fieldLinkNest RX28 568 "TextShellModel$Table" "fixed" "I" "TextShellModel", .fieldLinkNest RX28 518 "TextShellModel$Entry" "level" "I" "TextShellModel", .methodLinkNest RX25 24 yX19_init "TextShellModel", .fieldLinkNest RX25 29 "TextShellModel$Input" "b" "[B" "TextShellModel", .fieldLinkNest RX25 33 "TextShellModel$Input" "n" "I" "TextShellModel", .fieldLinkNest RX25 36 "TextShellModel$Input" "up" "LTextShellModel$Input;" "TextShellModel", .methodLinkNest RX25 253 yX27_init "TextShellModel", .fieldLinkNest RX25 254 "TextShellModel$Word" "line" "I" "TextShellModel", .fieldLinkNest RX25 58 "TextShellModel" "raw" "LTextShellModel$Bytes;" "TextShellModel", .fieldLinkNest RX25 84 "TextShellModel$Bytes" "n" "I" "TextShellModel", .fieldLinkNest RX25 258 "TextShellModel$Word" "first" "LTextShellModel$Part;" "TextShellModel", .fieldLinkNest RX25 132 "TextShellModel$Bytes" "b" "[B" "TextShellModel", .methodLinkNest RX25 133 yX28_rowOf "TextShellModel", .fieldLinkNest RX25 260 "TextShellModel$Word" "raw" "[B" "TextShellModel", .methodLinkNest RX25 158 yX28_isDigit "TextShellModel", .methodLinkNest RX25 318 yX28_isName "TextShellModel", .fieldLinkNest RX25 321 "TextShellModel" "aliases" "LTextShellModel$Table;" "TextShellModel", .fieldLinkNest RX25 330 "TextShellModel$Entry" "set" "Z" "TextShellModel", .fieldLinkNest RX25 339 "TextShellModel$Entry" "value" "[B" "TextShellModel", .methodLinkNest RX25 342 yX28_room "TextShellModel", .fieldLinkNest RX25 46 "TextShellModel$Input" "line" "I" "TextShellModel", .fieldLinkNest RX25 345 "TextShellModel$Input" "alias" "LTextShellModel$Entry;" "TextShellModel", .fieldLinkNest RX25 229 "TextShellModel$Input" "below" "LTextShellModel$Input;" "TextShellModel", .methodLinkNest RX25 281 yX28_is "TextShellModel", .fieldLinkNest RX25 81 "TextShellModel" "run" "LTextShellModel$Bytes;" "TextShellModel", .fieldLinkNest RX25 137 "TextShellModel$Part" "text" "[B" "TextShellModel", .fieldLinkNest RX25 42 "TextShellModel$Input" "lines" "[I" "TextShellModel", .fieldLinkNest RX25 49 "TextShellModel$Input" "pos" "I" "TextShellModel", .methodLinkNest RX25 77 yX23_init "TextShellModel", .fieldLinkNest RX25 78 "TextShellModel$Part" "kind" "I" "TextShellModel", .fieldLinkNest RX25 124 "TextShellModel$Part" "next" "LTextShellModel$Part;" "TextShellModel", .arrayOver (.object "TextShellModel$Entry"), .fieldLinkNest RX26 26 "TextShellModel$Entry" "name" "[B" "TextShellModel", .methodLinkNest RX26 30 yX28_same "TextShellModel", .methodLinkNest RX26 40 yX18_init "TextShellModel", .fieldLinkNest RX26 41 "TextShellModel$Entry" "table" "LTextShellModel$Table;" "TextShellModel", .fieldLinkNest RX26 36 "TextShellModel$Entry" "next" "LTextShellModel$Entry;" "TextShellModel"]
theorem ev_n0 : (Cond.methodLinkNest RX12 9 yX6_init "TextShell") ∈ ev_N := ev_mem (l := ev_N) 0 rfl
theorem ev_n1 : (Cond.methodLinkNest RX12 26 yX2_init "TextShell") ∈ ev_N := ev_mem (l := ev_N) 1 rfl
theorem ev_n2 : (Cond.methodLinkNest RX12 33 yX5_init "TextShell") ∈ ev_N := ev_mem (l := ev_N) 2 rfl
theorem ev_n3 : (Cond.methodLinkNest RX12 42 yX7_init "TextShell") ∈ ev_N := ev_mem (l := ev_N) 3 rfl
theorem ev_n4 : (Cond.methodLinkNest RX12 51 yX0_init "TextShell") ∈ ev_N := ev_mem (l := ev_N) 4 rfl
theorem ev_n5 : (Cond.fieldLinkNest RX12 54 "TextShell$Shell" "expander" "LTextShell$Expander;" "TextShell") ∈ ev_N := ev_mem (l := ev_N) 5 rfl
theorem ev_n6 : (Cond.methodLinkNest RX12 60 yX10_init "TextShell") ∈ ev_N := ev_mem (l := ev_N) 6 rfl
theorem ev_n7 : (Cond.fieldLinkNest RX12 63 "TextShell$Shell" "tools" "LTextShell$Tools;" "TextShell") ∈ ev_N := ev_mem (l := ev_N) 7 rfl
theorem ev_n8 : (Cond.fieldLinkNest RX12 67 "TextShell$Row" "length" "I" "TextShell") ∈ ev_N := ev_mem (l := ev_N) 8 rfl
theorem ev_n9 : (Cond.methodLinkNest RX12 74 yX6_add "TextShell") ∈ ev_N := ev_mem (l := ev_N) 9 rfl
theorem ev_n10 : (Cond.methodLinkNest RX12 181 yX6_at "TextShell") ∈ ev_N := ev_mem (l := ev_N) 10 rfl
theorem ev_n11 : (Cond.methodLinkNest RX12 88 yX6_part "TextShell") ∈ ev_N := ev_mem (l := ev_N) 11 rfl
theorem ev_n12 : (Cond.methodLinkNest RX12 166 yX6_isName "TextShell") ∈ ev_N := ev_mem (l := ev_N) 12 rfl
theorem ev_n13 : (Cond.methodLinkNest RX12 197 yX6_isAliasText "TextShell") ∈ ev_N := ev_mem (l := ev_N) 13 rfl
theorem ev_n14 : (Cond.methodLinkNest RX12 169 yX2_name "TextShell") ∈ ev_N := ev_mem (l := ev_N) 14 rfl
theorem ev_n15 : (Cond.fieldLinkNest RX12 200 "TextShell$Name" "alias" "LTextShell$Row;" "TextShell") ∈ ev_N := ev_mem (l := ev_N) 15 rfl
theorem ev_n16 : (Cond.methodLinkNest RX12 100 yX5_parse "TextShell") ∈ ev_N := ev_mem (l := ev_N) 16 rfl
theorem ev_n17 : (Cond.fieldLinkNest RX12 110 "TextShell$Reader" "script" "LTextShell$Tree;" "TextShell") ∈ ev_N := ev_mem (l := ev_N) 17 rfl
theorem ev_n18 : (Cond.fieldLinkNest RX12 111 "TextShell$Reader" "commands" "I" "TextShell") ∈ ev_N := ev_mem (l := ev_N) 18 rfl
theorem ev_n19 : (Cond.arrayOver (.object "TextShell$Row")) ∈ ev_N := ev_mem (l := ev_N) 19 rfl
theorem ev_n20 : (Cond.methodLinkNest RX0 24 yX6_init "TextShell") ∈ ev_N := ev_mem (l := ev_N) 20 rfl
theorem ev_n21 : (Cond.arrayOver (.object "TextShell$Node")) ∈ ev_N := ev_mem (l := ev_N) 21 rfl
theorem ev_n22 : (Cond.methodLinkNest RX0 63 yX9_init "TextShell") ∈ ev_N := ev_mem (l := ev_N) 22 rfl
theorem ev_n23 : (Cond.arrayOver (.object "TextShell$Name")) ∈ ev_N := ev_mem (l := ev_N) 23 rfl
theorem ev_n24 : (Cond.methodLinkNest RX2 39 yX6_init "TextShell") ∈ ev_N := ev_mem (l := ev_N) 24 rfl
theorem ev_n25 : (Cond.methodLinkNest RX2 42 yX4_init "TextShell") ∈ ev_N := ev_mem (l := ev_N) 25 rfl
theorem ev_n26 : (Cond.fieldLinkNest RX2 131 "TextShell$Name" "command" "I" "TextShell") ∈ ev_N := ev_mem (l := ev_N) 26 rfl
theorem ev_n27 : (Cond.fieldLinkNest RX2 214 "TextShell$Row" "length" "I" "TextShell") ∈ ev_N := ev_mem (l := ev_N) 27 rfl
theorem ev_n28 : (Cond.fieldLinkNest RX2 216 "TextShell$Row" "signs" "[C" "TextShell") ∈ ev_N := ev_mem (l := ev_N) 28 rfl
theorem ev_n29 : (Cond.fieldLinkNest RX2 223 "TextShell$Name" "text" "LTextShell$Row;" "TextShell") ∈ ev_N := ev_mem (l := ev_N) 29 rfl
theorem ev_n30 : (Cond.methodLinkNest RX2 226 yX6_same "TextShell") ∈ ev_N := ev_mem (l := ev_N) 30 rfl
theorem ev_n31 : (Cond.fieldLinkNest RX2 230 "TextShell$Name" "next" "LTextShell$Name;" "TextShell") ∈ ev_N := ev_mem (l := ev_N) 31 rfl
theorem ev_n32 : (Cond.methodLinkNest RX2 239 yX6_part "TextShell") ∈ ev_N := ev_mem (l := ev_N) 32 rfl
theorem ev_n33 : (Cond.methodLinkNest RX2 243 yX3_init "TextShell") ∈ ev_N := ev_mem (l := ev_N) 33 rfl
theorem ev_n34 : (Cond.fieldLinkNest RX2 91 "TextShell$Name" "reserved" "I" "TextShell") ∈ ev_N := ev_mem (l := ev_N) 34 rfl
theorem ev_n35 : (Cond.methodLinkNest RX2 87 yX6_addText "TextShell") ∈ ev_N := ev_mem (l := ev_N) 35 rfl
theorem ev_n36 : (Cond.arrayOver (.object "TextShell$Frame")) ∈ ev_N := ev_mem (l := ev_N) 36 rfl
theorem ev_n37 : (Cond.arrayOver (.object "TextShell$Tree")) ∈ ev_N := ev_mem (l := ev_N) 37 rfl
theorem ev_n38 : (Cond.methodLinkNest RX5 29 yX6_init "TextShell") ∈ ev_N := ev_mem (l := ev_N) 38 rfl
theorem ev_n39 : (Cond.fieldLinkNest RX5 286 "TextShell$Frame" "state" "I" "TextShell") ∈ ev_N := ev_mem (l := ev_N) 39 rfl
theorem ev_n40 : (Cond.methodLinkNest RX5 89 yX1_has "TextShell") ∈ ev_N := ev_mem (l := ev_N) 40 rfl
theorem ev_n41 : (Cond.fieldLinkNest RX5 96 "TextShell$Frame" "kind" "I" "TextShell") ∈ ev_N := ev_mem (l := ev_N) 41 rfl
theorem ev_n42 : (Cond.fieldLinkNest RX5 434 "TextShell$Frame" "waiting" "LTextShell$Tree;" "TextShell") ∈ ev_N := ev_mem (l := ev_N) 42 rfl
theorem ev_n43 : (Cond.methodLinkNest RX5 229 yX11_init "TextShell") ∈ ev_N := ev_mem (l := ev_N) 43 rfl
theorem ev_n44 : (Cond.fieldLinkNest RX5 443 "TextShell$Frame" "first" "LTextShell$Tree;" "TextShell") ∈ ev_N := ev_mem (l := ev_N) 44 rfl
theorem ev_n45 : (Cond.fieldLinkNest RX5 363 "TextShell$Tree" "body" "LTextShell$Tree;" "TextShell") ∈ ev_N := ev_mem (l := ev_N) 45 rfl
theorem ev_n46 : (Cond.fieldLinkNest RX5 210 "TextShell$Frame" "mark" "I" "TextShell") ∈ ev_N := ev_mem (l := ev_N) 46 rfl
theorem ev_n47 : (Cond.fieldLinkNest RX5 234 "TextShell$Tree" "code" "[I" "TextShell") ∈ ev_N := ev_mem (l := ev_N) 47 rfl
theorem ev_n48 : (Cond.fieldLinkNest RX5 207 "TextShell$Frame" "from" "I" "TextShell") ∈ ev_N := ev_mem (l := ev_N) 48 rfl
theorem ev_n49 : (Cond.fieldLinkNest RX5 166 "TextShell$Stream" "at" "I" "TextShell") ∈ ev_N := ev_mem (l := ev_N) 49 rfl
theorem ev_n50 : (Cond.fieldLinkNest RX5 248 "TextShell$Tree" "told" "LTextShell$Row;" "TextShell") ∈ ev_N := ev_mem (l := ev_N) 50 rfl
theorem ev_n51 : (Cond.fieldLinkNest RX5 206 "TextShell$Frame" "line" "I" "TextShell") ∈ ev_N := ev_mem (l := ev_N) 51 rfl
theorem ev_n52 : (Cond.fieldLinkNest RX5 66 "TextShell$Row" "length" "I" "TextShell") ∈ ev_N := ev_mem (l := ev_N) 52 rfl
theorem ev_n53 : (Cond.methodLinkNest RX5 146 yX6_at "TextShell") ∈ ev_N := ev_mem (l := ev_N) 53 rfl
theorem ev_n54 : (Cond.methodLinkNest RX5 257 yX12_isDigit "TextShell") ∈ ev_N := ev_mem (l := ev_N) 54 rfl
theorem ev_n55 : (Cond.methodLinkNest RX5 137 yX1_init "TextShell") ∈ ev_N := ev_mem (l := ev_N) 55 rfl
theorem ev_n56 : (Cond.methodLinkNest RX5 138 yX1_set "TextShell") ∈ ev_N := ev_mem (l := ev_N) 56 rfl
theorem ev_n57 : (Cond.fieldLinkNest RX5 163 "TextShell$Stream" "data" "LTextShell$Row;" "TextShell") ∈ ev_N := ev_mem (l := ev_N) 57 rfl
theorem ev_n58 : (Cond.fieldLinkNest RX5 186 "TextShell$Frame" "script" "LTextShell$Frame;" "TextShell") ∈ ev_N := ev_mem (l := ev_N) 58 rfl
theorem ev_n59 : (Cond.fieldLinkNest RX5 121 "TextShell$Stream" "line" "I" "TextShell") ∈ ev_N := ev_mem (l := ev_N) 59 rfl
theorem ev_n60 : (Cond.fieldLinkNest RX5 213 "TextShell$Frame" "flags" "I" "TextShell") ∈ ev_N := ev_mem (l := ev_N) 60 rfl
theorem ev_n61 : (Cond.methodLinkNest RX5 142 yX6_part "TextShell") ∈ ev_N := ev_mem (l := ev_N) 61 rfl
theorem ev_n62 : (Cond.methodLinkNest RX5 153 yX8_text "TextShell") ∈ ev_N := ev_mem (l := ev_N) 62 rfl
theorem ev_n63 : (Cond.fieldLinkNest RX5 161 "TextShell$Frame" "source" "LTextShell$Stream;" "TextShell") ∈ ev_N := ev_mem (l := ev_N) 63 rfl
theorem ev_n64 : (Cond.fieldLinkNest RX5 274 "TextShell$Stream" "aliases" "I" "TextShell") ∈ ev_N := ev_mem (l := ev_N) 64 rfl
theorem ev_n65 : (Cond.methodLinkNest RX5 267 yX2_find "TextShell") ∈ ev_N := ev_mem (l := ev_N) 65 rfl
theorem ev_n66 : (Cond.fieldLinkNest RX5 277 "TextShell$Name" "alias" "LTextShell$Row;" "TextShell") ∈ ev_N := ev_mem (l := ev_N) 66 rfl
theorem ev_n67 : (Cond.fieldLinkNest RX5 219 "TextShell$Stream" "alias" "LTextShell$Name;" "TextShell") ∈ ev_N := ev_mem (l := ev_N) 67 rfl
theorem ev_n68 : (Cond.fieldLinkNest RX5 223 "TextShell$Stream" "under" "LTextShell$Stream;" "TextShell") ∈ ev_N := ev_mem (l := ev_N) 68 rfl
theorem ev_n69 : (Cond.fieldLinkNest RX5 271 "TextShell$Name" "reserved" "I" "TextShell") ∈ ev_N := ev_mem (l := ev_N) 69 rfl
theorem ev_n70 : (Cond.methodLinkNest RX5 150 yX6_add "TextShell") ∈ ev_N := ev_mem (l := ev_N) 70 rfl
theorem ev_n71 : (Cond.methodLinkNest RX6 63 yX12_beginsName "TextShell") ∈ ev_N := ev_mem (l := ev_N) 71 rfl
theorem ev_n72 : (Cond.methodLinkNest RX6 69 yX12_isTextSign "TextShell") ∈ ev_N := ev_mem (l := ev_N) 72 rfl
theorem ev_n73 : (Cond.arrayOver (.object "TextShell$Stream")) ∈ ev_N := ev_mem (l := ev_N) 73 rfl
theorem ev_n74 : (Cond.methodLinkNest RX7 20 yX8_init "TextShell") ∈ ev_N := ev_mem (l := ev_N) 74 rfl
theorem ev_n75 : (Cond.methodLinkNest RX7 61 yX6_init "TextShell") ∈ ev_N := ev_mem (l := ev_N) 75 rfl
theorem ev_n76 : (Cond.methodLinkNest RX9 21 yX6_init "TextShell") ∈ ev_N := ev_mem (l := ev_N) 76 rfl
theorem ev_n77 : (Cond.methodLinkNest RX10 11 yX6_init "TextShell") ∈ ev_N := ev_mem (l := ev_N) 77 rfl
theorem ev_n78 : (Cond.arrayOver (.array .byte)) ∈ ev_N := ev_mem (l := ev_N) 78 rfl
theorem ev_n79 : (Cond.castable "java/lang/IllegalStateException" "java/lang/IllegalStateException") ∈ ev_N := ev_mem (l := ev_N) 79 rfl
theorem ev_n80 : (Cond.declares ⟨"java/lang/Throwable", "<init>", "()V"⟩) ∈ ev_N := ev_mem (l := ev_N) 80 rfl
theorem ev_n81 : (Cond.declares ⟨"java/lang/Exception", "<init>", "()V"⟩) ∈ ev_N := ev_mem (l := ev_N) 81 rfl
theorem ev_n82 : (Cond.declares ⟨"java/lang/RuntimeException", "<init>", "()V"⟩) ∈ ev_N := ev_mem (l := ev_N) 82 rfl
theorem ev_n83 : (Cond.methodLinkNest RX28 753 yX14_init "TextShellModel") ∈ ev_N := ev_mem (l := ev_N) 83 rfl
theorem ev_n84 : (Cond.arrayOver (.object "TextShellModel$Open")) ∈ ev_N := ev_mem (l := ev_N) 84 rfl
theorem ev_n85 : (Cond.methodLinkNest RX28 1456 yX26_init "TextShellModel") ∈ ev_N := ev_mem (l := ev_N) 85 rfl
theorem ev_n86 : (Cond.arrayOver (.object "TextShellModel$Cmd")) ∈ ev_N := ev_mem (l := ev_N) 86 rfl
theorem ev_n87 : (Cond.arrayOver (.array .int)) ∈ ev_N := ev_mem (l := ev_N) 87 rfl
theorem ev_n88 : (Cond.arrayOver (.object "TextShellModel$Node")) ∈ ev_N := ev_mem (l := ev_N) 88 rfl
theorem ev_n89 : (Cond.fieldLinkNest RX28 122 "TextShellModel$Bytes" "n" "I" "TextShellModel") ∈ ev_N := ev_mem (l := ev_N) 89 rfl
theorem ev_n90 : (Cond.fieldLinkNest RX28 537 "TextShellModel$Entry" "value" "[B" "TextShellModel") ∈ ev_N := ev_mem (l := ev_N) 90 rfl
theorem ev_n91 : (Cond.fieldLinkNest RX28 549 "TextShellModel$Entry" "fixed" "Z" "TextShellModel") ∈ ev_N := ev_mem (l := ev_N) 91 rfl
theorem ev_n92 : (Cond.fieldLinkNest RX28 497 "TextShellModel$Bytes" "b" "[B" "TextShellModel") ∈ ev_N := ev_mem (l := ev_N) 92 rfl
theorem ev_n93 : (Cond.methodLinkNest RX28 477 yX22_init "TextShellModel") ∈ ev_N := ev_mem (l := ev_N) 93 rfl
theorem ev_n94 : (Cond.fieldLinkNest RX28 479 "TextShellModel$Open" "kind" "I" "TextShellModel") ∈ ev_N := ev_mem (l := ev_N) 94 rfl
theorem ev_n95 : (Cond.fieldLinkNest RX28 480 "TextShellModel$Open" "bytes" "LTextShellModel$Bytes;" "TextShellModel") ∈ ev_N := ev_mem (l := ev_N) 95 rfl
theorem ev_n96 : (Cond.fieldLinkNest RX28 483 "TextShellModel$Open" "limit" "I" "TextShellModel") ∈ ev_N := ev_mem (l := ev_N) 96 rfl
theorem ev_n97 : (Cond.fieldLinkNest RX28 486 "TextShellModel$Open" "file" "LTextShellModel$Node;" "TextShellModel") ∈ ev_N := ev_mem (l := ev_N) 97 rfl
theorem ev_n98 : (Cond.fieldLinkNest RX28 86 "TextShellModel$Reader" "tells" "Z" "TextShellModel") ∈ ev_N := ev_mem (l := ev_N) 98 rfl
theorem ev_n99 : (Cond.methodLinkNest RX28 90 yX25_next "TextShellModel") ∈ ev_N := ev_mem (l := ev_N) 99 rfl
theorem ev_n100 : (Cond.methodLinkNest RX28 94 yX25_script "TextShellModel") ∈ ev_N := ev_mem (l := ev_N) 100 rfl
theorem ev_n101 : (Cond.fieldLinkNest RX28 559 "TextShellModel$Entry" "table" "LTextShellModel$Table;" "TextShellModel") ∈ ev_N := ev_mem (l := ev_N) 101 rfl
theorem ev_n102 : (Cond.fieldLinkNest RX28 563 "TextShellModel$Table" "many" "I" "TextShellModel") ∈ ev_N := ev_mem (l := ev_N) 102 rfl
theorem ev_n103 : (Cond.fieldLinkNest RX28 547 "TextShellModel$Entry" "set" "Z" "TextShellModel") ∈ ev_N := ev_mem (l := ev_N) 103 rfl
theorem ev_n104 : (Cond.fieldLinkNest RX28 568 "TextShellModel$Table" "fixed" "I" "TextShellModel") ∈ ev_N := ev_mem (l := ev_N) 104 rfl
theorem ev_n105 : (Cond.fieldLinkNest RX28 518 "TextShellModel$Entry" "level" "I" "TextShellModel") ∈ ev_N := ev_mem (l := ev_N) 105 rfl
theorem ev_n106 : (Cond.methodLinkNest RX25 24 yX19_init "TextShellModel") ∈ ev_N := ev_mem (l := ev_N) 106 rfl
theorem ev_n107 : (Cond.fieldLinkNest RX25 29 "TextShellModel$Input" "b" "[B" "TextShellModel") ∈ ev_N := ev_mem (l := ev_N) 107 rfl
theorem ev_n108 : (Cond.fieldLinkNest RX25 33 "TextShellModel$Input" "n" "I" "TextShellModel") ∈ ev_N := ev_mem (l := ev_N) 108 rfl
theorem ev_n109 : (Cond.fieldLinkNest RX25 36 "TextShellModel$Input" "up" "LTextShellModel$Input;" "TextShellModel") ∈ ev_N := ev_mem (l := ev_N) 109 rfl
theorem ev_n110 : (Cond.methodLinkNest RX25 253 yX27_init "TextShellModel") ∈ ev_N := ev_mem (l := ev_N) 110 rfl
theorem ev_n111 : (Cond.fieldLinkNest RX25 254 "TextShellModel$Word" "line" "I" "TextShellModel") ∈ ev_N := ev_mem (l := ev_N) 111 rfl
theorem ev_n112 : (Cond.fieldLinkNest RX25 58 "TextShellModel" "raw" "LTextShellModel$Bytes;" "TextShellModel") ∈ ev_N := ev_mem (l := ev_N) 112 rfl
theorem ev_n113 : (Cond.fieldLinkNest RX25 84 "TextShellModel$Bytes" "n" "I" "TextShellModel") ∈ ev_N := ev_mem (l := ev_N) 113 rfl
theorem ev_n114 : (Cond.fieldLinkNest RX25 258 "TextShellModel$Word" "first" "LTextShellModel$Part;" "TextShellModel") ∈ ev_N := ev_mem (l := ev_N) 114 rfl
theorem ev_n115 : (Cond.fieldLinkNest RX25 132 "TextShellModel$Bytes" "b" "[B" "TextShellModel") ∈ ev_N := ev_mem (l := ev_N) 115 rfl
theorem ev_n116 : (Cond.methodLinkNest RX25 133 yX28_rowOf "TextShellModel") ∈ ev_N := ev_mem (l := ev_N) 116 rfl
theorem ev_n117 : (Cond.fieldLinkNest RX25 260 "TextShellModel$Word" "raw" "[B" "TextShellModel") ∈ ev_N := ev_mem (l := ev_N) 117 rfl
theorem ev_n118 : (Cond.methodLinkNest RX25 158 yX28_isDigit "TextShellModel") ∈ ev_N := ev_mem (l := ev_N) 118 rfl
theorem ev_n119 : (Cond.methodLinkNest RX25 318 yX28_isName "TextShellModel") ∈ ev_N := ev_mem (l := ev_N) 119 rfl
theorem ev_n120 : (Cond.fieldLinkNest RX25 321 "TextShellModel" "aliases" "LTextShellModel$Table;" "TextShellModel") ∈ ev_N := ev_mem (l := ev_N) 120 rfl
theorem ev_n121 : (Cond.fieldLinkNest RX25 330 "TextShellModel$Entry" "set" "Z" "TextShellModel") ∈ ev_N := ev_mem (l := ev_N) 121 rfl
theorem ev_n122 : (Cond.fieldLinkNest RX25 339 "TextShellModel$Entry" "value" "[B" "TextShellModel") ∈ ev_N := ev_mem (l := ev_N) 122 rfl
theorem ev_n123 : (Cond.methodLinkNest RX25 342 yX28_room "TextShellModel") ∈ ev_N := ev_mem (l := ev_N) 123 rfl
theorem ev_n124 : (Cond.fieldLinkNest RX25 46 "TextShellModel$Input" "line" "I" "TextShellModel") ∈ ev_N := ev_mem (l := ev_N) 124 rfl
theorem ev_n125 : (Cond.fieldLinkNest RX25 345 "TextShellModel$Input" "alias" "LTextShellModel$Entry;" "TextShellModel") ∈ ev_N := ev_mem (l := ev_N) 125 rfl
theorem ev_n126 : (Cond.fieldLinkNest RX25 229 "TextShellModel$Input" "below" "LTextShellModel$Input;" "TextShellModel") ∈ ev_N := ev_mem (l := ev_N) 126 rfl
theorem ev_n127 : (Cond.methodLinkNest RX25 281 yX28_is "TextShellModel") ∈ ev_N := ev_mem (l := ev_N) 127 rfl
theorem ev_n128 : (Cond.fieldLinkNest RX25 81 "TextShellModel" "run" "LTextShellModel$Bytes;" "TextShellModel") ∈ ev_N := ev_mem (l := ev_N) 128 rfl
theorem ev_n129 : (Cond.fieldLinkNest RX25 137 "TextShellModel$Part" "text" "[B" "TextShellModel") ∈ ev_N := ev_mem (l := ev_N) 129 rfl
theorem ev_n130 : (Cond.fieldLinkNest RX25 42 "TextShellModel$Input" "lines" "[I" "TextShellModel") ∈ ev_N := ev_mem (l := ev_N) 130 rfl
theorem ev_n131 : (Cond.fieldLinkNest RX25 49 "TextShellModel$Input" "pos" "I" "TextShellModel") ∈ ev_N := ev_mem (l := ev_N) 131 rfl
theorem ev_n132 : (Cond.methodLinkNest RX25 77 yX23_init "TextShellModel") ∈ ev_N := ev_mem (l := ev_N) 132 rfl
theorem ev_n133 : (Cond.fieldLinkNest RX25 78 "TextShellModel$Part" "kind" "I" "TextShellModel") ∈ ev_N := ev_mem (l := ev_N) 133 rfl
theorem ev_n134 : (Cond.fieldLinkNest RX25 124 "TextShellModel$Part" "next" "LTextShellModel$Part;" "TextShellModel") ∈ ev_N := ev_mem (l := ev_N) 134 rfl
theorem ev_n135 : (Cond.arrayOver (.object "TextShellModel$Entry")) ∈ ev_N := ev_mem (l := ev_N) 135 rfl
theorem ev_n136 : (Cond.fieldLinkNest RX26 26 "TextShellModel$Entry" "name" "[B" "TextShellModel") ∈ ev_N := ev_mem (l := ev_N) 136 rfl
theorem ev_n137 : (Cond.methodLinkNest RX26 30 yX28_same "TextShellModel") ∈ ev_N := ev_mem (l := ev_N) 137 rfl
theorem ev_n138 : (Cond.methodLinkNest RX26 40 yX18_init "TextShellModel") ∈ ev_N := ev_mem (l := ev_N) 138 rfl
theorem ev_n139 : (Cond.fieldLinkNest RX26 41 "TextShellModel$Entry" "table" "LTextShellModel$Table;" "TextShellModel") ∈ ev_N := ev_mem (l := ev_N) 139 rfl
theorem ev_n140 : (Cond.fieldLinkNest RX26 36 "TextShellModel$Entry" "next" "LTextShellModel$Entry;" "TextShellModel") ∈ ev_N := ev_mem (l := ev_N) 140 rfl
def ev_Ls : List (String × Nat × String × Nat) := [(RX2, 56, "IFS", 0), (RX2, 70, "HOME", 2), (RX2, 134, ":", 36), (RX2, 138, ".", 38), (RX2, 140, "eval", 40), (RX2, 142, "break", 42), (RX2, 144, "continue", 44), (RX2, 146, "return", 46), (RX2, 148, "exit", 48), (RX2, 150, "set", 50), (RX2, 152, "shift", 52), (RX2, 154, "unset", 54), (RX2, 156, "readonly", 56), (RX2, 158, "export", 58), (RX2, 160, "true", 60), (RX2, 162, "false", 62), (RX2, 164, "echo", 64), (RX2, 166, "printf", 66), (RX2, 168, "test", 68), (RX2, 170, "[", 70), (RX2, 172, "read", 72), (RX2, 174, "cd", 74), (RX2, 176, "pwd", 76), (RX2, 178, "alias", 78), (RX2, 180, "unalias", 80), (RX2, 182, "cat", 82), (RX2, 184, "wc", 84), (RX2, 186, "head", 86), (RX2, 188, "tail", 88), (RX2, 190, "sort", 90), (RX2, 192, "uniq", 92), (RX2, 194, "tr", 94), (RX2, 196, "cut", 96), (RX2, 198, "grep", 98), (RX2, 200, "seq", 100), (RX2, 202, "ls", 102), (RX2, 204, "mkdir", 104), (RX2, 206, "rm", 106), (RX2, 208, "touch", 108), (RX2, 210, "cp", 110), (RX2, 212, "mv", 112), (RX2, 95, "!", 4), (RX2, 101, "{", 6), (RX2, 103, "}", 8), (RX2, 105, "case", 10), (RX2, 107, "do", 12), (RX2, 109, "done", 14), (RX2, 111, "elif", 16), (RX2, 113, "else", 18), (RX2, 115, "esac", 20), (RX2, 117, "fi", 22), (RX2, 119, "for", 24), (RX2, 121, "if", 26), (RX2, 123, "in", 28), (RX2, 125, "then", 30), (RX2, 127, "until", 32), (RX2, 129, "while", 34), (RX25, 279, "!", 114), (RX25, 285, "{", 116), (RX25, 287, "case", 118), (RX25, 289, "for", 120), (RX25, 291, "if", 122), (RX25, 293, "until", 124), (RX25, 295, "while", 126), (RX25, 297, "}", 128), (RX25, 299, "do", 130), (RX25, 301, "done", 132), (RX25, 303, "elif", 134), (RX25, 305, "else", 136), (RX25, 307, "esac", 138), (RX25, 309, "fi", 140), (RX25, 311, "in", 142), (RX25, 312, "then", 144)]
theorem ev_l0 : (RX2, 56, "IFS", 0) ∈ ev_Ls := ev_mem (l := ev_Ls) 0 rfl
theorem ev_l1 : (RX2, 70, "HOME", 2) ∈ ev_Ls := ev_mem (l := ev_Ls) 1 rfl
theorem ev_l2 : (RX2, 134, ":", 36) ∈ ev_Ls := ev_mem (l := ev_Ls) 2 rfl
theorem ev_l3 : (RX2, 138, ".", 38) ∈ ev_Ls := ev_mem (l := ev_Ls) 3 rfl
theorem ev_l4 : (RX2, 140, "eval", 40) ∈ ev_Ls := ev_mem (l := ev_Ls) 4 rfl
theorem ev_l5 : (RX2, 142, "break", 42) ∈ ev_Ls := ev_mem (l := ev_Ls) 5 rfl
theorem ev_l6 : (RX2, 144, "continue", 44) ∈ ev_Ls := ev_mem (l := ev_Ls) 6 rfl
theorem ev_l7 : (RX2, 146, "return", 46) ∈ ev_Ls := ev_mem (l := ev_Ls) 7 rfl
theorem ev_l8 : (RX2, 148, "exit", 48) ∈ ev_Ls := ev_mem (l := ev_Ls) 8 rfl
theorem ev_l9 : (RX2, 150, "set", 50) ∈ ev_Ls := ev_mem (l := ev_Ls) 9 rfl
theorem ev_l10 : (RX2, 152, "shift", 52) ∈ ev_Ls := ev_mem (l := ev_Ls) 10 rfl
theorem ev_l11 : (RX2, 154, "unset", 54) ∈ ev_Ls := ev_mem (l := ev_Ls) 11 rfl
theorem ev_l12 : (RX2, 156, "readonly", 56) ∈ ev_Ls := ev_mem (l := ev_Ls) 12 rfl
theorem ev_l13 : (RX2, 158, "export", 58) ∈ ev_Ls := ev_mem (l := ev_Ls) 13 rfl
theorem ev_l14 : (RX2, 160, "true", 60) ∈ ev_Ls := ev_mem (l := ev_Ls) 14 rfl
theorem ev_l15 : (RX2, 162, "false", 62) ∈ ev_Ls := ev_mem (l := ev_Ls) 15 rfl
theorem ev_l16 : (RX2, 164, "echo", 64) ∈ ev_Ls := ev_mem (l := ev_Ls) 16 rfl
theorem ev_l17 : (RX2, 166, "printf", 66) ∈ ev_Ls := ev_mem (l := ev_Ls) 17 rfl
theorem ev_l18 : (RX2, 168, "test", 68) ∈ ev_Ls := ev_mem (l := ev_Ls) 18 rfl
theorem ev_l19 : (RX2, 170, "[", 70) ∈ ev_Ls := ev_mem (l := ev_Ls) 19 rfl
theorem ev_l20 : (RX2, 172, "read", 72) ∈ ev_Ls := ev_mem (l := ev_Ls) 20 rfl
theorem ev_l21 : (RX2, 174, "cd", 74) ∈ ev_Ls := ev_mem (l := ev_Ls) 21 rfl
theorem ev_l22 : (RX2, 176, "pwd", 76) ∈ ev_Ls := ev_mem (l := ev_Ls) 22 rfl
theorem ev_l23 : (RX2, 178, "alias", 78) ∈ ev_Ls := ev_mem (l := ev_Ls) 23 rfl
theorem ev_l24 : (RX2, 180, "unalias", 80) ∈ ev_Ls := ev_mem (l := ev_Ls) 24 rfl
theorem ev_l25 : (RX2, 182, "cat", 82) ∈ ev_Ls := ev_mem (l := ev_Ls) 25 rfl
theorem ev_l26 : (RX2, 184, "wc", 84) ∈ ev_Ls := ev_mem (l := ev_Ls) 26 rfl
theorem ev_l27 : (RX2, 186, "head", 86) ∈ ev_Ls := ev_mem (l := ev_Ls) 27 rfl
theorem ev_l28 : (RX2, 188, "tail", 88) ∈ ev_Ls := ev_mem (l := ev_Ls) 28 rfl
theorem ev_l29 : (RX2, 190, "sort", 90) ∈ ev_Ls := ev_mem (l := ev_Ls) 29 rfl
theorem ev_l30 : (RX2, 192, "uniq", 92) ∈ ev_Ls := ev_mem (l := ev_Ls) 30 rfl
theorem ev_l31 : (RX2, 194, "tr", 94) ∈ ev_Ls := ev_mem (l := ev_Ls) 31 rfl
theorem ev_l32 : (RX2, 196, "cut", 96) ∈ ev_Ls := ev_mem (l := ev_Ls) 32 rfl
theorem ev_l33 : (RX2, 198, "grep", 98) ∈ ev_Ls := ev_mem (l := ev_Ls) 33 rfl
theorem ev_l34 : (RX2, 200, "seq", 100) ∈ ev_Ls := ev_mem (l := ev_Ls) 34 rfl
theorem ev_l35 : (RX2, 202, "ls", 102) ∈ ev_Ls := ev_mem (l := ev_Ls) 35 rfl
theorem ev_l36 : (RX2, 204, "mkdir", 104) ∈ ev_Ls := ev_mem (l := ev_Ls) 36 rfl
theorem ev_l37 : (RX2, 206, "rm", 106) ∈ ev_Ls := ev_mem (l := ev_Ls) 37 rfl
theorem ev_l38 : (RX2, 208, "touch", 108) ∈ ev_Ls := ev_mem (l := ev_Ls) 38 rfl
theorem ev_l39 : (RX2, 210, "cp", 110) ∈ ev_Ls := ev_mem (l := ev_Ls) 39 rfl
theorem ev_l40 : (RX2, 212, "mv", 112) ∈ ev_Ls := ev_mem (l := ev_Ls) 40 rfl
theorem ev_l41 : (RX2, 95, "!", 4) ∈ ev_Ls := ev_mem (l := ev_Ls) 41 rfl
theorem ev_l42 : (RX2, 101, "{", 6) ∈ ev_Ls := ev_mem (l := ev_Ls) 42 rfl
theorem ev_l43 : (RX2, 103, "}", 8) ∈ ev_Ls := ev_mem (l := ev_Ls) 43 rfl
theorem ev_l44 : (RX2, 105, "case", 10) ∈ ev_Ls := ev_mem (l := ev_Ls) 44 rfl
theorem ev_l45 : (RX2, 107, "do", 12) ∈ ev_Ls := ev_mem (l := ev_Ls) 45 rfl
theorem ev_l46 : (RX2, 109, "done", 14) ∈ ev_Ls := ev_mem (l := ev_Ls) 46 rfl
theorem ev_l47 : (RX2, 111, "elif", 16) ∈ ev_Ls := ev_mem (l := ev_Ls) 47 rfl
theorem ev_l48 : (RX2, 113, "else", 18) ∈ ev_Ls := ev_mem (l := ev_Ls) 48 rfl
theorem ev_l49 : (RX2, 115, "esac", 20) ∈ ev_Ls := ev_mem (l := ev_Ls) 49 rfl
theorem ev_l50 : (RX2, 117, "fi", 22) ∈ ev_Ls := ev_mem (l := ev_Ls) 50 rfl
theorem ev_l51 : (RX2, 119, "for", 24) ∈ ev_Ls := ev_mem (l := ev_Ls) 51 rfl
theorem ev_l52 : (RX2, 121, "if", 26) ∈ ev_Ls := ev_mem (l := ev_Ls) 52 rfl
theorem ev_l53 : (RX2, 123, "in", 28) ∈ ev_Ls := ev_mem (l := ev_Ls) 53 rfl
theorem ev_l54 : (RX2, 125, "then", 30) ∈ ev_Ls := ev_mem (l := ev_Ls) 54 rfl
theorem ev_l55 : (RX2, 127, "until", 32) ∈ ev_Ls := ev_mem (l := ev_Ls) 55 rfl
theorem ev_l56 : (RX2, 129, "while", 34) ∈ ev_Ls := ev_mem (l := ev_Ls) 56 rfl
theorem ev_l57 : (RX25, 279, "!", 114) ∈ ev_Ls := ev_mem (l := ev_Ls) 57 rfl
theorem ev_l58 : (RX25, 285, "{", 116) ∈ ev_Ls := ev_mem (l := ev_Ls) 58 rfl
theorem ev_l59 : (RX25, 287, "case", 118) ∈ ev_Ls := ev_mem (l := ev_Ls) 59 rfl
theorem ev_l60 : (RX25, 289, "for", 120) ∈ ev_Ls := ev_mem (l := ev_Ls) 60 rfl
theorem ev_l61 : (RX25, 291, "if", 122) ∈ ev_Ls := ev_mem (l := ev_Ls) 61 rfl
theorem ev_l62 : (RX25, 293, "until", 124) ∈ ev_Ls := ev_mem (l := ev_Ls) 62 rfl
theorem ev_l63 : (RX25, 295, "while", 126) ∈ ev_Ls := ev_mem (l := ev_Ls) 63 rfl
theorem ev_l64 : (RX25, 297, "}", 128) ∈ ev_Ls := ev_mem (l := ev_Ls) 64 rfl
theorem ev_l65 : (RX25, 299, "do", 130) ∈ ev_Ls := ev_mem (l := ev_Ls) 65 rfl
theorem ev_l66 : (RX25, 301, "done", 132) ∈ ev_Ls := ev_mem (l := ev_Ls) 66 rfl
theorem ev_l67 : (RX25, 303, "elif", 134) ∈ ev_Ls := ev_mem (l := ev_Ls) 67 rfl
theorem ev_l68 : (RX25, 305, "else", 136) ∈ ev_Ls := ev_mem (l := ev_Ls) 68 rfl
theorem ev_l69 : (RX25, 307, "esac", 138) ∈ ev_Ls := ev_mem (l := ev_Ls) 69 rfl
theorem ev_l70 : (RX25, 309, "fi", 140) ∈ ev_Ls := ev_mem (l := ev_Ls) 70 rfl
theorem ev_l71 : (RX25, 311, "in", 142) ∈ ev_Ls := ev_mem (l := ev_Ls) 71 rfl
theorem ev_l72 : (RX25, 312, "then", 144) ∈ ev_Ls := ev_mem (l := ev_Ls) 72 rfl
def ev_ys : List MethodName := [yX12_init, yX12_beginsName, yX12_feed, yX12_feed, yX12_feed, yX12_feedFour, yX12_feedFour, yX12_feedFour, yX12_holds, yX12_isDigit, yX12_isTextSign, yX12_put, yX12_putAlias, yX12_read, yX0_init, yX1_init, yX1_has, yX1_set, yX2_init, yX2_command, yX2_find, yX2_name, yX2_reserve, yX2_row, yX2_tellCommands, yX2_tellReserved, yX3_init, yX4_init, yX5_init, yX5_accept, yX5_atBegin, yX5_bareSign, yX5_begins, yX5_closeByToken, yX5_cutCode, yX5_emit, yX5_endText, yX5_endWord, yX5_endsWord, yX5_enter, yX5_isPlain, yX5_isRedirection, yX5_look, yX5_newline, yX5_nextToken, yX5_openText, yX5_operator, yX5_parse, yX5_pass, yX5_replaced, yX5_reservedAs, yX5_skipBlanks, yX5_told, yX5_top, yX6_init, yX6_init, yX6_init, yX6_add, yX6_add, yX6_add, yX6_addText, yX6_at, yX6_isAliasText, yX6_isName, yX6_isNameUpTo, yX6_isText, yX6_part, yX6_part, yX6_place, yX6_same, yX7_init, yX8_init, yX8_text, yX9_init, yX10_init, yX11_init, yL_law, yL_put, yL_read, yX28_init, yX28_begin0, yX28_change, yX28_fails, yX28_feed, yX28_feed, yX28_feed, yX28_feed, yX28_five, yX28_five, yX28_five, yX28_five, yX28_has_, yX28_is, yX28_isAliasText, yX28_isDigit, yX28_isLetter, yX28_isName, yX28_isText, yX28_isTextByte, yX28_nameEnd, yX28_oneByte, yX28_opened, yX28_part, yX28_part, yX28_put_, yX28_read_, yX28_reads, yX28_room, yX28_rowOf, yX28_same, yX28_scriptOf, yX28_setTo, yX28_taken, yX28_touch, yX14_init, yX14_add, yX14_add, yX14_add, yX14_add, yX18_init, yX19_init, yX21_init, yX22_init, yX23_init, yX25_init, yX25_aWord, yX25_aliases, yX25_begins, yX25_closes, yX25_ends, yX25_flushed, yX25_isBlank, yX25_isFree, yX25_isReserved, yX25_line, yX25_linked, yX25_look, yX25_made, yX25_next, yX25_parts, yX25_plain, yX25_script, yX25_settle, yX25_take, yX26_init, yX26_chain, yX26_clear, yX26_find, yX27_init, yJ0_charAt_5068e, yJ0_checkIndex_df160, yJ0_coder_7d493, yJ0_isLatin1_aae02, yJ0_length_8abf5, yJ1_charAt_3b067, yJxa1e45_init_da8c8, yJxc12de_init_da8c8, yJx4a65c_init_da8c8, yJ3_checkIndex_8e157]
def ev_y (i : Nat) : MethodName := match ev_lg ev_ys i with
  | some t => t
  | none => objectInit
def ev_cds : List Cond := [.code yX12_init cX12_init 2 none, .code yX12_beginsName cX12_beginsName 1 (some .boolean), .code yX12_feed cX12_feed 6 (some .int), .code yX12_feed cX12_feed 6 (some .int), .code yX12_feed cX12_feed 6 (some .int), .code yX12_feedFour cX12_feedFour 2 none, .code yX12_feedFour cX12_feedFour 2 none, .code yX12_feedFour cX12_feedFour 2 none, .code yX12_holds cX12_holds 4 (some .boolean), .code yX12_isDigit cX12_isDigit 1 (some .boolean), .code yX12_isTextSign cX12_isTextSign 1 (some .boolean), .code yX12_put cX12_put 6 (some .boolean), .code yX12_putAlias cX12_putAlias 3 (some .boolean), .code yX12_read cX12_read 3 (some .int), .code yX0_init cX0_init 4 none, .code yX1_init cX1_init 1 none, .code yX1_has cX1_has 2 (some .boolean), .code yX1_set cX1_set 4 none, .code yX2_init cX2_init 1 none, .code yX2_command cX2_command 3 none, .code yX2_find cX2_find 4 (some (.object "TextShell$Name")), .code yX2_name cX2_name 5 (some (.object "TextShell$Name")), .code yX2_reserve cX2_reserve 3 none, .code yX2_row cX2_row 2 (some (.object "TextShell$Row")), .code yX2_tellCommands cX2_tellCommands 1 none, .code yX2_tellReserved cX2_tellReserved 1 none, .code yX3_init cX3_init 3 none, .code yX4_init cX4_init 4 none, .code yX5_init cX5_init 2 none, .code yX5_accept cX5_accept 2 none, .code yX5_atBegin cX5_atBegin 2 none, .code yX5_bareSign cX5_bareSign 3 none, .code yX5_begins cX5_begins 2 (some .boolean), .code yX5_closeByToken cX5_closeByToken 3 none, .code yX5_cutCode cX5_cutCode 4 (some (.array .int)), .code yX5_emit cX5_emit 3 none, .code yX5_endText cX5_endText 5 none, .code yX5_endWord cX5_endWord 5 none, .code yX5_endsWord cX5_endsWord 1 (some .boolean), .code yX5_enter cX5_enter 6 (some (.object "TextShell$Frame")), .code yX5_isPlain cX5_isPlain 2 (some .boolean), .code yX5_isRedirection cX5_isRedirection 1 (some .boolean), .code yX5_look cX5_look 3 (some .int), .code yX5_newline cX5_newline 3 none, .code yX5_nextToken cX5_nextToken 5 none, .code yX5_openText cX5_openText 6 (some (.object "TextShell$Frame")), .code yX5_operator cX5_operator 2 (some .int), .code yX5_parse cX5_parse 5 (some .boolean), .code yX5_pass cX5_pass 2 none, .code yX5_replaced cX5_replaced 5 (some .boolean), .code yX5_reservedAs cX5_reservedAs 3 (some .int), .code yX5_skipBlanks cX5_skipBlanks 6 (some .boolean), .code yX5_told cX5_told 9 (some (.object "TextShell$Row")), .code yX5_top cX5_top 1 (some (.object "TextShell$Frame")), .code yX6_init cX6_init 2 none, .code yX6_init cX6_init 2 none, .code yX6_init cX6_init 2 none, .code yX6_add cX6_add 3 none, .code yX6_add cX6_add 3 none, .code yX6_add cX6_add 3 none, .code yX6_addText cX6_addText 3 none, .code yX6_at cX6_at 2 (some .int), .code yX6_isAliasText cX6_isAliasText 1 (some .boolean), .code yX6_isName cX6_isName 1 (some .boolean), .code yX6_isNameUpTo cX6_isNameUpTo 3 (some .boolean), .code yX6_isText cX6_isText 2 (some .boolean), .code yX6_part cX6_part 5 (some (.object "TextShell$Row")), .code yX6_part cX6_part 5 (some (.object "TextShell$Row")), .code yX6_place cX6_place 5 (some .int), .code yX6_same cX6_same 3 (some .boolean), .code yX7_init cX7_init 3 none, .code yX8_init cX8_init 5 none, .code yX8_text cX8_text 5 (some (.object "TextShell$Stream")), .code yX9_init cX9_init 2 none, .code yX10_init cX10_init 4 none, .code yX11_init cX11_init 2 none, .code objectInit ⟨#[0xb1]⟩ 1 none, .codeWith yL_put cL_put 6 (some .int) [(0, 19, 22, 13)], .codeWith yL_read cL_read 4 (some .int) [(0, 9, 12, 13)], .code yX28_init cX28_init 1 none, .code yX28_begin0 cX28_begin0 1 none, .code yX28_change cX28_change 4 none, .code yX28_fails cX28_fails 3 (some .boolean), .code yX28_feed cX28_feed 6 (some .int), .code yX28_feed cX28_feed 6 (some .int), .code yX28_feed cX28_feed 6 (some .int), .code yX28_feed cX28_feed 6 (some .int), .code yX28_five cX28_five 3 none, .code yX28_five cX28_five 3 none, .code yX28_five cX28_five 3 none, .code yX28_five cX28_five 3 none, .code yX28_has_ cX28_has_ 5 (some .boolean), .code yX28_is cX28_is 3 (some .boolean), .code yX28_isAliasText cX28_isAliasText 3 (some .boolean), .code yX28_isDigit cX28_isDigit 1 (some .boolean), .code yX28_isLetter cX28_isLetter 1 (some .boolean), .code yX28_isName cX28_isName 1 (some .boolean), .code yX28_isText cX28_isText 3 (some .boolean), .code yX28_isTextByte cX28_isTextByte 1 (some .boolean), .code yX28_nameEnd cX28_nameEnd 3 (some .int), .code yX28_oneByte cX28_oneByte 2 (some (.array .byte)), .code yX28_opened cX28_opened 5 (some (.object "TextShellModel$Open")), .code yX28_part cX28_part 5 (some (.array .byte)), .code yX28_part cX28_part 5 (some (.array .byte)), .code yX28_put_ cX28_put_ 9 (some .boolean), .code yX28_read_ cX28_read_ 3 (some .int), .codeWith yX28_reads cX28_reads 3 (some .boolean) [(40, 52, 55, 139)], .code yX28_room cX28_room 2 none, .code yX28_rowOf cX28_rowOf 4 (some (.array .byte)), .code yX28_same cX28_same 3 (some .boolean), .code yX28_scriptOf cX28_scriptOf 8 (some (.object "TextShellModel$AndOr")), .code yX28_setTo cX28_setTo 4 none, .code yX28_taken cX28_taken 3 (some (.array .byte)), .code yX28_touch cX28_touch 3 none, .code yX14_init cX14_init 1 none, .code yX14_add cX14_add 4 none, .code yX14_add cX14_add 4 none, .code yX14_add cX14_add 4 none, .code yX14_add cX14_add 4 none, .code yX18_init cX18_init 1 none, .code yX19_init cX19_init 1 none, .code yX21_init cX21_init 3 none, .code yX22_init cX22_init 1 none, .code yX23_init cX23_init 1 none, .code yX25_init cX25_init 7 none, .code yX25_aWord cX25_aWord 4 none, .code yX25_aliases cX25_aliases 7 none, .code yX25_begins cX25_begins 2 (some .boolean), .code yX25_closes cX25_closes 2 (some .boolean), .code yX25_ends cX25_ends 2 (some .boolean), .code yX25_flushed cX25_flushed 4 (some (.object "TextShellModel$Part")), .code yX25_isBlank cX25_isBlank 2 (some .boolean), .code yX25_isFree cX25_isFree 5 (some .boolean), .code yX25_isReserved cX25_isReserved 2 (some .boolean), .code yX25_line cX25_line 1 (some .int), .code yX25_linked cX25_linked 3 (some (.object "TextShellModel$Part")), .code yX25_look cX25_look 1 (some .int), .code yX25_made cX25_made 3 (some (.object "TextShellModel$Part")), .code yX25_next cX25_next 2 none, .code yX25_parts cX25_parts 11 (some (.object "TextShellModel$Part")), .code yX25_plain cX25_plain 1 (some (.array .byte)), .code yX25_script cX25_script 2 (some (.object "TextShellModel$AndOr")), .code yX25_settle cX25_settle 1 none, .code yX25_take cX25_take 2 (some .int), .code yX26_init cX26_init 1 none, .code yX26_chain cX26_chain 3 (some .int), .code yX26_clear cX26_clear 2 none, .code yX26_find cX26_find 5 (some (.object "TextShellModel$Entry")), .code yX27_init cX27_init 1 none, .code yJ0_charAt_5068e cJ0_charAt_5068e 2 (some .char), .code yJ0_checkIndex_df160 cJ0_checkIndex_df160 2 none, .code yJ0_coder_7d493 cJ0_coder_7d493 1 (some .byte), .code yJ0_isLatin1_aae02 cJ0_isLatin1_aae02 1 (some .boolean), .code yJ0_length_8abf5 cJ0_length_8abf5 1 (some .int), .code yJ1_charAt_3b067 cJ1_charAt_3b067 2 (some .char), .code yJxa1e45_init_da8c8 cJxa1e45_init_da8c8 1 none, .code yJxc12de_init_da8c8 cJxc12de_init_da8c8 1 none, .code yJx4a65c_init_da8c8 cJx4a65c_init_da8c8 1 none, .code yJ3_checkIndex_8e157 cJ3_checkIndex_8e157 3 (some .int)]
def ev_ws (i : Nat) : List Cond := match ev_lg ev_cds i with
  | some t => t :: ev_W
  | none => ev_W
def ev_bs : List ByteArray := [cX12_init, cX12_beginsName, cX12_feed, cX12_feed, cX12_feed, cX12_feedFour, cX12_feedFour, cX12_feedFour, cX12_holds, cX12_isDigit, cX12_isTextSign, cX12_put, cX12_putAlias, cX12_read, cX0_init, cX1_init, cX1_has, cX1_set, cX2_init, cX2_command, cX2_find, cX2_name, cX2_reserve, cX2_row, cX2_tellCommands, cX2_tellReserved, cX3_init, cX4_init, cX5_init, cX5_accept, cX5_atBegin, cX5_bareSign, cX5_begins, cX5_closeByToken, cX5_cutCode, cX5_emit, cX5_endText, cX5_endWord, cX5_endsWord, cX5_enter, cX5_isPlain, cX5_isRedirection, cX5_look, cX5_newline, cX5_nextToken, cX5_openText, cX5_operator, cX5_parse, cX5_pass, cX5_replaced, cX5_reservedAs, cX5_skipBlanks, cX5_told, cX5_top, cX6_init, cX6_init, cX6_init, cX6_add, cX6_add, cX6_add, cX6_addText, cX6_at, cX6_isAliasText, cX6_isName, cX6_isNameUpTo, cX6_isText, cX6_part, cX6_part, cX6_place, cX6_same, cX7_init, cX8_init, cX8_text, cX9_init, cX10_init, cX11_init, cL_law, cL_put, cL_read, cX28_init, cX28_begin0, cX28_change, cX28_fails, cX28_feed, cX28_feed, cX28_feed, cX28_feed, cX28_five, cX28_five, cX28_five, cX28_five, cX28_has_, cX28_is, cX28_isAliasText, cX28_isDigit, cX28_isLetter, cX28_isName, cX28_isText, cX28_isTextByte, cX28_nameEnd, cX28_oneByte, cX28_opened, cX28_part, cX28_part, cX28_put_, cX28_read_, cX28_reads, cX28_room, cX28_rowOf, cX28_same, cX28_scriptOf, cX28_setTo, cX28_taken, cX28_touch, cX14_init, cX14_add, cX14_add, cX14_add, cX14_add, cX18_init, cX19_init, cX21_init, cX22_init, cX23_init, cX25_init, cX25_aWord, cX25_aliases, cX25_begins, cX25_closes, cX25_ends, cX25_flushed, cX25_isBlank, cX25_isFree, cX25_isReserved, cX25_line, cX25_linked, cX25_look, cX25_made, cX25_next, cX25_parts, cX25_plain, cX25_script, cX25_settle, cX25_take, cX26_init, cX26_chain, cX26_clear, cX26_find, cX27_init, cJ0_charAt_5068e, cJ0_checkIndex_df160, cJ0_coder_7d493, cJ0_isLatin1_aae02, cJ0_length_8abf5, cJ1_charAt_3b067, cJxa1e45_init_da8c8, cJxc12de_init_da8c8, cJx4a65c_init_da8c8, cJ3_checkIndex_8e157]
def ev_b (i : Nat) : ByteArray := match ev_lg ev_bs i with
  | some t => t
  | none => ⟨#[]⟩
def ev_rets : List (Option FieldType) := [none, (some .boolean), (some .int), (some .int), (some .int), none, none, none, (some .boolean), (some .boolean), (some .boolean), (some .boolean), (some .boolean), (some .int), none, none, (some .boolean), none, none, none, (some (.object "TextShell$Name")), (some (.object "TextShell$Name")), none, (some (.object "TextShell$Row")), none, none, none, none, none, none, none, none, (some .boolean), none, (some (.array .int)), none, none, none, (some .boolean), (some (.object "TextShell$Frame")), (some .boolean), (some .boolean), (some .int), none, none, (some (.object "TextShell$Frame")), (some .int), (some .boolean), none, (some .boolean), (some .int), (some .boolean), (some (.object "TextShell$Row")), (some (.object "TextShell$Frame")), none, none, none, none, none, none, none, (some .int), (some .boolean), (some .boolean), (some .boolean), (some .boolean), (some (.object "TextShell$Row")), (some (.object "TextShell$Row")), (some .int), (some .boolean), none, none, (some (.object "TextShell$Stream")), none, none, none, none, (some .int), (some .int), none, none, none, (some .boolean), (some .int), (some .int), (some .int), (some .int), none, none, none, none, (some .boolean), (some .boolean), (some .boolean), (some .boolean), (some .boolean), (some .boolean), (some .boolean), (some .boolean), (some .int), (some (.array .byte)), (some (.object "TextShellModel$Open")), (some (.array .byte)), (some (.array .byte)), (some .boolean), (some .int), (some .boolean), none, (some (.array .byte)), (some .boolean), (some (.object "TextShellModel$AndOr")), none, (some (.array .byte)), none, none, none, none, none, none, none, none, none, none, none, none, none, none, (some .boolean), (some .boolean), (some .boolean), (some (.object "TextShellModel$Part")), (some .boolean), (some .boolean), (some .boolean), (some .int), (some (.object "TextShellModel$Part")), (some .int), (some (.object "TextShellModel$Part")), none, (some (.object "TextShellModel$Part")), (some (.array .byte)), (some (.object "TextShellModel$AndOr")), none, (some .int), none, (some .int), none, (some (.object "TextShellModel$Entry")), none, (some .char), none, (some .byte), (some .boolean), (some .int), (some .char), none, none, none, (some .int)]
def ev_ret (i : Nat) : Option FieldType := match ev_lg ev_rets i with
  | some t => t
  | none => none
def ev_hhs : List (List (Nat × Nat × Nat × Nat)) := [[], [], [], [], [], [], [], [], [], [], [], [], [], [], [], [], [], [], [], [], [], [], [], [], [], [], [], [], [], [], [], [], [], [], [], [], [], [], [], [], [], [], [], [], [], [], [], [], [], [], [], [], [], [], [], [], [], [], [], [], [], [], [], [], [], [], [], [], [], [], [], [], [], [], [], [], [], [(0, 19, 22, 13)], [(0, 9, 12, 13)], [], [], [], [], [], [], [], [], [], [], [], [], [], [], [], [], [], [], [], [], [], [], [], [], [], [], [], [(40, 52, 55, 139)], [], [], [], [], [], [], [], [], [], [], [], [], [], [], [], [], [], [], [], [], [], [], [], [], [], [], [], [], [], [], [], [], [], [], [], [], [], [], [], [], [], [], [], [], [], [], [], [], [], [], [], []]
def ev_hh (i : Nat) : List (Nat × Nat × Nat × Nat) := match ev_lg ev_hhs i with
  | some t => t
  | none => []
def ev_pk (ps : List (Nat × Nat)) : List Cond := ps.filterMap (fun q => match ev_Ws[q.1]? with
  | some r => r[q.2]?
  | none => none)
theorem ev_pkm {ws : List Cond} (ps : List (Nat × Nat)) (h : ws = ev_pk ps) : ∀ w ∈ ws, w ∈ ev_W := by
  intro w hw
  rw [h] at hw
  obtain ⟨q, -, hq⟩ := List.mem_filterMap.mp hw
  cases hr : ev_Ws[q.1]? with
  | none => simp [hr] at hq
  | some r =>
    simp only [hr] at hq
    exact ev_wm hr hq
theorem inW_X6 : ∀ w ∈ u_ws RX6 TX6 2, w ∈ ev_W := ev_pkm [(1, 117), (1, 118)] (by decide +kernel)
theorem inW_X12 : ∀ w ∈ u_ws RX12 TX12 10, w ∈ ev_W := ev_pkm [(4, 65), (4, 66), (4, 67), (4, 68), (4, 69), (4, 70), (4, 71), (4, 72), (4, 73), (4, 74)] (by decide +kernel)
theorem inW_X2 : ∀ w ∈ u_ws RX2 TX2 21, w ∈ ev_W := ev_pkm [(2, 53), (2, 54), (2, 55), (2, 56), (2, 57), (2, 58), (2, 59), (2, 60), (2, 61), (2, 62), (2, 63), (2, 64), (2, 65), (2, 66), (2, 67), (2, 68), (2, 69), (2, 70), (2, 71), (2, 72), (2, 73)] (by decide +kernel)
theorem inW_X5 : ∀ w ∈ u_ws RX5 TX5 22, w ∈ ev_W := ev_pkm [(3, 58), (3, 59), (3, 60), (3, 61), (3, 62), (3, 63), (3, 64), (3, 65), (3, 66), (3, 67), (3, 68), (3, 69), (3, 70), (3, 71), (3, 72), (3, 73), (3, 74), (3, 75), (3, 76), (3, 77), (3, 78), (3, 79)] (by decide +kernel)
theorem inW_X7 : ∀ w ∈ u_ws RX7 TX7 24, w ∈ ev_W := ev_pkm [(3, 80), (3, 81), (3, 82), (3, 83), (3, 84), (3, 85), (3, 86), (3, 87), (3, 88), (3, 89), (3, 90), (3, 91), (3, 92), (3, 93), (3, 94), (3, 95), (3, 96), (3, 97), (3, 98), (3, 99), (3, 100), (3, 101), (3, 102), (3, 103)] (by decide +kernel)
theorem inW_X0 : ∀ w ∈ u_ws RX0 TX0 22, w ∈ ev_W := ev_pkm [(4, 75), (4, 76), (4, 77), (4, 78), (4, 79), (4, 80), (4, 81), (4, 82), (4, 83), (4, 84), (4, 85), (4, 86), (4, 87), (4, 88), (4, 89), (4, 90), (4, 91), (4, 92), (4, 93), (4, 94), (4, 95), (4, 96)] (by decide +kernel)
theorem inW_X10 : ∀ w ∈ u_ws RX10 TX10 18, w ∈ ev_W := ev_pkm [(4, 97), (4, 98), (4, 99), (4, 100), (4, 101), (4, 102), (4, 103), (4, 104), (4, 105), (4, 106), (4, 107), (4, 108), (4, 109), (4, 110), (4, 111), (4, 112), (4, 113), (4, 114)] (by decide +kernel)
theorem inW_X3 : ∀ w ∈ u_ws RX3 TX3 10, w ∈ ev_W := ev_pkm [(2, 74), (2, 75), (2, 76), (2, 77), (2, 78), (2, 79), (2, 80), (2, 81), (2, 82), (2, 83)] (by decide +kernel)
theorem inW_X9 : ∀ w ∈ u_ws RX9 TX9 11, w ∈ ev_W := ev_pkm [(3, 104), (3, 105), (3, 106), (3, 107), (3, 108), (3, 109), (3, 110), (3, 111), (4, 115), (4, 116), (4, 117)] (by decide +kernel)
theorem inW_X1 : ∀ w ∈ u_ws RX1 TX1 19, w ∈ ev_W := ev_pkm [(5, 58), (5, 59), (5, 60), (5, 61), (5, 62), (5, 63), (5, 64), (5, 65), (5, 66), (5, 67), (5, 68), (5, 69), (5, 70), (5, 71), (5, 72), (5, 73), (5, 74), (5, 75), (5, 76)] (by decide +kernel)
theorem inW_X4 : ∀ w ∈ u_ws RX4 TX4 12, w ∈ ev_W := ev_pkm [(1, 119), (1, 120), (1, 121), (1, 122), (1, 123), (1, 124), (1, 125), (1, 126), (1, 127), (1, 128), (1, 129), (1, 130)] (by decide +kernel)
theorem inW_X11 : ∀ w ∈ u_ws RX11 TX11 15, w ∈ ev_W := ev_pkm [(6, 36), (6, 37), (6, 38), (6, 39), (6, 40), (6, 41), (6, 42), (6, 43), (6, 44), (6, 45), (6, 46), (6, 47), (6, 48), (6, 49), (6, 50)] (by decide +kernel)
theorem inW_X8 : ∀ w ∈ u_ws RX8 TX8 9, w ∈ ev_W := ev_pkm [(3, 112), (3, 113), (3, 114), (3, 115), (3, 116), (3, 117), (3, 118), (3, 119), (3, 120)] (by decide +kernel)
theorem inW_X28 : ∀ w ∈ u_ws RX28 TX28 104, w ∈ ev_W := ev_pkm [(13, 63), (13, 64), (13, 65), (13, 66), (13, 67), (13, 68), (13, 69), (13, 70), (13, 71), (13, 72), (13, 73), (13, 74), (13, 75), (13, 76), (13, 77), (13, 78), (13, 79), (13, 80), (13, 81), (13, 82), (13, 83), (13, 84), (13, 85), (13, 86), (13, 87), (13, 88), (13, 89), (13, 90), (13, 91), (13, 92), (13, 93), (13, 94), (13, 95), (13, 96), (13, 97), (13, 98), (13, 99), (13, 100), (13, 101), (13, 102), (13, 103), (13, 104), (13, 105), (13, 106), (13, 107), (13, 108), (13, 109), (13, 110), (13, 111), (13, 112), (13, 113), (13, 114), (13, 115), (13, 116), (13, 117), (13, 118), (13, 119), (13, 120), (13, 121), (13, 122), (13, 123), (13, 124), (13, 125), (13, 126), (13, 127), (13, 128), (13, 129), (14, 76), (14, 77), (14, 78), (14, 79), (14, 80), (14, 81), (14, 82), (14, 83), (14, 84), (14, 85), (14, 86), (14, 87), (14, 88), (14, 89), (14, 90), (14, 91), (14, 92), (14, 93), (14, 94), (14, 95), (14, 96), (14, 97), (14, 98), (14, 99), (14, 100), (14, 101), (14, 102), (14, 103), (14, 104), (14, 105), (14, 106), (14, 107), (14, 108), (14, 109), (14, 110), (14, 111), (14, 112)] (by decide +kernel)
theorem inW_Jxb5711 : ∀ w ∈ u_ws RJxb5711 TJxb5711 0, w ∈ ev_W := ev_pkm [] (by decide +kernel)
theorem inW_X14 : ∀ w ∈ u_ws RX14 TX14 2, w ∈ ev_W := ev_pkm [(12, 79), (12, 80)] (by decide +kernel)
theorem inW_X21 : ∀ w ∈ u_ws RX21 TX21 7, w ∈ ev_W := ev_pkm [(12, 81), (12, 82), (12, 83), (12, 84), (12, 85), (12, 86), (12, 87)] (by decide +kernel)
theorem inW_Jx4a65c : ∀ w ∈ u_ws RJx4a65c TJx4a65c 3, w ∈ ev_W := ev_pkm [(12, 88), (12, 89), (12, 90)] (by decide +kernel)
theorem inW_X26 : ∀ w ∈ u_ws RX26 TX26 4, w ∈ ev_W := ev_pkm [(12, 91), (12, 92), (12, 93), (12, 94)] (by decide +kernel)
theorem inW_X18 : ∀ w ∈ u_ws RX18 TX18 8, w ∈ ev_W := ev_pkm [(16, 6), (16, 7), (16, 8), (16, 9), (16, 10), (16, 11), (16, 12), (16, 13)] (by decide +kernel)
theorem inW_X22 : ∀ w ∈ u_ws RX22 TX22 5, w ∈ ev_W := ev_pkm [(12, 95), (12, 96), (12, 97), (12, 98), (12, 99)] (by decide +kernel)
theorem inW_X25 : ∀ w ∈ u_ws RX25 TX25 17, w ∈ ev_W := ev_pkm [(14, 113), (14, 114), (14, 115), (14, 116), (14, 117), (14, 118), (14, 119), (14, 120), (14, 121), (14, 122), (14, 123), (14, 124), (14, 125), (14, 126), (14, 127), (14, 128), (14, 129)] (by decide +kernel)
theorem inW_X19 : ∀ w ∈ u_ws RX19 TX19 8, w ∈ ev_W := ev_pkm [(14, 130), (14, 131), (14, 132), (14, 133), (14, 134), (14, 135), (14, 136), (14, 137)] (by decide +kernel)
theorem inW_X27 : ∀ w ∈ u_ws RX27 TX27 9, w ∈ ev_W := ev_pkm [(15, 81), (15, 82), (15, 83), (15, 84), (15, 85), (15, 86), (15, 87), (15, 88), (15, 89)] (by decide +kernel)
theorem inW_X23 : ∀ w ∈ u_ws RX23 TX23 7, w ∈ ev_W := ev_pkm [(15, 90), (15, 91), (15, 92), (15, 93), (15, 94), (15, 95), (15, 96)] (by decide +kernel)
end KV30_pf
