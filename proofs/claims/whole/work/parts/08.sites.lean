/-! methods: name, code, locals, answer, room -/
abbrev M_CL_init : am_D := (({ cls := "RetraceDesk$ClassLine", name := "<init>", desc := "([C)V" } : Jvm.MethodName), prog_2_method_1_code, 2, (Option.none : Option Jvm.ClassFile.FieldType), { frames := 2, cells := 2, slots := 6, locals := 41 })
abbrev M_CB_init : am_D := (({ cls := "RetraceDesk$CrashBook", name := "<init>", desc := "()V" } : Jvm.MethodName), prog_3_method_1_code, 1, (Option.none : Option Jvm.ClassFile.FieldType), { frames := 1, cells := 4, slots := 64, locals := 20 })
abbrev M_CB_placeOf : am_D := (({ cls := "RetraceDesk$CrashBook", name := "placeOf", desc := "(J)I" } : Jvm.MethodName), prog_3_method_2_code, 4, (Option.some Jvm.ClassFile.FieldType.int), { frames := 0, cells := 0, slots := 0, locals := 0 })
abbrev M_CB_enter : am_D := (({ cls := "RetraceDesk$CrashBook", name := "enter", desc := "(IJ)V" } : Jvm.MethodName), prog_3_method_3_code, 4, (Option.none : Option Jvm.ClassFile.FieldType), { frames := 0, cells := 0, slots := 0, locals := 0 })
abbrev M_CB_keyOf : am_D := (({ cls := "RetraceDesk$CrashBook", name := "keyOf", desc := "(LRetraceDesk$Text;)J" } : Jvm.MethodName), prog_3_method_4_code, 8, (Option.some Jvm.ClassFile.FieldType.long), { frames := 5, cells := 0, slots := 0, locals := 134 })
abbrev M_CB_isSameCall : am_D := (({ cls := "RetraceDesk$CrashBook", name := "isSameCall", desc := "(LRetraceDesk$Text;II)Z" } : Jvm.MethodName), prog_3_method_5_code, 5, (Option.some Jvm.ClassFile.FieldType.boolean), { frames := 1, cells := 0, slots := 0, locals := 30 })
abbrev M_CB_mixCall : am_D := (({ cls := "RetraceDesk$CrashBook", name := "mixCall", desc := "(JLRetraceDesk$Text;I)J" } : Jvm.MethodName), prog_3_method_6_code, 8, (Option.some Jvm.ClassFile.FieldType.long), { frames := 1, cells := 0, slots := 0, locals := 24 })
abbrev M_CB_mixHeader : am_D := (({ cls := "RetraceDesk$CrashBook", name := "mixHeader", desc := "(JLRetraceDesk$Text;II)J" } : Jvm.MethodName), prog_3_method_7_code, 8, (Option.some Jvm.ClassFile.FieldType.long), { frames := 2, cells := 0, slots := 0, locals := 50 })
abbrev M_CB_mixWithoutFigures : am_D := (({ cls := "RetraceDesk$CrashBook", name := "mixWithoutFigures", desc := "(JLRetraceDesk$Text;II)J" } : Jvm.MethodName), prog_3_method_8_code, 9, (Option.some Jvm.ClassFile.FieldType.long), { frames := 1, cells := 0, slots := 0, locals := 22 })
abbrev M_CB_mix : am_D := (({ cls := "RetraceDesk$CrashBook", name := "mix", desc := "(JC)J" } : Jvm.MethodName), prog_3_method_9_code, 3, (Option.some Jvm.ClassFile.FieldType.long), { frames := 0, cells := 0, slots := 0, locals := 0 })
abbrev M_FR_init : am_D := (({ cls := "RetraceDesk$Frame", name := "<init>", desc := "([C)V" } : Jvm.MethodName), prog_5_method_1_code, 2, (Option.none : Option Jvm.ClassFile.FieldType), { frames := 2, cells := 3, slots := 9, locals := 41 })
abbrev M_FO_init : am_D := (({ cls := "RetraceDesk$Form", name := "<init>", desc := "([C)V" } : Jvm.MethodName), prog_4_method_1_code, 2, (Option.none : Option Jvm.ClassFile.FieldType), { frames := 1, cells := 0, slots := 0, locals := 20 })
abbrev M_FO_firstWrongLine : am_D := (({ cls := "RetraceDesk$Form", name := "firstWrongLine", desc := "(I)I" } : Jvm.MethodName), prog_4_method_3_code, 4, (Option.some Jvm.ClassFile.FieldType.int), { frames := 8, cells := 0, slots := 0, locals := 198 })
abbrev M_FO_isDone : am_D := (({ cls := "RetraceDesk$Form", name := "isDone", desc := "()Z" } : Jvm.MethodName), prog_4_method_4_code, 1, (Option.some Jvm.ClassFile.FieldType.boolean), { frames := 0, cells := 0, slots := 0, locals := 0 })
abbrev M_FO_isAtComment : am_D := (({ cls := "RetraceDesk$Form", name := "isAtComment", desc := "()Z" } : Jvm.MethodName), prog_4_method_5_code, 1, (Option.some Jvm.ClassFile.FieldType.boolean), { frames := 0, cells := 0, slots := 0, locals := 0 })
abbrev M_FO_isAtFigure : am_D := (({ cls := "RetraceDesk$Form", name := "isAtFigure", desc := "()Z" } : Jvm.MethodName), prog_4_method_6_code, 1, (Option.some Jvm.ClassFile.FieldType.boolean), { frames := 1, cells := 0, slots := 0, locals := 20 })
abbrev M_FO_takeWord : am_D := (({ cls := "RetraceDesk$Form", name := "takeWord", desc := "(Ljava/lang/String;)Z" } : Jvm.MethodName), prog_4_method_7_code, 3, (Option.some Jvm.ClassFile.FieldType.boolean), { frames := 4, cells := 0, slots := 0, locals := 111 })
abbrev M_FO_takeWordInto : am_D := (({ cls := "RetraceDesk$Form", name := "takeWordInto", desc := "(Ljava/lang/String;LRetraceDesk$Slice;)Z" } : Jvm.MethodName), prog_4_method_8_code, 3, (Option.some Jvm.ClassFile.FieldType.boolean), { frames := 5, cells := 0, slots := 0, locals := 133 })
abbrev M_FO_takeRest : am_D := (({ cls := "RetraceDesk$Form", name := "takeRest", desc := "(LRetraceDesk$Slice;)V" } : Jvm.MethodName), prog_4_method_9_code, 2, (Option.none : Option Jvm.ClassFile.FieldType), { frames := 1, cells := 0, slots := 0, locals := 22 })
abbrev M_FO_takeParts : am_D := (({ cls := "RetraceDesk$Form", name := "takeParts", desc := "(LRetraceDesk$Slice;II)Z" } : Jvm.MethodName), prog_4_method_10_code, 8, (Option.some Jvm.ClassFile.FieldType.boolean), { frames := 1, cells := 0, slots := 0, locals := 22 })
abbrev M_FO_takeNumber : am_D := (({ cls := "RetraceDesk$Form", name := "takeNumber", desc := "()I" } : Jvm.MethodName), prog_4_method_11_code, 3, (Option.some Jvm.ClassFile.FieldType.int), { frames := 1, cells := 0, slots := 0, locals := 20 })
abbrev M_HE_init : am_D := (({ cls := "RetraceDesk$Header", name := "<init>", desc := "([C)V" } : Jvm.MethodName), prog_6_method_1_code, 2, (Option.none : Option Jvm.ClassFile.FieldType), { frames := 2, cells := 2, slots := 6, locals := 41 })
abbrev M_MA_init : am_D := (({ cls := "RetraceDesk$Mapping", name := "<init>", desc := "([C)V" } : Jvm.MethodName), prog_7_method_1_code, 3, (Option.none : Option Jvm.ClassFile.FieldType), { frames := 3, cells := 155, slots := 707, locals := 62 })
abbrev M_MA_begin : am_D := (({ cls := "RetraceDesk$Mapping", name := "begin", desc := "(LRetraceDesk$Text;)V" } : Jvm.MethodName), prog_7_method_2_code, 2, (Option.none : Option Jvm.ClassFile.FieldType), { frames := 1, cells := 0, slots := 0, locals := 40 })
abbrev M_MA_takesLine : am_D := (({ cls := "RetraceDesk$Mapping", name := "takesLine", desc := "()Z" } : Jvm.MethodName), prog_7_method_3_code, 1, (Option.some Jvm.ClassFile.FieldType.boolean), { frames := 7, cells := 0, slots := 0, locals := 175 })
abbrev M_MA_takesClassLine : am_D := (({ cls := "RetraceDesk$Mapping", name := "takesClassLine", desc := "()Z" } : Jvm.MethodName), prog_7_method_4_code, 2, (Option.some Jvm.ClassFile.FieldType.boolean), { frames := 5, cells := 0, slots := 0, locals := 133 })
abbrev M_MA_takesMethodLine : am_D := (({ cls := "RetraceDesk$Mapping", name := "takesMethodLine", desc := "()Z" } : Jvm.MethodName), prog_7_method_5_code, 2, (Option.some Jvm.ClassFile.FieldType.boolean), { frames := 6, cells := 0, slots := 0, locals := 154 })
abbrev M_MA_takesRange : am_D := (({ cls := "RetraceDesk$Mapping", name := "takesRange", desc := "(LRetraceDesk$MethodLine;)Z" } : Jvm.MethodName), prog_7_method_6_code, 2, (Option.some Jvm.ClassFile.FieldType.boolean), { frames := 5, cells := 0, slots := 0, locals := 133 })
abbrev M_MA_takesRealCall : am_D := (({ cls := "RetraceDesk$Mapping", name := "takesRealCall", desc := "(LRetraceDesk$MethodLine;)Z" } : Jvm.MethodName), prog_7_method_7_code, 4, (Option.some Jvm.ClassFile.FieldType.boolean), { frames := 2, cells := 0, slots := 0, locals := 49 })
abbrev M_MA_takesRealRange : am_D := (({ cls := "RetraceDesk$Mapping", name := "takesRealRange", desc := "(LRetraceDesk$MethodLine;)Z" } : Jvm.MethodName), prog_7_method_8_code, 2, (Option.some Jvm.ClassFile.FieldType.boolean), { frames := 5, cells := 0, slots := 0, locals := 133 })
abbrev M_MA_enterMethodLine : am_D := (({ cls := "RetraceDesk$Mapping", name := "enterMethodLine", desc := "(LRetraceDesk$MethodLine;LRetraceDesk$ClassLine;)V" } : Jvm.MethodName), prog_7_method_9_code, 3, (Option.none : Option Jvm.ClassFile.FieldType), { frames := 2, cells := 0, slots := 0, locals := 44 })
abbrev M_MA_lineOfReal : am_D := (({ cls := "RetraceDesk$Mapping", name := "lineOfReal", desc := "(LRetraceDesk$Slice;)LRetraceDesk$ClassLine;" } : Jvm.MethodName), prog_7_method_10_code, 3, (Option.some (Jvm.ClassFile.FieldType.object "RetraceDesk$ClassLine")), { frames := 1, cells := 0, slots := 0, locals := 23 })
abbrev M_MA_lineOfShort : am_D := (({ cls := "RetraceDesk$Mapping", name := "lineOfShort", desc := "(LRetraceDesk$Slice;)LRetraceDesk$ClassLine;" } : Jvm.MethodName), prog_7_method_11_code, 3, (Option.some (Jvm.ClassFile.FieldType.object "RetraceDesk$ClassLine")), { frames := 1, cells := 0, slots := 0, locals := 23 })
abbrev M_MA_isGroup : am_D := (({ cls := "RetraceDesk$Mapping", name := "isGroup", desc := "(ILRetraceDesk$Slice;)Z" } : Jvm.MethodName), prog_7_method_12_code, 3, (Option.some Jvm.ClassFile.FieldType.boolean), { frames := 1, cells := 0, slots := 0, locals := 23 })
abbrev M_MA_firstGroup : am_D := (({ cls := "RetraceDesk$Mapping", name := "firstGroup", desc := "(LRetraceDesk$ClassLine;LRetraceDesk$Slice;)I" } : Jvm.MethodName), prog_7_method_13_code, 4, (Option.some Jvm.ClassFile.FieldType.int), { frames := 2, cells := 0, slots := 0, locals := 45 })
abbrev M_MA_groupAround : am_D := (({ cls := "RetraceDesk$Mapping", name := "groupAround", desc := "(LRetraceDesk$ClassLine;LRetraceDesk$Slice;I)I" } : Jvm.MethodName), prog_7_method_14_code, 6, (Option.some Jvm.ClassFile.FieldType.int), { frames := 2, cells := 0, slots := 0, locals := 45 })
abbrev M_MA_hasUnlikeGroups : am_D := (({ cls := "RetraceDesk$Mapping", name := "hasUnlikeGroups", desc := "(LRetraceDesk$ClassLine;LRetraceDesk$Slice;LRetraceDesk$MethodLine;)Z" } : Jvm.MethodName), prog_7_method_15_code, 5, (Option.some Jvm.ClassFile.FieldType.boolean), { frames := 2, cells := 0, slots := 0, locals := 45 })
abbrev M_MA_groupWithoutRange : am_D := (({ cls := "RetraceDesk$Mapping", name := "groupWithoutRange", desc := "(LRetraceDesk$Slice;LRetraceDesk$Slice;)I" } : Jvm.MethodName), prog_7_method_16_code, 4, (Option.some Jvm.ClassFile.FieldType.int), { frames := 2, cells := 0, slots := 0, locals := 45 })
abbrev M_MA_lastLineOf : am_D := (({ cls := "RetraceDesk$Mapping", name := "lastLineOf", desc := "(I)LRetraceDesk$MethodLine;" } : Jvm.MethodName), prog_7_method_17_code, 2, (Option.some (Jvm.ClassFile.FieldType.object "RetraceDesk$MethodLine")), { frames := 0, cells := 0, slots := 0, locals := 0 })
abbrev M_MA_shortClassOf : am_D := (({ cls := "RetraceDesk$Mapping", name := "shortClassOf", desc := "(LRetraceDesk$MethodLine;)LRetraceDesk$Slice;" } : Jvm.MethodName), prog_7_method_18_code, 2, (Option.some (Jvm.ClassFile.FieldType.object "RetraceDesk$Slice")), { frames := 0, cells := 0, slots := 0, locals := 0 })
abbrev M_ML_init : am_D := (({ cls := "RetraceDesk$MethodLine", name := "<init>", desc := "([C)V" } : Jvm.MethodName), prog_8_method_1_code, 2, (Option.none : Option Jvm.ClassFile.FieldType), { frames := 2, cells := 3, slots := 9, locals := 41 })
abbrev M_ML_hasRange : am_D := (({ cls := "RetraceDesk$MethodLine", name := "hasRange", desc := "()Z" } : Jvm.MethodName), prog_8_method_2_code, 1, (Option.some Jvm.ClassFile.FieldType.boolean), { frames := 0, cells := 0, slots := 0, locals := 0 })
abbrev M_ML_hasOneRealLine : am_D := (({ cls := "RetraceDesk$MethodLine", name := "hasOneRealLine", desc := "()Z" } : Jvm.MethodName), prog_8_method_3_code, 1, (Option.some Jvm.ClassFile.FieldType.boolean), { frames := 0, cells := 0, slots := 0, locals := 0 })
abbrev M_ML_isRealCall : am_D := (({ cls := "RetraceDesk$MethodLine", name := "isRealCall", desc := "(LRetraceDesk$Slice;LRetraceDesk$Slice;)Z" } : Jvm.MethodName), prog_8_method_4_code, 3, (Option.some Jvm.ClassFile.FieldType.boolean), { frames := 1, cells := 0, slots := 0, locals := 23 })
abbrev M_ML_isInGroupOf : am_D := (({ cls := "RetraceDesk$MethodLine", name := "isInGroupOf", desc := "(LRetraceDesk$MethodLine;)Z" } : Jvm.MethodName), prog_8_method_5_code, 2, (Option.some Jvm.ClassFile.FieldType.boolean), { frames := 1, cells := 0, slots := 0, locals := 23 })
abbrev M_RW_init : am_D := (({ cls := "RetraceDesk$Rewriter", name := "<init>", desc := "(LRetraceDesk$Trace;LRetraceDesk$Mapping;LRetraceDesk$Text;)V" } : Jvm.MethodName), prog_9_method_1_code, 4, (Option.none : Option Jvm.ClassFile.FieldType), { frames := 1, cells := 0, slots := 0, locals := 20 })
abbrev M_RW_retraceTrace : am_D := (({ cls := "RetraceDesk$Rewriter", name := "retraceTrace", desc := "()V" } : Jvm.MethodName), prog_9_method_2_code, 5, (Option.none : Option Jvm.ClassFile.FieldType), { frames := 8, cells := 0, slots := 0, locals := 208 })
abbrev M_RW_retraceFrame : am_D := (({ cls := "RetraceDesk$Rewriter", name := "retraceFrame", desc := "(LRetraceDesk$Frame;)V" } : Jvm.MethodName), prog_9_method_3_code, 6, (Option.none : Option Jvm.ClassFile.FieldType), { frames := 7, cells := 0, slots := 0, locals := 183 })
abbrev M_RW_writeInlined : am_D := (({ cls := "RetraceDesk$Rewriter", name := "writeInlined", desc := "(II)V" } : Jvm.MethodName), prog_9_method_4_code, 7, (Option.none : Option Jvm.ClassFile.FieldType), { frames := 6, cells := 0, slots := 0, locals := 157 })
abbrev M_RW_shortenTrace : am_D := (({ cls := "RetraceDesk$Rewriter", name := "shortenTrace", desc := "()V" } : Jvm.MethodName), prog_9_method_5_code, 6, (Option.none : Option Jvm.ClassFile.FieldType), { frames := 9, cells := 0, slots := 0, locals := 228 })
abbrev M_RW_shortenFrom : am_D := (({ cls := "RetraceDesk$Rewriter", name := "shortenFrom", desc := "(II)I" } : Jvm.MethodName), prog_9_method_6_code, 8, (Option.some Jvm.ClassFile.FieldType.int), { frames := 8, cells := 0, slots := 0, locals := 201 })
abbrev M_RW_offsetOfFit : am_D := (({ cls := "RetraceDesk$Rewriter", name := "offsetOfFit", desc := "(III)I" } : Jvm.MethodName), prog_9_method_7_code, 10, (Option.some Jvm.ClassFile.FieldType.int), { frames := 2, cells := 0, slots := 0, locals := 45 })
abbrev M_RW_shortenAlone : am_D := (({ cls := "RetraceDesk$Rewriter", name := "shortenAlone", desc := "(LRetraceDesk$Frame;)V" } : Jvm.MethodName), prog_9_method_8_code, 4, (Option.none : Option Jvm.ClassFile.FieldType), { frames := 7, cells := 0, slots := 0, locals := 178 })
abbrev M_RW_writeHeader : am_D := (({ cls := "RetraceDesk$Rewriter", name := "writeHeader", desc := "(ILRetraceDesk$Slice;)V" } : Jvm.MethodName), prog_9_method_9_code, 4, (Option.none : Option Jvm.ClassFile.FieldType), { frames := 5, cells := 0, slots := 0, locals := 133 })
abbrev M_RW_writeMore : am_D := (({ cls := "RetraceDesk$Rewriter", name := "writeMore", desc := "(LRetraceDesk$Header;)V" } : Jvm.MethodName), prog_9_method_10_code, 2, (Option.none : Option Jvm.ClassFile.FieldType), { frames := 5, cells := 0, slots := 0, locals := 133 })
abbrev M_RW_writeUnchanged : am_D := (({ cls := "RetraceDesk$Rewriter", name := "writeUnchanged", desc := "(LRetraceDesk$Frame;)V" } : Jvm.MethodName), prog_9_method_11_code, 2, (Option.none : Option Jvm.ClassFile.FieldType), { frames := 6, cells := 0, slots := 0, locals := 155 })
abbrev M_RW_writeReal : am_D := (({ cls := "RetraceDesk$Rewriter", name := "writeReal", desc := "(LRetraceDesk$Slice;LRetraceDesk$Slice;LRetraceDesk$Frame;)V" } : Jvm.MethodName), prog_9_method_12_code, 4, (Option.none : Option Jvm.ClassFile.FieldType), { frames := 6, cells := 0, slots := 0, locals := 157 })
abbrev M_RW_writeShort : am_D := (({ cls := "RetraceDesk$Rewriter", name := "writeShort", desc := "(LRetraceDesk$Slice;LRetraceDesk$Slice;LRetraceDesk$Frame;)V" } : Jvm.MethodName), prog_9_method_13_code, 4, (Option.none : Option Jvm.ClassFile.FieldType), { frames := 6, cells := 0, slots := 0, locals := 155 })
abbrev M_RW_openFrame : am_D := (({ cls := "RetraceDesk$Rewriter", name := "openFrame", desc := "(LRetraceDesk$Slice;LRetraceDesk$Slice;)V" } : Jvm.MethodName), prog_9_method_14_code, 3, (Option.none : Option Jvm.ClassFile.FieldType), { frames := 5, cells := 0, slots := 0, locals := 133 })
abbrev M_RW_closeFrame : am_D := (({ cls := "RetraceDesk$Rewriter", name := "closeFrame", desc := "(I)V" } : Jvm.MethodName), prog_9_method_15_code, 2, (Option.none : Option Jvm.ClassFile.FieldType), { frames := 5, cells := 0, slots := 0, locals := 133 })
abbrev M_SL_init : am_D := (({ cls := "RetraceDesk$Slice", name := "<init>", desc := "([C)V" } : Jvm.MethodName), prog_10_method_1_code, 2, (Option.none : Option Jvm.ClassFile.FieldType), { frames := 1, cells := 0, slots := 0, locals := 20 })
abbrev M_SL_set : am_D := (({ cls := "RetraceDesk$Slice", name := "set", desc := "(II)V" } : Jvm.MethodName), prog_10_method_2_code, 3, (Option.none : Option Jvm.ClassFile.FieldType), { frames := 0, cells := 0, slots := 0, locals := 0 })
abbrev M_SL_isSame : am_D := (({ cls := "RetraceDesk$Slice", name := "isSame", desc := "(LRetraceDesk$Slice;)Z" } : Jvm.MethodName), prog_10_method_3_code, 4, (Option.some Jvm.ClassFile.FieldType.boolean), { frames := 0, cells := 0, slots := 0, locals := 0 })
abbrev M_SL_lastPoint : am_D := (({ cls := "RetraceDesk$Slice", name := "lastPoint", desc := "()I" } : Jvm.MethodName), prog_10_method_4_code, 2, (Option.some Jvm.ClassFile.FieldType.int), { frames := 0, cells := 0, slots := 0, locals := 0 })
abbrev M_TX_init : am_D := (({ cls := "RetraceDesk$Text", name := "<init>", desc := "(I)V" } : Jvm.MethodName), prog_11_method_1_code, 2, (Option.none : Option Jvm.ClassFile.FieldType), { frames := 1, cells := 1, slots := 1000, locals := 20 })
abbrev M_TX_clear : am_D := (({ cls := "RetraceDesk$Text", name := "clear", desc := "()V" } : Jvm.MethodName), prog_11_method_2_code, 1, (Option.none : Option Jvm.ClassFile.FieldType), { frames := 0, cells := 0, slots := 0, locals := 0 })
abbrev M_TX_add : am_D := (({ cls := "RetraceDesk$Text", name := "add", desc := "(C)V" } : Jvm.MethodName), prog_11_method_3_code, 2, (Option.none : Option Jvm.ClassFile.FieldType), { frames := 0, cells := 0, slots := 0, locals := 0 })
abbrev M_TX_addWord : am_D := (({ cls := "RetraceDesk$Text", name := "addWord", desc := "(Ljava/lang/String;)V" } : Jvm.MethodName), prog_11_method_4_code, 3, (Option.none : Option Jvm.ClassFile.FieldType), { frames := 4, cells := 0, slots := 0, locals := 111 })
abbrev M_TX_addSlice : am_D := (({ cls := "RetraceDesk$Text", name := "addSlice", desc := "(LRetraceDesk$Slice;)V" } : Jvm.MethodName), prog_11_method_5_code, 2, (Option.none : Option Jvm.ClassFile.FieldType), { frames := 2, cells := 0, slots := 0, locals := 63 })
abbrev M_TX_addSpan : am_D := (({ cls := "RetraceDesk$Text", name := "addSpan", desc := "([CII)V" } : Jvm.MethodName), prog_11_method_6_code, 4, (Option.none : Option Jvm.ClassFile.FieldType), { frames := 1, cells := 0, slots := 0, locals := 40 })
abbrev M_TX_addNumber : am_D := (({ cls := "RetraceDesk$Text", name := "addNumber", desc := "(I)V" } : Jvm.MethodName), prog_11_method_7_code, 3, (Option.none : Option Jvm.ClassFile.FieldType), { frames := 1, cells := 0, slots := 0, locals := 21 })
abbrev M_TX_addFileOf : am_D := (({ cls := "RetraceDesk$Text", name := "addFileOf", desc := "(LRetraceDesk$Slice;)V" } : Jvm.MethodName), prog_11_method_8_code, 5, (Option.none : Option Jvm.ClassFile.FieldType), { frames := 5, cells := 0, slots := 0, locals := 133 })
abbrev M_TX_sizeWithoutEmptyLastLine : am_D := (({ cls := "RetraceDesk$Text", name := "sizeWithoutEmptyLastLine", desc := "()I" } : Jvm.MethodName), prog_11_method_9_code, 1, (Option.some Jvm.ClassFile.FieldType.int), { frames := 0, cells := 0, slots := 0, locals := 0 })
abbrev M_TX_hasWordAt : am_D := (({ cls := "RetraceDesk$Text", name := "hasWordAt", desc := "(ILjava/lang/String;)Z" } : Jvm.MethodName), prog_11_method_10_code, 4, (Option.some Jvm.ClassFile.FieldType.boolean), { frames := 4, cells := 0, slots := 0, locals := 111 })
abbrev M_TX_placeOf : am_D := (({ cls := "RetraceDesk$Text", name := "placeOf", desc := "(CII)I" } : Jvm.MethodName), prog_11_method_11_code, 5, (Option.some Jvm.ClassFile.FieldType.int), { frames := 0, cells := 0, slots := 0, locals := 0 })
abbrev M_TR_init : am_D := (({ cls := "RetraceDesk$Trace", name := "<init>", desc := "([C)V" } : Jvm.MethodName), prog_12_method_1_code, 3, (Option.none : Option Jvm.ClassFile.FieldType), { frames := 3, cells := 95, slots := 355, locals := 62 })
abbrev M_TR_begin : am_D := (({ cls := "RetraceDesk$Trace", name := "begin", desc := "()V" } : Jvm.MethodName), prog_12_method_2_code, 1, (Option.none : Option Jvm.ClassFile.FieldType), { frames := 0, cells := 0, slots := 0, locals := 0 })
abbrev M_TR_takesLine : am_D := (({ cls := "RetraceDesk$Trace", name := "takesLine", desc := "()Z" } : Jvm.MethodName), prog_12_method_3_code, 3, (Option.some Jvm.ClassFile.FieldType.boolean), { frames := 7, cells := 0, slots := 0, locals := 176 })
abbrev M_TR_takesHeader : am_D := (({ cls := "RetraceDesk$Trace", name := "takesHeader", desc := "()Z" } : Jvm.MethodName), prog_12_method_4_code, 2, (Option.some Jvm.ClassFile.FieldType.boolean), { frames := 5, cells := 0, slots := 0, locals := 133 })
abbrev M_TR_takesCall : am_D := (({ cls := "RetraceDesk$Trace", name := "takesCall", desc := "(LRetraceDesk$Frame;)Z" } : Jvm.MethodName), prog_12_method_5_code, 3, (Option.some Jvm.ClassFile.FieldType.boolean), { frames := 2, cells := 0, slots := 0, locals := 49 })
abbrev M_TR_takesPlace : am_D := (({ cls := "RetraceDesk$Trace", name := "takesPlace", desc := "(LRetraceDesk$Frame;)Z" } : Jvm.MethodName), prog_12_method_6_code, 2, (Option.some Jvm.ClassFile.FieldType.boolean), { frames := 6, cells := 0, slots := 0, locals := 155 })
abbrev M_TR_takesMore : am_D := (({ cls := "RetraceDesk$Trace", name := "takesMore", desc := "(LRetraceDesk$Header;)Z" } : Jvm.MethodName), prog_12_method_7_code, 2, (Option.some Jvm.ClassFile.FieldType.boolean), { frames := 5, cells := 0, slots := 0, locals := 133 })
abbrev M_RD_init : am_D := (({ cls := "RetraceDesk", name := "<init>", desc := "()V" } : Jvm.MethodName), prog_1_method_1_code, 1, (Option.none : Option Jvm.ClassFile.FieldType), { frames := 4, cells := 500, slots := 8000, locals := 84 })
abbrev M_RD_put : am_D := (({ cls := "RetraceDesk", name := "put", desc := "(IJ)Z" } : Jvm.MethodName), prog_1_method_2_code, 5, (Option.some Jvm.ClassFile.FieldType.boolean), { frames := 1, cells := 0, slots := 0, locals := 22 })
abbrev M_RD_scrap : am_D := (({ cls := "RetraceDesk", name := "scrap", desc := "()V" } : Jvm.MethodName), prog_1_method_3_code, 1, (Option.none : Option Jvm.ClassFile.FieldType), { frames := 1, cells := 0, slots := 0, locals := 20 })
abbrev M_RD_load : am_D := (({ cls := "RetraceDesk", name := "load", desc := "()I" } : Jvm.MethodName), prog_1_method_4_code, 4, (Option.some Jvm.ClassFile.FieldType.int), { frames := 9, cells := 1, slots := 6, locals := 221 })
abbrev M_RD_retrace : am_D := (({ cls := "RetraceDesk", name := "retrace", desc := "()I" } : Jvm.MethodName), prog_1_method_5_code, 2, (Option.some Jvm.ClassFile.FieldType.int), { frames := 10, cells := 3, slots := 18, locals := 242 })
abbrev M_RD_shorten : am_D := (({ cls := "RetraceDesk", name := "shorten", desc := "()I" } : Jvm.MethodName), prog_1_method_6_code, 2, (Option.some Jvm.ClassFile.FieldType.int), { frames := 10, cells := 3, slots := 18, locals := 253 })
abbrev M_RD_report : am_D := (({ cls := "RetraceDesk", name := "report", desc := "()I" } : Jvm.MethodName), prog_1_method_7_code, 5, (Option.some Jvm.ClassFile.FieldType.int), { frames := 10, cells := 4, slots := 24, locals := 242 })
abbrev M_RD_wrong : am_D := (({ cls := "RetraceDesk", name := "wrong", desc := "()I" } : Jvm.MethodName), prog_1_method_8_code, 1, (Option.some Jvm.ClassFile.FieldType.int), { frames := 0, cells := 0, slots := 0, locals := 0 })
abbrev M_RD_length : am_D := (({ cls := "RetraceDesk", name := "length", desc := "()I" } : Jvm.MethodName), prog_1_method_9_code, 1, (Option.some Jvm.ClassFile.FieldType.int), { frames := 0, cells := 0, slots := 0, locals := 0 })
abbrev M_RD_at : am_D := (({ cls := "RetraceDesk", name := "at", desc := "(I)I" } : Jvm.MethodName), prog_1_method_10_code, 2, (Option.some Jvm.ClassFile.FieldType.int), { frames := 8, cells := 1, slots := 6, locals := 120 })
abbrev M_RD_doubtful : am_D := (({ cls := "RetraceDesk", name := "doubtful", desc := "()I" } : Jvm.MethodName), prog_1_method_11_code, 1, (Option.some Jvm.ClassFile.FieldType.int), { frames := 0, cells := 0, slots := 0, locals := 0 })
abbrev M_RD_groups : am_D := (({ cls := "RetraceDesk", name := "groups", desc := "(I)I" } : Jvm.MethodName), prog_1_method_12_code, 2, (Option.some Jvm.ClassFile.FieldType.int), { frames := 8, cells := 1, slots := 6, locals := 120 })
abbrev M_RD_crashes : am_D := (({ cls := "RetraceDesk", name := "crashes", desc := "()I" } : Jvm.MethodName), prog_1_method_13_code, 1, (Option.some Jvm.ClassFile.FieldType.int), { frames := 0, cells := 0, slots := 0, locals := 0 })
abbrev M_RD_key : am_D := (({ cls := "RetraceDesk", name := "key", desc := "(I)J" } : Jvm.MethodName), prog_1_method_14_code, 2, (Option.some Jvm.ClassFile.FieldType.long), { frames := 9, cells := 1, slots := 6, locals := 141 })
abbrev M_RD_reports : am_D := (({ cls := "RetraceDesk", name := "reports", desc := "(II)I" } : Jvm.MethodName), prog_1_method_15_code, 3, (Option.some Jvm.ClassFile.FieldType.int), { frames := 9, cells := 2, slots := 12, locals := 141 })
abbrev M_RD_refuseUnknownCrash : am_D := (({ cls := "RetraceDesk", name := "refuseUnknownCrash", desc := "(I)V" } : Jvm.MethodName), prog_1_method_16_code, 2, (Option.none : Option Jvm.ClassFile.FieldType), { frames := 8, cells := 1, slots := 6, locals := 120 })
abbrev M_RD_readTrace : am_D := (({ cls := "RetraceDesk", name := "readTrace", desc := "()V" } : Jvm.MethodName), prog_1_method_17_code, 2, (Option.none : Option Jvm.ClassFile.FieldType), { frames := 9, cells := 1, slots := 6, locals := 221 })
abbrev M_RD_newRewriter : am_D := (({ cls := "RetraceDesk", name := "newRewriter", desc := "()LRetraceDesk$Rewriter;" } : Jvm.MethodName), prog_1_method_18_code, 1, (Option.some (Jvm.ClassFile.FieldType.object "RetraceDesk$Rewriter")), { frames := 8, cells := 1, slots := 6, locals := 120 })
abbrev M_RD_refuseLongPrint : am_D := (({ cls := "RetraceDesk", name := "refuseLongPrint", desc := "()V" } : Jvm.MethodName), prog_1_method_19_code, 1, (Option.none : Option Jvm.ClassFile.FieldType), { frames := 8, cells := 1, slots := 6, locals := 120 })
abbrev M_RD_keepRetraced : am_D := (({ cls := "RetraceDesk", name := "keepRetraced", desc := "(LRetraceDesk$Rewriter;)V" } : Jvm.MethodName), prog_1_method_20_code, 2, (Option.none : Option Jvm.ClassFile.FieldType), { frames := 1, cells := 0, slots := 0, locals := 21 })
abbrev M_RD_swapPrints : am_D := (({ cls := "RetraceDesk", name := "swapPrints", desc := "()V" } : Jvm.MethodName), prog_1_method_21_code, 2, (Option.none : Option Jvm.ClassFile.FieldType), { frames := 0, cells := 0, slots := 0, locals := 0 })
abbrev M_RD_codeIn : am_D := (({ cls := "RetraceDesk", name := "codeIn", desc := "(JI)C" } : Jvm.MethodName), prog_1_method_22_code, 3, (Option.some Jvm.ClassFile.FieldType.char), { frames := 0, cells := 0, slots := 0, locals := 0 })
abbrev M_RD_isDraftCode : am_D := (({ cls := "RetraceDesk", name := "isDraftCode", desc := "(C)Z" } : Jvm.MethodName), prog_1_method_23_code, 1, (Option.some Jvm.ClassFile.FieldType.boolean), { frames := 0, cells := 0, slots := 0, locals := 0 })
abbrev M_RD_isFigure : am_D := (({ cls := "RetraceDesk", name := "isFigure", desc := "(C)Z" } : Jvm.MethodName), prog_1_method_24_code, 1, (Option.some Jvm.ClassFile.FieldType.boolean), { frames := 0, cells := 0, slots := 0, locals := 0 })
abbrev M_RD_isLetter : am_D := (({ cls := "RetraceDesk", name := "isLetter", desc := "(C)Z" } : Jvm.MethodName), prog_1_method_25_code, 1, (Option.some Jvm.ClassFile.FieldType.boolean), { frames := 0, cells := 0, slots := 0, locals := 0 })
abbrev M_MO_init : am_D := (({ cls := "RetraceDeskModel", name := "<init>", desc := "()V" } : Jvm.MethodName), prog_14_method_1_code, 1, (Option.none : Option Jvm.ClassFile.FieldType), { frames := 1, cells := 60, slots := 8000, locals := 20 })
abbrev M_MO_thrown : am_D := (({ cls := "RetraceDeskModel", name := "thrown", desc := "()I" } : Jvm.MethodName), prog_14_method_2_code, 1, (Option.some Jvm.ClassFile.FieldType.int), { frames := 0, cells := 0, slots := 0, locals := 0 })
abbrev M_MO_put : am_D := (({ cls := "RetraceDeskModel", name := "put", desc := "(IJ)Z" } : Jvm.MethodName), prog_14_method_3_code, 7, (Option.some Jvm.ClassFile.FieldType.boolean), { frames := 0, cells := 0, slots := 0, locals := 0 })
abbrev M_MO_scrap : am_D := (({ cls := "RetraceDeskModel", name := "scrap", desc := "()V" } : Jvm.MethodName), prog_14_method_4_code, 1, (Option.none : Option Jvm.ClassFile.FieldType), { frames := 0, cells := 0, slots := 0, locals := 0 })
abbrev M_MO_isFigure : am_D := (({ cls := "RetraceDeskModel", name := "isFigure", desc := "(I)Z" } : Jvm.MethodName), prog_14_method_5_code, 1, (Option.some Jvm.ClassFile.FieldType.boolean), { frames := 0, cells := 0, slots := 0, locals := 0 })
abbrev M_MO_isLetter : am_D := (({ cls := "RetraceDeskModel", name := "isLetter", desc := "(I)Z" } : Jvm.MethodName), prog_14_method_6_code, 1, (Option.some Jvm.ClassFile.FieldType.boolean), { frames := 0, cells := 0, slots := 0, locals := 0 })
abbrev M_MO_partEnd : am_D := (({ cls := "RetraceDeskModel", name := "partEnd", desc := "(II)I" } : Jvm.MethodName), prog_14_method_7_code, 4, (Option.some Jvm.ClassFile.FieldType.int), { frames := 1, cells := 0, slots := 0, locals := 20 })
abbrev M_MO_nameEnd : am_D := (({ cls := "RetraceDeskModel", name := "nameEnd", desc := "(II)I" } : Jvm.MethodName), prog_14_method_8_code, 5, (Option.some Jvm.ClassFile.FieldType.int), { frames := 2, cells := 0, slots := 0, locals := 43 })
abbrev M_MO_numberEnd : am_D := (({ cls := "RetraceDeskModel", name := "numberEnd", desc := "(II)I" } : Jvm.MethodName), prog_14_method_9_code, 5, (Option.some Jvm.ClassFile.FieldType.int), { frames := 1, cells := 0, slots := 0, locals := 20 })
abbrev M_MO_stands : am_D := (({ cls := "RetraceDeskModel", name := "stands", desc := "(IIJI)Z" } : Jvm.MethodName), prog_14_method_10_code, 8, (Option.some Jvm.ClassFile.FieldType.boolean), { frames := 0, cells := 0, slots := 0, locals := 0 })
abbrev M_MO_same : am_D := (({ cls := "RetraceDeskModel", name := "same", desc := "(IIII)Z" } : Jvm.MethodName), prog_14_method_11_code, 7, (Option.some Jvm.ClassFile.FieldType.boolean), { frames := 0, cells := 0, slots := 0, locals := 0 })
abbrev M_MO_classLine : am_D := (({ cls := "RetraceDeskModel", name := "classLine", desc := "(II)Z" } : Jvm.MethodName), prog_14_method_12_code, 6, (Option.some Jvm.ClassFile.FieldType.boolean), { frames := 3, cells := 0, slots := 0, locals := 67 })
abbrev M_MO_more : am_D := (({ cls := "RetraceDeskModel", name := "more", desc := "(II)I" } : Jvm.MethodName), prog_14_method_13_code, 3, (Option.some Jvm.ClassFile.FieldType.int), { frames := 2, cells := 0, slots := 0, locals := 44 })
abbrev M_MO_methodLine : am_D := (({ cls := "RetraceDeskModel", name := "methodLine", desc := "(II)Z" } : Jvm.MethodName), prog_14_method_14_code, 7, (Option.some Jvm.ClassFile.FieldType.boolean), { frames := 4, cells := 0, slots := 0, locals := 93 })
abbrev M_MO_methodRest : am_D := (({ cls := "RetraceDeskModel", name := "methodRest", desc := "(IIIZ)Z" } : Jvm.MethodName), prog_14_method_15_code, 8, (Option.some Jvm.ClassFile.FieldType.boolean), { frames := 3, cells := 0, slots := 0, locals := 66 })
abbrev M_MO_readMapping : am_D := (({ cls := "RetraceDeskModel", name := "readMapping", desc := "(I)I" } : Jvm.MethodName), prog_14_method_16_code, 7, (Option.some Jvm.ClassFile.FieldType.int), { frames := 5, cells := 0, slots := 0, locals := 119 })
abbrev M_MO_lay : am_D := (({ cls := "RetraceDeskModel", name := "lay", desc := "(IIZ)V" } : Jvm.MethodName), prog_14_method_17_code, 5, (Option.none : Option Jvm.ClassFile.FieldType), { frames := 0, cells := 0, slots := 0, locals := 0 })
abbrev M_MO_load : am_D := (({ cls := "RetraceDeskModel", name := "load", desc := "()I" } : Jvm.MethodName), prog_14_method_18_code, 4, (Option.some Jvm.ClassFile.FieldType.int), { frames := 6, cells := 0, slots := 0, locals := 145 })
abbrev M_MO_header : am_D := (({ cls := "RetraceDeskModel", name := "header", desc := "(II)Z" } : Jvm.MethodName), prog_14_method_19_code, 4, (Option.some Jvm.ClassFile.FieldType.boolean), { frames := 3, cells := 0, slots := 0, locals := 67 })
abbrev M_MO_moreLine : am_D := (({ cls := "RetraceDeskModel", name := "moreLine", desc := "(II)Z" } : Jvm.MethodName), prog_14_method_20_code, 4, (Option.some Jvm.ClassFile.FieldType.boolean), { frames := 2, cells := 0, slots := 0, locals := 44 })
abbrev M_MO_isNowhere : am_D := (({ cls := "RetraceDeskModel", name := "isNowhere", desc := "(II)Z" } : Jvm.MethodName), prog_14_method_21_code, 4, (Option.some Jvm.ClassFile.FieldType.boolean), { frames := 1, cells := 0, slots := 0, locals := 27 })
abbrev M_MO_place : am_D := (({ cls := "RetraceDeskModel", name := "place", desc := "(II)Z" } : Jvm.MethodName), prog_14_method_22_code, 4, (Option.some Jvm.ClassFile.FieldType.boolean), { frames := 2, cells := 0, slots := 0, locals := 50 })
abbrev M_MO_frame : am_D := (({ cls := "RetraceDeskModel", name := "frame", desc := "(II)Z" } : Jvm.MethodName), prog_14_method_23_code, 4, (Option.some Jvm.ClassFile.FieldType.boolean), { frames := 3, cells := 0, slots := 0, locals := 73 })
abbrev M_MO_lineKind : am_D := (({ cls := "RetraceDeskModel", name := "lineKind", desc := "(III)I" } : Jvm.MethodName), prog_14_method_24_code, 4, (Option.some Jvm.ClassFile.FieldType.int), { frames := 4, cells := 0, slots := 0, locals := 96 })
abbrev M_MO_readTrace : am_D := (({ cls := "RetraceDeskModel", name := "readTrace", desc := "(I)I" } : Jvm.MethodName), prog_14_method_25_code, 9, (Option.some Jvm.ClassFile.FieldType.int), { frames := 5, cells := 0, slots := 0, locals := 119 })
abbrev M_MO_emit : am_D := (({ cls := "RetraceDeskModel", name := "emit", desc := "(I)V" } : Jvm.MethodName), prog_14_method_26_code, 2, (Option.none : Option Jvm.ClassFile.FieldType), { frames := 0, cells := 0, slots := 0, locals := 0 })
abbrev M_MO_emitText : am_D := (({ cls := "RetraceDeskModel", name := "emitText", desc := "(II)V" } : Jvm.MethodName), prog_14_method_27_code, 4, (Option.none : Option Jvm.ClassFile.FieldType), { frames := 1, cells := 0, slots := 0, locals := 21 })
abbrev M_MO_emitWord : am_D := (({ cls := "RetraceDeskModel", name := "emitWord", desc := "(JI)V" } : Jvm.MethodName), prog_14_method_28_code, 5, (Option.none : Option Jvm.ClassFile.FieldType), { frames := 1, cells := 0, slots := 0, locals := 21 })
abbrev M_MO_emitNumber : am_D := (({ cls := "RetraceDeskModel", name := "emitNumber", desc := "(I)V" } : Jvm.MethodName), prog_14_method_29_code, 3, (Option.none : Option Jvm.ClassFile.FieldType), { frames := 1, cells := 0, slots := 0, locals := 21 })
abbrev M_MO_emitFile : am_D := (({ cls := "RetraceDeskModel", name := "emitFile", desc := "(II)V" } : Jvm.MethodName), prog_14_method_30_code, 5, (Option.none : Option Jvm.ClassFile.FieldType), { frames := 2, cells := 0, slots := 0, locals := 45 })
abbrev M_MO_emitHeader : am_D := (({ cls := "RetraceDeskModel", name := "emitHeader", desc := "(III)V" } : Jvm.MethodName), prog_14_method_31_code, 4, (Option.none : Option Jvm.ClassFile.FieldType), { frames := 2, cells := 0, slots := 0, locals := 44 })
abbrev M_MO_hasFile : am_D := (({ cls := "RetraceDeskModel", name := "hasFile", desc := "(I)Z" } : Jvm.MethodName), prog_14_method_32_code, 2, (Option.some Jvm.ClassFile.FieldType.boolean), { frames := 0, cells := 0, slots := 0, locals := 0 })
abbrev M_MO_emitTail : am_D := (({ cls := "RetraceDeskModel", name := "emitTail", desc := "(I)V" } : Jvm.MethodName), prog_14_method_33_code, 2, (Option.none : Option Jvm.ClassFile.FieldType), { frames := 2, cells := 0, slots := 0, locals := 44 })
abbrev M_MO_emitSource : am_D := (({ cls := "RetraceDeskModel", name := "emitSource", desc := "()V" } : Jvm.MethodName), prog_14_method_34_code, 1, (Option.none : Option Jvm.ClassFile.FieldType), { frames := 2, cells := 0, slots := 0, locals := 45 })
abbrev M_MO_classLineOf : am_D := (({ cls := "RetraceDeskModel", name := "classLineOf", desc := "(IIZ)I" } : Jvm.MethodName), prog_14_method_35_code, 5, (Option.some Jvm.ClassFile.FieldType.int), { frames := 1, cells := 0, slots := 0, locals := 26 })
abbrev M_MO_lineOf : am_D := (({ cls := "RetraceDeskModel", name := "lineOf", desc := "(I)I" } : Jvm.MethodName), prog_14_method_36_code, 3, (Option.some Jvm.ClassFile.FieldType.int), { frames := 0, cells := 0, slots := 0, locals := 0 })
abbrev M_MO_lastOf : am_D := (({ cls := "RetraceDeskModel", name := "lastOf", desc := "(I)I" } : Jvm.MethodName), prog_14_method_37_code, 3, (Option.some Jvm.ClassFile.FieldType.int), { frames := 1, cells := 0, slots := 0, locals := 22 })
abbrev M_MO_isFor : am_D := (({ cls := "RetraceDeskModel", name := "isFor", desc := "(III)Z" } : Jvm.MethodName), prog_14_method_38_code, 5, (Option.some Jvm.ClassFile.FieldType.boolean), { frames := 1, cells := 0, slots := 0, locals := 26 })
abbrev M_MO_emitCall : am_D := (({ cls := "RetraceDeskModel", name := "emitCall", desc := "(I)V" } : Jvm.MethodName), prog_14_method_39_code, 2, (Option.none : Option Jvm.ClassFile.FieldType), { frames := 2, cells := 0, slots := 0, locals := 45 })
abbrev M_MO_inlined : am_D := (({ cls := "RetraceDeskModel", name := "inlined", desc := "(II)V" } : Jvm.MethodName), prog_14_method_40_code, 4, (Option.none : Option Jvm.ClassFile.FieldType), { frames := 3, cells := 0, slots := 0, locals := 69 })
abbrev M_MO_differ : am_D := (({ cls := "RetraceDeskModel", name := "differ", desc := "(II)Z" } : Jvm.MethodName), prog_14_method_41_code, 5, (Option.some Jvm.ClassFile.FieldType.boolean), { frames := 2, cells := 0, slots := 0, locals := 44 })
abbrev M_MO_retraceFrame : am_D := (({ cls := "RetraceDeskModel", name := "retraceFrame", desc := "(I)V" } : Jvm.MethodName), prog_14_method_42_code, 8, (Option.none : Option Jvm.ClassFile.FieldType), { frames := 4, cells := 0, slots := 0, locals := 92 })
abbrev M_MO_retraceAll : am_D := (({ cls := "RetraceDeskModel", name := "retraceAll", desc := "()V" } : Jvm.MethodName), prog_14_method_43_code, 3, (Option.none : Option Jvm.ClassFile.FieldType), { frames := 5, cells := 0, slots := 0, locals := 119 })
abbrev M_MO_calls : am_D := (({ cls := "RetraceDeskModel", name := "calls", desc := "(II)Z" } : Jvm.MethodName), prog_14_method_44_code, 3, (Option.some Jvm.ClassFile.FieldType.boolean), { frames := 1, cells := 0, slots := 0, locals := 26 })
abbrev M_MO_fit : am_D := (({ cls := "RetraceDeskModel", name := "fit", desc := "(II)I" } : Jvm.MethodName), prog_14_method_45_code, 8, (Option.some Jvm.ClassFile.FieldType.int), { frames := 2, cells := 0, slots := 0, locals := 48 })
abbrev M_MO_emitShort : am_D := (({ cls := "RetraceDeskModel", name := "emitShort", desc := "(III)V" } : Jvm.MethodName), prog_14_method_46_code, 4, (Option.none : Option Jvm.ClassFile.FieldType), { frames := 2, cells := 0, slots := 0, locals := 45 })
abbrev M_MO_emitPlace : am_D := (({ cls := "RetraceDeskModel", name := "emitPlace", desc := "(I)V" } : Jvm.MethodName), prog_14_method_47_code, 2, (Option.none : Option Jvm.ClassFile.FieldType), { frames := 3, cells := 0, slots := 0, locals := 65 })
abbrev M_MO_shortenFrame : am_D := (({ cls := "RetraceDeskModel", name := "shortenFrame", desc := "(I)I" } : Jvm.MethodName), prog_14_method_48_code, 5, (Option.some Jvm.ClassFile.FieldType.int), { frames := 4, cells := 0, slots := 0, locals := 86 })
abbrev M_MO_shortenAll : am_D := (({ cls := "RetraceDeskModel", name := "shortenAll", desc := "()V" } : Jvm.MethodName), prog_14_method_49_code, 3, (Option.none : Option Jvm.ClassFile.FieldType), { frames := 5, cells := 0, slots := 0, locals := 110 })
abbrev M_MO_rewrite : am_D := (({ cls := "RetraceDeskModel", name := "rewrite", desc := "(Z)I" } : Jvm.MethodName), prog_14_method_50_code, 4, (Option.some Jvm.ClassFile.FieldType.int), { frames := 6, cells := 0, slots := 0, locals := 147 })
abbrev M_MO_keepPrint : am_D := (({ cls := "RetraceDeskModel", name := "keepPrint", desc := "()I" } : Jvm.MethodName), prog_14_method_51_code, 4, (Option.some Jvm.ClassFile.FieldType.int), { frames := 1, cells := 0, slots := 0, locals := 21 })
abbrev M_MO_isFrameAt : am_D := (({ cls := "RetraceDeskModel", name := "isFrameAt", desc := "(I)Z" } : Jvm.MethodName), prog_14_method_52_code, 2, (Option.some Jvm.ClassFile.FieldType.boolean), { frames := 0, cells := 0, slots := 0, locals := 0 })
abbrev M_MO_retrace : am_D := (({ cls := "RetraceDeskModel", name := "retrace", desc := "()I" } : Jvm.MethodName), prog_14_method_53_code, 1, (Option.some Jvm.ClassFile.FieldType.int), { frames := 7, cells := 0, slots := 0, locals := 170 })
abbrev M_MO_shorten : am_D := (({ cls := "RetraceDeskModel", name := "shorten", desc := "()I" } : Jvm.MethodName), prog_14_method_54_code, 1, (Option.some Jvm.ClassFile.FieldType.int), { frames := 7, cells := 0, slots := 0, locals := 170 })
abbrev M_MO_mix : am_D := (({ cls := "RetraceDeskModel", name := "mix", desc := "(I)V" } : Jvm.MethodName), prog_14_method_55_code, 2, (Option.none : Option Jvm.ClassFile.FieldType), { frames := 0, cells := 0, slots := 0, locals := 0 })
abbrev M_MO_endOfLine : am_D := (({ cls := "RetraceDeskModel", name := "endOfLine", desc := "(I)I" } : Jvm.MethodName), prog_14_method_56_code, 3, (Option.some Jvm.ClassFile.FieldType.int), { frames := 0, cells := 0, slots := 0, locals := 0 })
abbrev M_MO_mixHead : am_D := (({ cls := "RetraceDeskModel", name := "mixHead", desc := "(II)V" } : Jvm.MethodName), prog_14_method_57_code, 5, (Option.none : Option Jvm.ClassFile.FieldType), { frames := 1, cells := 0, slots := 0, locals := 21 })
abbrev M_MO_mixHeader : am_D := (({ cls := "RetraceDeskModel", name := "mixHeader", desc := "(II)V" } : Jvm.MethodName), prog_14_method_58_code, 6, (Option.none : Option Jvm.ClassFile.FieldType), { frames := 2, cells := 0, slots := 0, locals := 45 })
abbrev M_MO_bracket : am_D := (({ cls := "RetraceDeskModel", name := "bracket", desc := "(I)I" } : Jvm.MethodName), prog_14_method_59_code, 3, (Option.some Jvm.ClassFile.FieldType.int), { frames := 0, cells := 0, slots := 0, locals := 0 })
abbrev M_MO_sameCalls : am_D := (({ cls := "RetraceDeskModel", name := "sameCalls", desc := "(II)Z" } : Jvm.MethodName), prog_14_method_60_code, 6, (Option.some Jvm.ClassFile.FieldType.boolean), { frames := 1, cells := 0, slots := 0, locals := 22 })
abbrev M_MO_keyOf : am_D := (({ cls := "RetraceDeskModel", name := "keyOf", desc := "()J" } : Jvm.MethodName), prog_14_method_61_code, 7, (Option.some Jvm.ClassFile.FieldType.long), { frames := 3, cells := 0, slots := 0, locals := 70 })
abbrev M_MO_report : am_D := (({ cls := "RetraceDeskModel", name := "report", desc := "()I" } : Jvm.MethodName), prog_14_method_62_code, 5, (Option.some Jvm.ClassFile.FieldType.int), { frames := 7, cells := 0, slots := 0, locals := 170 })
abbrev M_MO_wrong : am_D := (({ cls := "RetraceDeskModel", name := "wrong", desc := "()I" } : Jvm.MethodName), prog_14_method_63_code, 1, (Option.some Jvm.ClassFile.FieldType.int), { frames := 0, cells := 0, slots := 0, locals := 0 })
abbrev M_MO_length : am_D := (({ cls := "RetraceDeskModel", name := "length", desc := "()I" } : Jvm.MethodName), prog_14_method_64_code, 1, (Option.some Jvm.ClassFile.FieldType.int), { frames := 0, cells := 0, slots := 0, locals := 0 })
abbrev M_MO_at : am_D := (({ cls := "RetraceDeskModel", name := "at", desc := "(I)I" } : Jvm.MethodName), prog_14_method_65_code, 2, (Option.some Jvm.ClassFile.FieldType.int), { frames := 0, cells := 0, slots := 0, locals := 0 })
abbrev M_MO_doubtful : am_D := (({ cls := "RetraceDeskModel", name := "doubtful", desc := "()I" } : Jvm.MethodName), prog_14_method_66_code, 1, (Option.some Jvm.ClassFile.FieldType.int), { frames := 0, cells := 0, slots := 0, locals := 0 })
abbrev M_MO_groups : am_D := (({ cls := "RetraceDeskModel", name := "groups", desc := "(I)I" } : Jvm.MethodName), prog_14_method_67_code, 4, (Option.some Jvm.ClassFile.FieldType.int), { frames := 1, cells := 0, slots := 0, locals := 22 })
abbrev M_MO_crashes : am_D := (({ cls := "RetraceDeskModel", name := "crashes", desc := "()I" } : Jvm.MethodName), prog_14_method_68_code, 1, (Option.some Jvm.ClassFile.FieldType.int), { frames := 0, cells := 0, slots := 0, locals := 0 })
abbrev M_MO_key : am_D := (({ cls := "RetraceDeskModel", name := "key", desc := "(I)J" } : Jvm.MethodName), prog_14_method_69_code, 2, (Option.some Jvm.ClassFile.FieldType.long), { frames := 0, cells := 0, slots := 0, locals := 0 })
abbrev M_MO_reports : am_D := (({ cls := "RetraceDeskModel", name := "reports", desc := "(II)I" } : Jvm.MethodName), prog_14_method_70_code, 3, (Option.some Jvm.ClassFile.FieldType.int), { frames := 0, cells := 0, slots := 0, locals := 0 })
abbrev M_LW_load : am_D := (({ cls := "RetraceDeskLaw", name := "load", desc := "(LRetraceDesk;[J)I" } : Jvm.MethodName), method_3_code, 3, (Option.some Jvm.ClassFile.FieldType.int), { frames := 10, cells := 1, slots := 6, locals := 244 })
abbrev M_LW_retrace : am_D := (({ cls := "RetraceDeskLaw", name := "retrace", desc := "(LRetraceDesk;[J)I" } : Jvm.MethodName), method_4_code, 3, (Option.some Jvm.ClassFile.FieldType.int), { frames := 11, cells := 3, slots := 18, locals := 263 })
abbrev M_LW_shorten : am_D := (({ cls := "RetraceDeskLaw", name := "shorten", desc := "(LRetraceDesk;[J)I" } : Jvm.MethodName), method_5_code, 3, (Option.some Jvm.ClassFile.FieldType.int), { frames := 11, cells := 3, slots := 18, locals := 274 })
abbrev M_LW_report : am_D := (({ cls := "RetraceDeskLaw", name := "report", desc := "(LRetraceDesk;[J)I" } : Jvm.MethodName), method_6_code, 3, (Option.some Jvm.ClassFile.FieldType.int), { frames := 11, cells := 4, slots := 24, locals := 266 })
abbrev M_LW_at : am_D := (({ cls := "RetraceDeskLaw", name := "at", desc := "(LRetraceDesk;I[J)I" } : Jvm.MethodName), method_7_code, 4, (Option.some Jvm.ClassFile.FieldType.int), { frames := 9, cells := 1, slots := 6, locals := 141 })
abbrev M_LW_groups : am_D := (({ cls := "RetraceDeskLaw", name := "groups", desc := "(LRetraceDesk;I[J)I" } : Jvm.MethodName), method_8_code, 4, (Option.some Jvm.ClassFile.FieldType.int), { frames := 9, cells := 1, slots := 6, locals := 141 })
abbrev M_LW_key : am_D := (({ cls := "RetraceDeskLaw", name := "key", desc := "(LRetraceDesk;I[J)I" } : Jvm.MethodName), method_9_code, 4, (Option.some Jvm.ClassFile.FieldType.int), { frames := 10, cells := 1, slots := 6, locals := 162 })
abbrev M_LW_reports : am_D := (({ cls := "RetraceDeskLaw", name := "reports", desc := "(LRetraceDesk;II[J)I" } : Jvm.MethodName), method_10_code, 5, (Option.some Jvm.ClassFile.FieldType.int), { frames := 10, cells := 2, slots := 12, locals := 163 })
theorem ty_0 : ∀ G : am_G, (am_tys G)[0]? = some (G.2.1 0, .char) := fun _ => rfl
theorem ty_1 : ∀ G : am_G, (am_tys G)[1]? = some (G.2.1 1, .int) := fun _ => rfl
theorem ty_2 : ∀ G : am_G, (am_tys G)[2]? = some (G.2.1 2, .long) := fun _ => rfl
theorem ty_3 : ∀ G : am_G, (am_tys G)[3]? = some (G.2.1 3, .object "RetraceDesk$ClassLine") := fun _ => rfl
theorem ty_4 : ∀ G : am_G, (am_tys G)[4]? = some (G.2.1 4, .object "RetraceDesk$MethodLine") := fun _ => rfl
theorem ty_5 : ∀ G : am_G, (am_tys G)[5]? = some (G.2.1 5, .object "RetraceDesk$Header") := fun _ => rfl
theorem ty_6 : ∀ G : am_G, (am_tys G)[6]? = some (G.2.1 6, .object "RetraceDesk$Frame") := fun _ => rfl
theorem O_RD_3 : Cond.methodLink "RetraceDesk" 3 objectInit ∈ am_tbl := tb_32
theorem N_RD_9 : am_N "RetraceDesk" 9 8 3 [.null, .int 0, .int 0] := ⟨R_TX, T_TX, k_TX, rfl, tb_35, tb_36, tb_2, us_TX, ky_TX, by decide +kernel, by decide +kernel⟩
theorem c_RD_11 : am_cI "RetraceDesk" 11 M_TX_init 1 ∧ M_TX_init.2.2.2.1 = none := ⟨⟨⟨tb_37, tb_2, tb_39, by decide, by decide, by decide +kernel⟩, rfl, tb_38⟩, rfl⟩
theorem P_RD_14_10 : am_P "RetraceDesk" 14 10 0 (.object "RetraceDesk$Text") true := ⟨R_RD, T_RD, 10, "RetraceDesk", k_RD, rfl, by decide, tb_342, us_RD, Or.inl rfl, ky_RD, kn_RD, rfl, by decide +kernel, fun _ => rfl⟩
theorem N_RD_18 : am_N "RetraceDesk" 18 9 8 [.null, .int 0, .int 0, .null, .null, .int 0, .int 0, .null] := ⟨R_TR, T_TR, k_TR, rfl, tb_59, tb_60, tb_4, us_TR, ky_TR, by decide +kernel, by decide +kernel⟩
theorem F_RD_14_10 : am_F "RetraceDesk" 14 10 0 := ⟨R_RD, T_RD, 10, "RetraceDesk", rfl, by decide, tb_342, us_RD, Or.inl rfl⟩
theorem F_RD_20_8 : am_F "RetraceDesk" 20 8 0 := ⟨R_TX, T_TX, 3, "RetraceDesk$Text", rfl, by decide, tb_42, us_TX, Or.inl rfl⟩
theorem c_RD_24 : am_cI "RetraceDesk" 24 M_TR_init 1 ∧ M_TR_init.2.2.2.1 = none := ⟨⟨⟨tb_61, tb_4, tb_63, by decide, by decide, by decide +kernel⟩, rfl, tb_62⟩, rfl⟩
theorem P_RD_27_10 : am_P "RetraceDesk" 27 10 1 (.object "RetraceDesk$Trace") true := ⟨R_RD, T_RD, 10, "RetraceDesk", k_RD, rfl, by decide, tb_343, us_RD, Or.inl rfl, ky_RD, kn_RD, rfl, by decide +kernel, fun _ => rfl⟩
theorem N_RD_31 : am_N "RetraceDesk" 31 1 6 [.null, .null, .null, .null, .int 0, .int 0] := ⟨R_CB, T_CB, k_CB, rfl, tb_190, tb_191, tb_8, us_CB, ky_CB, by decide +kernel, by decide +kernel⟩
theorem c_RD_33 : am_cI "RetraceDesk" 33 M_CB_init 0 ∧ M_CB_init.2.2.2.1 = none := ⟨⟨⟨tb_192, tb_8, tb_194, by decide, by decide, by decide +kernel⟩, rfl, tb_193⟩, rfl⟩
theorem P_RD_34_10 : am_P "RetraceDesk" 34 10 2 (.object "RetraceDesk$CrashBook") true := ⟨R_RD, T_RD, 10, "RetraceDesk", k_RD, rfl, by decide, tb_344, us_RD, Or.inl rfl, ky_RD, kn_RD, rfl, by decide +kernel, fun _ => rfl⟩
theorem N_RD_38 : am_N "RetraceDesk" 38 4 10 [.null, .int 0, .int 0, .null, .null, .int 0, .int 0, .int 0, .int 0, .null] := ⟨R_MA, T_MA, k_MA, rfl, tb_222, tb_223, tb_9, us_MA, ky_MA, by decide +kernel, by decide +kernel⟩
theorem c_RD_40 : am_cI "RetraceDesk" 40 M_MA_init 1 ∧ M_MA_init.2.2.2.1 = none := ⟨⟨⟨tb_224, tb_9, tb_226, by decide, by decide, by decide +kernel⟩, rfl, tb_225⟩, rfl⟩
theorem P_RD_41_10 : am_P "RetraceDesk" 41 10 3 (.object "RetraceDesk$Mapping") false := ⟨R_RD, T_RD, 10, "RetraceDesk", k_RD, rfl, by decide, tb_345, us_RD, Or.inl rfl, ky_RD, kn_RD, rfl, by decide +kernel, fun h => by cases h⟩
theorem P_RD_45_10 : am_P "RetraceDesk" 45 10 4 (.object "RetraceDesk$Mapping") false := ⟨R_RD, T_RD, 10, "RetraceDesk", k_RD, rfl, by decide, tb_346, us_RD, Or.inl rfl, ky_RD, kn_RD, rfl, by decide +kernel, fun h => by cases h⟩
theorem P_RD_48_10 : am_P "RetraceDesk" 48 10 5 (.object "RetraceDesk$Text") false := ⟨R_RD, T_RD, 10, "RetraceDesk", k_RD, rfl, by decide, tb_347, us_RD, Or.inl rfl, ky_RD, kn_RD, rfl, by decide +kernel, fun h => by cases h⟩
theorem P_RD_51_10 : am_P "RetraceDesk" 51 10 6 (.object "RetraceDesk$Text") false := ⟨R_RD, T_RD, 10, "RetraceDesk", k_RD, rfl, by decide, tb_348, us_RD, Or.inl rfl, ky_RD, kn_RD, rfl, by decide +kernel, fun h => by cases h⟩
theorem F_RD_54_8 : am_F "RetraceDesk" 54 8 1 := ⟨R_TX, T_TX, 3, "RetraceDesk$Text", rfl, by decide, tb_47, us_TX, Or.inl rfl⟩
theorem c_RD_58 : am_cS "RetraceDesk" 58 M_RD_codeIn 2 := ⟨⟨tb_377, tb_1, tb_379, by decide, by decide, by decide +kernel⟩, tb_378⟩
theorem c_RD_62 : am_cS "RetraceDesk" 62 M_RD_isDraftCode 1 := ⟨⟨tb_381, tb_1, tb_383, by decide, by decide, by decide +kernel⟩, tb_382⟩
theorem c_RD_66 : am_cV "RetraceDesk" 66 8 M_TX_add 1 := ⟨⟨tb_384, tb_2, tb_387, by decide, by decide, by decide +kernel⟩, tb_385, R_TX, T_TX, 3, rfl, tb_386⟩
theorem c_RD_70 : am_cV "RetraceDesk" 70 8 M_TX_clear 0 := ⟨⟨tb_392, tb_2, tb_395, by decide, by decide, by decide +kernel⟩, tb_393, R_TX, T_TX, 3, rfl, tb_394⟩
theorem F_RD_45_10 : am_F "RetraceDesk" 45 10 4 := ⟨R_RD, T_RD, 10, "RetraceDesk", rfl, by decide, tb_346, us_RD, Or.inl rfl⟩
theorem c_RD_73 : am_cV "RetraceDesk" 73 4 M_MA_begin 1 := ⟨⟨tb_420, tb_9, tb_423, by decide, by decide, by decide +kernel⟩, tb_421, R_MA, T_MA, 10, rfl, tb_422⟩
theorem c_RD_77_4 : am_cU "RetraceDesk" 77 4 ({ cls := "RetraceDesk$Mapping", name := "firstWrongLine", desc := "(I)I" } : Jvm.MethodName) "RetraceDesk$Form" M_FO_firstWrongLine 1 := ⟨tb_427, tb_3, tb_432, tb_428, tb_431, ⟨by decide, by decide⟩, by decide +kernel, ⟨R_MA, T_MA, 10, rfl, tb_430⟩, fun _ _ _ _ hts => va_Decl.of (hts _ tb_431) (hts _ tb_432)⟩
theorem P_RD_81_10 : am_P "RetraceDesk" 81 10 8 (.int) false := ⟨R_RD, T_RD, 10, "RetraceDesk", k_RD, rfl, by decide, tb_350, us_RD, Or.inl rfl, ky_RD, kn_RD, rfl, by decide +kernel, fun h => by cases h⟩
theorem F_RD_41_10 : am_F "RetraceDesk" 41 10 3 := ⟨R_RD, T_RD, 10, "RetraceDesk", rfl, by decide, tb_345, us_RD, Or.inl rfl⟩
theorem P_RD_87_10 : am_P "RetraceDesk" 87 10 7 (.boolean) false := ⟨R_RD, T_RD, 10, "RetraceDesk", k_RD, rfl, by decide, tb_349, us_RD, Or.inl rfl, ky_RD, kn_RD, rfl, by decide +kernel, fun h => by cases h⟩
theorem F_RD_91_4 : am_F "RetraceDesk" 91 4 7 := ⟨R_MA, T_MA, 10, "RetraceDesk$Mapping", rfl, by decide, tb_321, us_MA, Or.inl rfl⟩
theorem c_RD_94 : am_cV "RetraceDesk" 94 10 M_RD_readTrace 0 := ⟨⟨tb_723, tb_1, tb_726, by decide, by decide, by decide +kernel⟩, tb_725, R_RD, T_RD, 10, rfl, sl_RD_readTrace⟩
theorem c_RD_97 : am_cV "RetraceDesk" 97 10 M_RD_newRewriter 0 := ⟨⟨tb_738, tb_1, tb_741, by decide, by decide, by decide +kernel⟩, tb_740, R_RD, T_RD, 10, rfl, sl_RD_newRewriter⟩
theorem c_RD_101 : am_cV "RetraceDesk" 101 6 M_RW_retraceTrace 0 := ⟨⟨tb_781, tb_24, tb_784, by decide, by decide, by decide +kernel⟩, tb_782, R_RW, T_RW, 5, rfl, tb_783⟩
theorem c_RD_106 : am_cV "RetraceDesk" 106 10 M_RD_refuseLongPrint 0 := ⟨⟨tb_878, tb_1, tb_881, by decide, by decide, by decide +kernel⟩, tb_880, R_RD, T_RD, 10, rfl, sl_RD_refuseLongPrint⟩
theorem c_RD_109 : am_cV "RetraceDesk" 109 10 M_RD_keepRetraced 1 := ⟨⟨tb_882, tb_1, tb_885, by decide, by decide, by decide +kernel⟩, tb_884, R_RD, T_RD, 10, rfl, sl_RD_keepRetraced⟩
theorem F_RD_113_6 : am_F "RetraceDesk" 113 6 3 := ⟨R_RW, T_RW, 5, "RetraceDesk$Rewriter", rfl, by decide, tb_766, us_RW, Or.inl rfl⟩
theorem c_RD_116 : am_cV "RetraceDesk" 116 6 M_RW_shortenTrace 0 := ⟨⟨tb_897, tb_24, tb_900, by decide, by decide, by decide +kernel⟩, tb_898, R_RW, T_RW, 5, rfl, tb_899⟩
theorem c_RD_119 : am_cV "RetraceDesk" 119 10 M_RD_swapPrints 0 := ⟨⟨tb_886, tb_1, tb_889, by decide, by decide, by decide +kernel⟩, tb_888, R_RD, T_RD, 10, rfl, sl_RD_swapPrints⟩
theorem F_RD_51_10 : am_F "RetraceDesk" 51 10 6 := ⟨R_RD, T_RD, 10, "RetraceDesk", rfl, by decide, tb_348, us_RD, Or.inl rfl⟩
theorem c_RD_122 : am_cS "RetraceDesk" 122 M_CB_keyOf 1 := ⟨⟨tb_936, tb_8, tb_938, by decide, by decide, by decide +kernel⟩, tb_937⟩
theorem F_RD_34_10 : am_F "RetraceDesk" 34 10 2 := ⟨R_RD, T_RD, 10, "RetraceDesk", rfl, by decide, tb_344, us_RD, Or.inl rfl⟩
theorem c_RD_126 : am_cV "RetraceDesk" 126 1 M_CB_placeOf 1 := ⟨⟨tb_972, tb_8, tb_975, by decide, by decide, by decide +kernel⟩, tb_973, R_CB, T_CB, 6, rfl, tb_974⟩
theorem c_RD_133 : am_cV "RetraceDesk" 133 1 M_CB_enter 2 := ⟨⟨tb_976, tb_8, tb_979, by decide, by decide, by decide +kernel⟩, tb_977, R_CB, T_CB, 6, rfl, tb_978⟩
theorem F_RD_81_10 : am_F "RetraceDesk" 81 10 8 := ⟨R_RD, T_RD, 10, "RetraceDesk", rfl, by decide, tb_350, us_RD, Or.inl rfl⟩
theorem F_RD_48_10 : am_F "RetraceDesk" 48 10 5 := ⟨R_RD, T_RD, 10, "RetraceDesk", rfl, by decide, tb_347, us_RD, Or.inl rfl⟩
theorem F_RD_140_10 : am_F "RetraceDesk" 140 10 9 := ⟨R_RD, T_RD, 10, "RetraceDesk", rfl, by decide, tb_351, us_RD, Or.inl rfl⟩
theorem F_RD_143_4 : am_F "RetraceDesk" 143 4 5 := ⟨R_MA, T_MA, 10, "RetraceDesk$Mapping", rfl, by decide, tb_317, us_MA, Or.inl rfl⟩
theorem F_RD_149_4 : am_F "RetraceDesk" 149 4 3 := ⟨R_MA, T_MA, 10, "RetraceDesk$Mapping", rfl, by decide, tb_313, us_MA, Or.inl rfl⟩
theorem F_RD_153_0 : am_F "RetraceDesk" 153 0 4 := ⟨R_CL, T_CL, 5, "RetraceDesk$ClassLine", rfl, by decide, tb_248, us_CL, Or.inl rfl⟩
theorem F_RD_156_1 : am_F "RetraceDesk" 156 1 4 := ⟨R_CB, T_CB, 6, "RetraceDesk$CrashBook", rfl, by decide, tb_205, us_CB, Or.inl rfl⟩
theorem c_RD_157 : am_cV "RetraceDesk" 157 10 M_RD_refuseUnknownCrash 1 := ⟨⟨tb_1033, tb_1, tb_1036, by decide, by decide, by decide +kernel⟩, tb_1035, R_RD, T_RD, 10, rfl, sl_RD_refuseUnknownCrash⟩
theorem F_RD_160_1 : am_F "RetraceDesk" 160 1 0 := ⟨R_CB, T_CB, 6, "RetraceDesk$CrashBook", rfl, by decide, tb_197, us_CB, Or.inl rfl⟩
theorem F_RD_164_1 : am_F "RetraceDesk" 164 1 1 := ⟨R_CB, T_CB, 6, "RetraceDesk$CrashBook", rfl, by decide, tb_199, us_CB, Or.inl rfl⟩
theorem F_RD_168_1 : am_F "RetraceDesk" 168 1 2 := ⟨R_CB, T_CB, 6, "RetraceDesk$CrashBook", rfl, by decide, tb_201, us_CB, Or.inl rfl⟩
theorem F_RD_171_1 : am_F "RetraceDesk" 171 1 3 := ⟨R_CB, T_CB, 6, "RetraceDesk$CrashBook", rfl, by decide, tb_203, us_CB, Or.inl rfl⟩
theorem F_RD_27_10 : am_F "RetraceDesk" 27 10 1 := ⟨R_RD, T_RD, 10, "RetraceDesk", rfl, by decide, tb_343, us_RD, Or.inl rfl⟩
theorem c_RD_174 : am_cV "RetraceDesk" 174 9 M_TR_begin 0 := ⟨⟨tb_727, tb_4, tb_730, by decide, by decide, by decide +kernel⟩, tb_728, R_TR, T_TR, 8, rfl, tb_729⟩
theorem c_RD_176 : am_cV "RetraceDesk" 176 8 M_TX_sizeWithoutEmptyLastLine 0 := ⟨⟨tb_731, tb_2, tb_734, by decide, by decide, by decide +kernel⟩, tb_732, R_TX, T_TX, 3, rfl, tb_733⟩
theorem c_RD_180_9 : am_cU "RetraceDesk" 180 9 ({ cls := "RetraceDesk$Trace", name := "firstWrongLine", desc := "(I)I" } : Jvm.MethodName) "RetraceDesk$Form" M_FO_firstWrongLine 1 := ⟨tb_735, tb_3, tb_432, tb_736, tb_431, ⟨by decide, by decide⟩, by decide +kernel, ⟨R_TR, T_TR, 8, rfl, tb_737⟩, fun _ _ _ _ hts => va_Decl.of (hts _ tb_431) (hts _ tb_432)⟩
theorem F_RD_87_10 : am_F "RetraceDesk" 87 10 7 := ⟨R_RD, T_RD, 10, "RetraceDesk", rfl, by decide, tb_349, us_RD, Or.inl rfl⟩
theorem N_RD_102 : am_N "RetraceDesk" 102 6 5 [.null, .null, .null, .int 0, .int 0] := ⟨R_RW, T_RW, k_RW, rfl, tb_757, tb_758, tb_24, us_RW, ky_RW, by decide +kernel, by decide +kernel⟩
theorem c_RD_181 : am_cI "RetraceDesk" 181 M_RW_init 3 ∧ M_RW_init.2.2.2.1 = none := ⟨⟨⟨tb_759, tb_24, tb_761, by decide, by decide, by decide +kernel⟩, rfl, tb_760⟩, rfl⟩
theorem F_RD_184_8 : am_F "RetraceDesk" 184 8 2 := ⟨R_TX, T_TX, 3, "RetraceDesk$Text", rfl, by decide, tb_50, us_TX, Or.inl rfl⟩
theorem F_RD_187_6 : am_F "RetraceDesk" 187 6 4 := ⟨R_RW, T_RW, 5, "RetraceDesk$Rewriter", rfl, by decide, tb_769, us_RW, Or.inl rfl⟩
theorem P_RD_140_10 : am_P "RetraceDesk" 140 10 9 (.int) false := ⟨R_RD, T_RD, 10, "RetraceDesk", k_RD, rfl, by decide, tb_351, us_RD, Or.inl rfl, ky_RD, kn_RD, rfl, by decide +kernel, fun h => by cases h⟩
theorem J_RD_190 : Cond.constantLong "RetraceDesk" 190 (255) ∈ am_tbl := tb_380
theorem O_MO_1 : Cond.methodLink "RetraceDeskModel" 1 objectInit ∈ am_tbl := tb_1049
theorem P_MO_7_11 : am_P "RetraceDeskModel" 7 11 0 (.array .int) true := ⟨R_MO, T_MO, 54, "RetraceDeskModel", k_MO, rfl, by decide, tb_1050, us_MO, Or.inl rfl, ky_MO, kn_MO, rfl, by decide +kernel, fun _ => rfl⟩
theorem P_MO_13_11 : am_P "RetraceDeskModel" 13 11 2 (.array .int) true := ⟨R_MO, T_MO, 54, "RetraceDeskModel", k_MO, rfl, by decide, tb_1052, us_MO, Or.inl rfl, ky_MO, kn_MO, rfl, by decide +kernel, fun _ => rfl⟩
theorem P_MO_16_11 : am_P "RetraceDeskModel" 16 11 3 (.array .int) true := ⟨R_MO, T_MO, 54, "RetraceDeskModel", k_MO, rfl, by decide, tb_1053, us_MO, Or.inl rfl, ky_MO, kn_MO, rfl, by decide +kernel, fun _ => rfl⟩
theorem P_MO_19_11 : am_P "RetraceDeskModel" 19 11 7 (.array .int) true := ⟨R_MO, T_MO, 54, "RetraceDeskModel", k_MO, rfl, by decide, tb_1057, us_MO, Or.inl rfl, ky_MO, kn_MO, rfl, by decide +kernel, fun _ => rfl⟩
theorem P_MO_22_11 : am_P "RetraceDeskModel" 22 11 8 (.array .int) true := ⟨R_MO, T_MO, 54, "RetraceDeskModel", k_MO, rfl, by decide, tb_1058, us_MO, Or.inl rfl, ky_MO, kn_MO, rfl, by decide +kernel, fun _ => rfl⟩
theorem P_MO_25_11 : am_P "RetraceDeskModel" 25 11 9 (.array .int) true := ⟨R_MO, T_MO, 54, "RetraceDeskModel", k_MO, rfl, by decide, tb_1059, us_MO, Or.inl rfl, ky_MO, kn_MO, rfl, by decide +kernel, fun _ => rfl⟩
theorem P_MO_28_11 : am_P "RetraceDeskModel" 28 11 10 (.array .int) true := ⟨R_MO, T_MO, 54, "RetraceDeskModel", k_MO, rfl, by decide, tb_1060, us_MO, Or.inl rfl, ky_MO, kn_MO, rfl, by decide +kernel, fun _ => rfl⟩
theorem P_MO_31_11 : am_P "RetraceDeskModel" 31 11 12 (.array .int) true := ⟨R_MO, T_MO, 54, "RetraceDeskModel", k_MO, rfl, by decide, tb_1062, us_MO, Or.inl rfl, ky_MO, kn_MO, rfl, by decide +kernel, fun _ => rfl⟩
theorem P_MO_34_11 : am_P "RetraceDeskModel" 34 11 13 (.array .int) true := ⟨R_MO, T_MO, 54, "RetraceDeskModel", k_MO, rfl, by decide, tb_1063, us_MO, Or.inl rfl, ky_MO, kn_MO, rfl, by decide +kernel, fun _ => rfl⟩
theorem P_MO_37_11 : am_P "RetraceDeskModel" 37 11 14 (.array .int) true := ⟨R_MO, T_MO, 54, "RetraceDeskModel", k_MO, rfl, by decide, tb_1064, us_MO, Or.inl rfl, ky_MO, kn_MO, rfl, by decide +kernel, fun _ => rfl⟩
theorem P_MO_40_11 : am_P "RetraceDeskModel" 40 11 15 (.array .int) true := ⟨R_MO, T_MO, 54, "RetraceDeskModel", k_MO, rfl, by decide, tb_1065, us_MO, Or.inl rfl, ky_MO, kn_MO, rfl, by decide +kernel, fun _ => rfl⟩
theorem P_MO_43_11 : am_P "RetraceDeskModel" 43 11 16 (.array .int) true := ⟨R_MO, T_MO, 54, "RetraceDeskModel", k_MO, rfl, by decide, tb_1066, us_MO, Or.inl rfl, ky_MO, kn_MO, rfl, by decide +kernel, fun _ => rfl⟩
theorem P_MO_46_11 : am_P "RetraceDeskModel" 46 11 17 (.array .int) true := ⟨R_MO, T_MO, 54, "RetraceDeskModel", k_MO, rfl, by decide, tb_1067, us_MO, Or.inl rfl, ky_MO, kn_MO, rfl, by decide +kernel, fun _ => rfl⟩
theorem P_MO_49_11 : am_P "RetraceDeskModel" 49 11 18 (.array .int) true := ⟨R_MO, T_MO, 54, "RetraceDeskModel", k_MO, rfl, by decide, tb_1068, us_MO, Or.inl rfl, ky_MO, kn_MO, rfl, by decide +kernel, fun _ => rfl⟩
theorem P_MO_52_11 : am_P "RetraceDeskModel" 52 11 19 (.array .int) true := ⟨R_MO, T_MO, 54, "RetraceDeskModel", k_MO, rfl, by decide, tb_1069, us_MO, Or.inl rfl, ky_MO, kn_MO, rfl, by decide +kernel, fun _ => rfl⟩
theorem P_MO_55_11 : am_P "RetraceDeskModel" 55 11 20 (.array .int) true := ⟨R_MO, T_MO, 54, "RetraceDeskModel", k_MO, rfl, by decide, tb_1070, us_MO, Or.inl rfl, ky_MO, kn_MO, rfl, by decide +kernel, fun _ => rfl⟩
theorem P_MO_58_11 : am_P "RetraceDeskModel" 58 11 21 (.array .int) true := ⟨R_MO, T_MO, 54, "RetraceDeskModel", k_MO, rfl, by decide, tb_1071, us_MO, Or.inl rfl, ky_MO, kn_MO, rfl, by decide +kernel, fun _ => rfl⟩
theorem P_MO_61_11 : am_P "RetraceDeskModel" 61 11 22 (.array .int) true := ⟨R_MO, T_MO, 54, "RetraceDeskModel", k_MO, rfl, by decide, tb_1072, us_MO, Or.inl rfl, ky_MO, kn_MO, rfl, by decide +kernel, fun _ => rfl⟩
theorem P_MO_64_11 : am_P "RetraceDeskModel" 64 11 23 (.array .int) true := ⟨R_MO, T_MO, 54, "RetraceDeskModel", k_MO, rfl, by decide, tb_1073, us_MO, Or.inl rfl, ky_MO, kn_MO, rfl, by decide +kernel, fun _ => rfl⟩
theorem P_MO_67_11 : am_P "RetraceDeskModel" 67 11 29 (.array .int) true := ⟨R_MO, T_MO, 54, "RetraceDeskModel", k_MO, rfl, by decide, tb_1079, us_MO, Or.inl rfl, ky_MO, kn_MO, rfl, by decide +kernel, fun _ => rfl⟩
theorem P_MO_70_11 : am_P "RetraceDeskModel" 70 11 30 (.array .int) true := ⟨R_MO, T_MO, 54, "RetraceDeskModel", k_MO, rfl, by decide, tb_1080, us_MO, Or.inl rfl, ky_MO, kn_MO, rfl, by decide +kernel, fun _ => rfl⟩
theorem P_MO_73_11 : am_P "RetraceDeskModel" 73 11 31 (.array .int) true := ⟨R_MO, T_MO, 54, "RetraceDeskModel", k_MO, rfl, by decide, tb_1081, us_MO, Or.inl rfl, ky_MO, kn_MO, rfl, by decide +kernel, fun _ => rfl⟩
theorem P_MO_76_11 : am_P "RetraceDeskModel" 76 11 32 (.array .int) true := ⟨R_MO, T_MO, 54, "RetraceDeskModel", k_MO, rfl, by decide, tb_1082, us_MO, Or.inl rfl, ky_MO, kn_MO, rfl, by decide +kernel, fun _ => rfl⟩
theorem P_MO_79_11 : am_P "RetraceDeskModel" 79 11 33 (.array .int) true := ⟨R_MO, T_MO, 54, "RetraceDeskModel", k_MO, rfl, by decide, tb_1083, us_MO, Or.inl rfl, ky_MO, kn_MO, rfl, by decide +kernel, fun _ => rfl⟩
theorem P_MO_82_11 : am_P "RetraceDeskModel" 82 11 34 (.array .int) true := ⟨R_MO, T_MO, 54, "RetraceDeskModel", k_MO, rfl, by decide, tb_1084, us_MO, Or.inl rfl, ky_MO, kn_MO, rfl, by decide +kernel, fun _ => rfl⟩
theorem P_MO_85_11 : am_P "RetraceDeskModel" 85 11 35 (.array .int) true := ⟨R_MO, T_MO, 54, "RetraceDeskModel", k_MO, rfl, by decide, tb_1085, us_MO, Or.inl rfl, ky_MO, kn_MO, rfl, by decide +kernel, fun _ => rfl⟩
theorem P_MO_88_11 : am_P "RetraceDeskModel" 88 11 36 (.array .int) true := ⟨R_MO, T_MO, 54, "RetraceDeskModel", k_MO, rfl, by decide, tb_1086, us_MO, Or.inl rfl, ky_MO, kn_MO, rfl, by decide +kernel, fun _ => rfl⟩
theorem P_MO_91_11 : am_P "RetraceDeskModel" 91 11 37 (.array .int) true := ⟨R_MO, T_MO, 54, "RetraceDeskModel", k_MO, rfl, by decide, tb_1087, us_MO, Or.inl rfl, ky_MO, kn_MO, rfl, by decide +kernel, fun _ => rfl⟩
theorem P_MO_94_11 : am_P "RetraceDeskModel" 94 11 38 (.array .int) true := ⟨R_MO, T_MO, 54, "RetraceDeskModel", k_MO, rfl, by decide, tb_1088, us_MO, Or.inl rfl, ky_MO, kn_MO, rfl, by decide +kernel, fun _ => rfl⟩
theorem P_MO_97_11 : am_P "RetraceDeskModel" 97 11 42 (.array .int) true := ⟨R_MO, T_MO, 54, "RetraceDeskModel", k_MO, rfl, by decide, tb_1092, us_MO, Or.inl rfl, ky_MO, kn_MO, rfl, by decide +kernel, fun _ => rfl⟩
theorem P_MO_100_11 : am_P "RetraceDeskModel" 100 11 49 (.array .long) true := ⟨R_MO, T_MO, 54, "RetraceDeskModel", k_MO, rfl, by decide, tb_1099, us_MO, Or.inl rfl, ky_MO, kn_MO, rfl, by decide +kernel, fun _ => rfl⟩
theorem P_MO_104_11 : am_P "RetraceDeskModel" 104 11 50 (.array .int) true := ⟨R_MO, T_MO, 54, "RetraceDeskModel", k_MO, rfl, by decide, tb_1100, us_MO, Or.inl rfl, ky_MO, kn_MO, rfl, by decide +kernel, fun _ => rfl⟩
theorem P_MO_107_11 : am_P "RetraceDeskModel" 107 11 51 (.array .int) true := ⟨R_MO, T_MO, 54, "RetraceDeskModel", k_MO, rfl, by decide, tb_1101, us_MO, Or.inl rfl, ky_MO, kn_MO, rfl, by decide +kernel, fun _ => rfl⟩
theorem P_MO_110_11 : am_P "RetraceDeskModel" 110 11 52 (.array .int) true := ⟨R_MO, T_MO, 54, "RetraceDeskModel", k_MO, rfl, by decide, tb_1102, us_MO, Or.inl rfl, ky_MO, kn_MO, rfl, by decide +kernel, fun _ => rfl⟩
theorem F_MO_113_11 : am_F "RetraceDeskModel" 113 11 53 := ⟨R_MO, T_MO, 54, "RetraceDeskModel", rfl, by decide, tb_1103, us_MO, Or.inl rfl⟩
theorem P_MO_113_11 : am_P "RetraceDeskModel" 113 11 53 (.int) false := ⟨R_MO, T_MO, 54, "RetraceDeskModel", k_MO, rfl, by decide, tb_1103, us_MO, Or.inl rfl, ky_MO, kn_MO, rfl, by decide +kernel, fun h => by cases h⟩
theorem F_MO_117_11 : am_F "RetraceDeskModel" 117 11 1 := ⟨R_MO, T_MO, 54, "RetraceDeskModel", rfl, by decide, tb_1051, us_MO, Or.inl rfl⟩
theorem J_MO_120 : Cond.constantLong "RetraceDeskModel" 120 (255) ∈ am_tbl := tb_1221
theorem F_MO_7_11 : am_F "RetraceDeskModel" 7 11 0 := ⟨R_MO, T_MO, 54, "RetraceDeskModel", rfl, by decide, tb_1050, us_MO, Or.inl rfl⟩
theorem P_MO_117_11 : am_P "RetraceDeskModel" 117 11 1 (.int) false := ⟨R_MO, T_MO, 54, "RetraceDeskModel", k_MO, rfl, by decide, tb_1051, us_MO, Or.inl rfl, ky_MO, kn_MO, rfl, by decide +kernel, fun h => by cases h⟩
theorem F_MO_13_11 : am_F "RetraceDeskModel" 13 11 2 := ⟨R_MO, T_MO, 54, "RetraceDeskModel", rfl, by decide, tb_1052, us_MO, Or.inl rfl⟩
theorem c_MO_122 : am_cS "RetraceDeskModel" 122 M_MO_isLetter 1 := ⟨⟨tb_1263, tb_12, tb_1265, by decide, by decide, by decide +kernel⟩, tb_1264⟩
theorem c_MO_126 : am_cS "RetraceDeskModel" 126 M_MO_isFigure 1 := ⟨⟨tb_1247, tb_12, tb_1249, by decide, by decide, by decide +kernel⟩, tb_1248⟩
theorem P_MO_129_11 : am_P "RetraceDeskModel" 129 11 26 (.int) false := ⟨R_MO, T_MO, 54, "RetraceDeskModel", k_MO, rfl, by decide, tb_1076, us_MO, Or.inl rfl, ky_MO, kn_MO, rfl, by decide +kernel, fun h => by cases h⟩
theorem P_MO_132_11 : am_P "RetraceDeskModel" 132 11 27 (.int) false := ⟨R_MO, T_MO, 54, "RetraceDeskModel", k_MO, rfl, by decide, tb_1077, us_MO, Or.inl rfl, ky_MO, kn_MO, rfl, by decide +kernel, fun h => by cases h⟩
theorem F_MO_129_11 : am_F "RetraceDeskModel" 129 11 26 := ⟨R_MO, T_MO, 54, "RetraceDeskModel", rfl, by decide, tb_1076, us_MO, Or.inl rfl⟩
theorem c_MO_135 : am_cV "RetraceDeskModel" 135 11 M_MO_partEnd 2 := ⟨⟨tb_1259, tb_12, tb_1262, by decide, by decide, by decide +kernel⟩, tb_1261, R_MO, T_MO, 54, rfl, sl_MO_partEnd⟩
theorem P_MO_139_11 : am_P "RetraceDeskModel" 139 11 25 (.int) false := ⟨R_MO, T_MO, 54, "RetraceDeskModel", k_MO, rfl, by decide, tb_1075, us_MO, Or.inl rfl, ky_MO, kn_MO, rfl, by decide +kernel, fun h => by cases h⟩
theorem F_MO_139_11 : am_F "RetraceDeskModel" 139 11 25 := ⟨R_MO, T_MO, 54, "RetraceDeskModel", rfl, by decide, tb_1075, us_MO, Or.inl rfl⟩
theorem c_MO_142 : am_cV "RetraceDeskModel" 142 11 M_MO_nameEnd 2 := ⟨⟨tb_1255, tb_12, tb_1258, by decide, by decide, by decide +kernel⟩, tb_1257, R_MO, T_MO, 54, rfl, sl_MO_nameEnd⟩
theorem F_MO_145_11 : am_F "RetraceDeskModel" 145 11 6 := ⟨R_MO, T_MO, 54, "RetraceDeskModel", rfl, by decide, tb_1056, us_MO, Or.inl rfl⟩
theorem J_MO_148 : Cond.constantLong "RetraceDeskModel" 148 (539835936) ∈ am_tbl := tb_1274
theorem c_MO_150 : am_cV "RetraceDeskModel" 150 11 M_MO_stands 4 := ⟨⟨tb_1239, tb_12, tb_1242, by decide, by decide, by decide +kernel⟩, tb_1241, R_MO, T_MO, 54, rfl, sl_MO_stands⟩
theorem F_MO_19_11 : am_F "RetraceDeskModel" 19 11 7 := ⟨R_MO, T_MO, 54, "RetraceDeskModel", rfl, by decide, tb_1057, us_MO, Or.inl rfl⟩
theorem F_MO_22_11 : am_F "RetraceDeskModel" 22 11 8 := ⟨R_MO, T_MO, 54, "RetraceDeskModel", rfl, by decide, tb_1058, us_MO, Or.inl rfl⟩
theorem c_MO_154 : am_cV "RetraceDeskModel" 154 11 M_MO_same 4 := ⟨⟨tb_1275, tb_12, tb_1278, by decide, by decide, by decide +kernel⟩, tb_1277, R_MO, T_MO, 54, rfl, sl_MO_same⟩
theorem F_MO_25_11 : am_F "RetraceDeskModel" 25 11 9 := ⟨R_MO, T_MO, 54, "RetraceDeskModel", rfl, by decide, tb_1059, us_MO, Or.inl rfl⟩
theorem F_MO_28_11 : am_F "RetraceDeskModel" 28 11 10 := ⟨R_MO, T_MO, 54, "RetraceDeskModel", rfl, by decide, tb_1060, us_MO, Or.inl rfl⟩
theorem P_MO_145_11 : am_P "RetraceDeskModel" 145 11 6 (.int) false := ⟨R_MO, T_MO, 54, "RetraceDeskModel", k_MO, rfl, by decide, tb_1056, us_MO, Or.inl rfl, ky_MO, kn_MO, rfl, by decide +kernel, fun h => by cases h⟩
theorem J_MO_158 : Cond.constantLong "RetraceDeskModel" 158 (58) ∈ am_tbl := tb_1254
theorem c_MO_160 : am_cV "RetraceDeskModel" 160 11 M_MO_numberEnd 2 := ⟨⟨tb_1250, tb_12, tb_1253, by decide, by decide, by decide +kernel⟩, tb_1252, R_MO, T_MO, 54, rfl, sl_MO_numberEnd⟩
theorem F_MO_163_11 : am_F "RetraceDeskModel" 163 11 11 := ⟨R_MO, T_MO, 54, "RetraceDeskModel", rfl, by decide, tb_1061, us_MO, Or.inl rfl⟩
theorem F_MO_49_11 : am_F "RetraceDeskModel" 49 11 18 := ⟨R_MO, T_MO, 54, "RetraceDeskModel", rfl, by decide, tb_1068, us_MO, Or.inl rfl⟩
theorem F_MO_52_11 : am_F "RetraceDeskModel" 52 11 19 := ⟨R_MO, T_MO, 54, "RetraceDeskModel", rfl, by decide, tb_1069, us_MO, Or.inl rfl⟩
theorem F_MO_31_11 : am_F "RetraceDeskModel" 31 11 12 := ⟨R_MO, T_MO, 54, "RetraceDeskModel", rfl, by decide, tb_1062, us_MO, Or.inl rfl⟩
theorem F_MO_34_11 : am_F "RetraceDeskModel" 34 11 13 := ⟨R_MO, T_MO, 54, "RetraceDeskModel", rfl, by decide, tb_1063, us_MO, Or.inl rfl⟩
theorem F_MO_132_11 : am_F "RetraceDeskModel" 132 11 27 := ⟨R_MO, T_MO, 54, "RetraceDeskModel", rfl, by decide, tb_1077, us_MO, Or.inl rfl⟩
theorem F_MO_37_11 : am_F "RetraceDeskModel" 37 11 14 := ⟨R_MO, T_MO, 54, "RetraceDeskModel", rfl, by decide, tb_1064, us_MO, Or.inl rfl⟩
theorem F_MO_40_11 : am_F "RetraceDeskModel" 40 11 15 := ⟨R_MO, T_MO, 54, "RetraceDeskModel", rfl, by decide, tb_1065, us_MO, Or.inl rfl⟩
theorem c_MO_166 : am_cV "RetraceDeskModel" 166 11 M_MO_methodRest 4 := ⟨⟨tb_1266, tb_12, tb_1269, by decide, by decide, by decide +kernel⟩, tb_1268, R_MO, T_MO, 54, rfl, sl_MO_methodRest⟩
theorem F_MO_55_11 : am_F "RetraceDeskModel" 55 11 20 := ⟨R_MO, T_MO, 54, "RetraceDeskModel", rfl, by decide, tb_1070, us_MO, Or.inl rfl⟩
theorem F_MO_58_11 : am_F "RetraceDeskModel" 58 11 21 := ⟨R_MO, T_MO, 54, "RetraceDeskModel", rfl, by decide, tb_1071, us_MO, Or.inl rfl⟩
theorem c_MO_170 : am_cV "RetraceDeskModel" 170 11 M_MO_more 2 := ⟨⟨tb_1270, tb_12, tb_1273, by decide, by decide, by decide +kernel⟩, tb_1272, R_MO, T_MO, 54, rfl, sl_MO_more⟩
theorem F_MO_43_11 : am_F "RetraceDeskModel" 43 11 16 := ⟨R_MO, T_MO, 54, "RetraceDeskModel", rfl, by decide, tb_1066, us_MO, Or.inl rfl⟩
theorem F_MO_46_11 : am_F "RetraceDeskModel" 46 11 17 := ⟨R_MO, T_MO, 54, "RetraceDeskModel", rfl, by decide, tb_1067, us_MO, Or.inl rfl⟩
theorem F_MO_61_11 : am_F "RetraceDeskModel" 61 11 22 := ⟨R_MO, T_MO, 54, "RetraceDeskModel", rfl, by decide, tb_1072, us_MO, Or.inl rfl⟩
theorem F_MO_173_11 : am_F "RetraceDeskModel" 173 11 24 := ⟨R_MO, T_MO, 54, "RetraceDeskModel", rfl, by decide, tb_1074, us_MO, Or.inl rfl⟩
theorem P_MO_173_11 : am_P "RetraceDeskModel" 173 11 24 (.int) false := ⟨R_MO, T_MO, 54, "RetraceDeskModel", k_MO, rfl, by decide, tb_1074, us_MO, Or.inl rfl, ky_MO, kn_MO, rfl, by decide +kernel, fun h => by cases h⟩
theorem F_MO_64_11 : am_F "RetraceDeskModel" 64 11 23 := ⟨R_MO, T_MO, 54, "RetraceDeskModel", rfl, by decide, tb_1073, us_MO, Or.inl rfl⟩
theorem P_MO_163_11 : am_P "RetraceDeskModel" 163 11 11 (.int) false := ⟨R_MO, T_MO, 54, "RetraceDeskModel", k_MO, rfl, by decide, tb_1061, us_MO, Or.inl rfl, ky_MO, kn_MO, rfl, by decide +kernel, fun h => by cases h⟩
theorem J_MO_176 : Cond.constantLong "RetraceDeskModel" 176 (538976288) ∈ am_tbl := tb_1238
theorem c_MO_178 : am_cV "RetraceDeskModel" 178 11 M_MO_methodLine 2 := ⟨⟨tb_1243, tb_12, tb_1246, by decide, by decide, by decide +kernel⟩, tb_1245, R_MO, T_MO, 54, rfl, sl_MO_methodLine⟩
theorem c_MO_182 : am_cV "RetraceDeskModel" 182 11 M_MO_classLine 2 := ⟨⟨tb_1279, tb_12, tb_1282, by decide, by decide, by decide +kernel⟩, tb_1281, R_MO, T_MO, 54, rfl, sl_MO_classLine⟩
theorem F_MO_16_11 : am_F "RetraceDeskModel" 16 11 3 := ⟨R_MO, T_MO, 54, "RetraceDeskModel", rfl, by decide, tb_1053, us_MO, Or.inl rfl⟩
theorem c_MO_185 : am_cV "RetraceDeskModel" 185 11 M_MO_lay 3 := ⟨⟨tb_1230, tb_12, tb_1233, by decide, by decide, by decide +kernel⟩, tb_1232, R_MO, T_MO, 54, rfl, sl_MO_lay⟩
theorem c_MO_189 : am_cV "RetraceDeskModel" 189 11 M_MO_readMapping 1 := ⟨⟨tb_1234, tb_12, tb_1237, by decide, by decide, by decide +kernel⟩, tb_1236, R_MO, T_MO, 54, rfl, sl_MO_readMapping⟩
theorem P_MO_193_11 : am_P "RetraceDeskModel" 193 11 4 (.int) false := ⟨R_MO, T_MO, 54, "RetraceDeskModel", k_MO, rfl, by decide, tb_1054, us_MO, Or.inl rfl, ky_MO, kn_MO, rfl, by decide +kernel, fun h => by cases h⟩
theorem P_MO_196_11 : am_P "RetraceDeskModel" 196 11 5 (.boolean) false := ⟨R_MO, T_MO, 54, "RetraceDeskModel", k_MO, rfl, by decide, tb_1055, us_MO, Or.inl rfl, ky_MO, kn_MO, rfl, by decide +kernel, fun h => by cases h⟩
theorem P_MO_200_11 : am_P "RetraceDeskModel" 200 11 45 (.int) false := ⟨R_MO, T_MO, 54, "RetraceDeskModel", k_MO, rfl, by decide, tb_1095, us_MO, Or.inl rfl, ky_MO, kn_MO, rfl, by decide +kernel, fun h => by cases h⟩
theorem F_MO_193_11 : am_F "RetraceDeskModel" 193 11 4 := ⟨R_MO, T_MO, 54, "RetraceDeskModel", rfl, by decide, tb_1054, us_MO, Or.inl rfl⟩
theorem F_MO_76_11 : am_F "RetraceDeskModel" 76 11 32 := ⟨R_MO, T_MO, 54, "RetraceDeskModel", rfl, by decide, tb_1082, us_MO, Or.inl rfl⟩
theorem F_MO_203_11 : am_F "RetraceDeskModel" 203 11 28 := ⟨R_MO, T_MO, 54, "RetraceDeskModel", rfl, by decide, tb_1078, us_MO, Or.inl rfl⟩
theorem F_MO_79_11 : am_F "RetraceDeskModel" 79 11 33 := ⟨R_MO, T_MO, 54, "RetraceDeskModel", rfl, by decide, tb_1083, us_MO, Or.inl rfl⟩
theorem J_MO_206 : Cond.constantLong "RetraceDeskModel" 206 (14880) ∈ am_tbl := tb_1303
theorem J_MO_208 : Cond.constantLong "RetraceDeskModel" 208 (39429484064) ∈ am_tbl := tb_1327
theorem J_MO_210 : Cond.constantLong "RetraceDeskModel" 210 (139274973797) ∈ am_tbl := tb_1328
theorem J_MO_212 : Cond.constantLong "RetraceDeskModel" 212 (6155975862722719264) ∈ am_tbl := tb_1319
theorem J_MO_214 : Cond.constantLong "RetraceDeskModel" 214 (91738176906085) ∈ am_tbl := tb_1320
theorem J_MO_216 : Cond.constantLong "RetraceDeskModel" 216 (5647923404006039629) ∈ am_tbl := tb_1321
theorem J_MO_218 : Cond.constantLong "RetraceDeskModel" 218 (435744698212) ∈ am_tbl := tb_1322
theorem F_MO_91_11 : am_F "RetraceDeskModel" 91 11 37 := ⟨R_MO, T_MO, 54, "RetraceDeskModel", rfl, by decide, tb_1087, us_MO, Or.inl rfl⟩
theorem F_MO_85_11 : am_F "RetraceDeskModel" 85 11 35 := ⟨R_MO, T_MO, 54, "RetraceDeskModel", rfl, by decide, tb_1085, us_MO, Or.inl rfl⟩
theorem F_MO_88_11 : am_F "RetraceDeskModel" 88 11 36 := ⟨R_MO, T_MO, 54, "RetraceDeskModel", rfl, by decide, tb_1086, us_MO, Or.inl rfl⟩
theorem c_MO_220 : am_cV "RetraceDeskModel" 220 11 M_MO_isNowhere 2 := ⟨⟨tb_1315, tb_12, tb_1318, by decide, by decide, by decide +kernel⟩, tb_1317, R_MO, T_MO, 54, rfl, sl_MO_isNowhere⟩
theorem J_MO_223 : Cond.constantLong "RetraceDeskModel" 223 (157381664) ∈ am_tbl := tb_1310
theorem F_MO_82_11 : am_F "RetraceDeskModel" 82 11 34 := ⟨R_MO, T_MO, 54, "RetraceDeskModel", rfl, by decide, tb_1084, us_MO, Or.inl rfl⟩
theorem c_MO_225 : am_cV "RetraceDeskModel" 225 11 M_MO_place 2 := ⟨⟨tb_1311, tb_12, tb_1314, by decide, by decide, by decide +kernel⟩, tb_1313, R_MO, T_MO, 54, rfl, sl_MO_place⟩
theorem c_MO_228 : am_cV "RetraceDeskModel" 228 11 M_MO_header 2 := ⟨⟨tb_1299, tb_12, tb_1302, by decide, by decide, by decide +kernel⟩, tb_1301, R_MO, T_MO, 54, rfl, sl_MO_header⟩
theorem J_MO_231 : Cond.constantLong "RetraceDeskModel" 231 (4855291011764854882) ∈ am_tbl := tb_1304
theorem J_MO_233 : Cond.constantLong "RetraceDeskModel" 233 (7944736) ∈ am_tbl := tb_1305
theorem c_MO_235 : am_cV "RetraceDeskModel" 235 11 M_MO_frame 2 := ⟨⟨tb_1306, tb_12, tb_1309, by decide, by decide, by decide +kernel⟩, tb_1308, R_MO, T_MO, 54, rfl, sl_MO_frame⟩
theorem c_MO_238 : am_cV "RetraceDeskModel" 238 11 M_MO_moreLine 2 := ⟨⟨tb_1323, tb_12, tb_1326, by decide, by decide, by decide +kernel⟩, tb_1325, R_MO, T_MO, 54, rfl, sl_MO_moreLine⟩
theorem P_MO_203_11 : am_P "RetraceDeskModel" 203 11 28 (.int) false := ⟨R_MO, T_MO, 54, "RetraceDeskModel", k_MO, rfl, by decide, tb_1078, us_MO, Or.inl rfl, ky_MO, kn_MO, rfl, by decide +kernel, fun h => by cases h⟩
theorem c_MO_241 : am_cV "RetraceDeskModel" 241 11 M_MO_lineKind 3 := ⟨⟨tb_1295, tb_12, tb_1298, by decide, by decide, by decide +kernel⟩, tb_1297, R_MO, T_MO, 54, rfl, sl_MO_lineKind⟩
theorem F_MO_67_11 : am_F "RetraceDeskModel" 67 11 29 := ⟨R_MO, T_MO, 54, "RetraceDeskModel", rfl, by decide, tb_1079, us_MO, Or.inl rfl⟩
theorem F_MO_70_11 : am_F "RetraceDeskModel" 70 11 30 := ⟨R_MO, T_MO, 54, "RetraceDeskModel", rfl, by decide, tb_1080, us_MO, Or.inl rfl⟩
theorem F_MO_73_11 : am_F "RetraceDeskModel" 73 11 31 := ⟨R_MO, T_MO, 54, "RetraceDeskModel", rfl, by decide, tb_1081, us_MO, Or.inl rfl⟩
theorem F_MO_245_11 : am_F "RetraceDeskModel" 245 11 39 := ⟨R_MO, T_MO, 54, "RetraceDeskModel", rfl, by decide, tb_1089, us_MO, Or.inl rfl⟩
theorem P_MO_248_11 : am_P "RetraceDeskModel" 248 11 40 (.boolean) false := ⟨R_MO, T_MO, 54, "RetraceDeskModel", k_MO, rfl, by decide, tb_1090, us_MO, Or.inl rfl, ky_MO, kn_MO, rfl, by decide +kernel, fun h => by cases h⟩
theorem F_MO_94_11 : am_F "RetraceDeskModel" 94 11 38 := ⟨R_MO, T_MO, 54, "RetraceDeskModel", rfl, by decide, tb_1088, us_MO, Or.inl rfl⟩
theorem P_MO_245_11 : am_P "RetraceDeskModel" 245 11 39 (.int) false := ⟨R_MO, T_MO, 54, "RetraceDeskModel", k_MO, rfl, by decide, tb_1089, us_MO, Or.inl rfl, ky_MO, kn_MO, rfl, by decide +kernel, fun h => by cases h⟩
theorem c_MO_251 : am_cV "RetraceDeskModel" 251 11 M_MO_emit 1 := ⟨⟨tb_1345, tb_12, tb_1348, by decide, by decide, by decide +kernel⟩, tb_1347, R_MO, T_MO, 54, rfl, sl_MO_emit⟩
theorem c_MO_255 : am_cV "RetraceDeskModel" 255 11 M_MO_emitText 2 := ⟨⟨tb_1341, tb_12, tb_1344, by decide, by decide, by decide +kernel⟩, tb_1343, R_MO, T_MO, 54, rfl, sl_MO_emitText⟩
theorem J_MO_259 : Cond.constantLong "RetraceDeskModel" 259 (199353267809) ∈ am_tbl := tb_1381
theorem c_MO_261 : am_cV "RetraceDeskModel" 261 11 M_MO_emitWord 2 := ⟨⟨tb_1373, tb_12, tb_1376, by decide, by decide, by decide +kernel⟩, tb_1375, R_MO, T_MO, 54, rfl, sl_MO_emitWord⟩
theorem J_MO_265 : Cond.constantLong "RetraceDeskModel" 265 (6012153161717204585) ∈ am_tbl := tb_1422
theorem J_MO_267 : Cond.constantLong "RetraceDeskModel" 267 (27749) ∈ am_tbl := tb_1423
theorem c_MO_269 : am_cV "RetraceDeskModel" 269 11 M_MO_lineOf 1 := ⟨⟨tb_1357, tb_12, tb_1360, by decide, by decide, by decide +kernel⟩, tb_1359, R_MO, T_MO, 54, rfl, sl_MO_lineOf⟩
theorem c_MO_272 : am_cV "RetraceDeskModel" 272 11 M_MO_lastOf 1 := ⟨⟨tb_1365, tb_12, tb_1368, by decide, by decide, by decide +kernel⟩, tb_1367, R_MO, T_MO, 54, rfl, sl_MO_lastOf⟩
theorem c_MO_275 : am_cV "RetraceDeskModel" 275 11 M_MO_emitCall 1 := ⟨⟨tb_1369, tb_12, tb_1372, by decide, by decide, by decide +kernel⟩, tb_1371, R_MO, T_MO, 54, rfl, sl_MO_emitCall⟩
theorem c_MO_278 : am_cV "RetraceDeskModel" 278 11 M_MO_emitFile 2 := ⟨⟨tb_1377, tb_12, tb_1380, by decide, by decide, by decide +kernel⟩, tb_1379, R_MO, T_MO, 54, rfl, sl_MO_emitFile⟩
theorem c_MO_281 : am_cV "RetraceDeskModel" 281 11 M_MO_emitNumber 1 := ⟨⟨tb_1382, tb_12, tb_1385, by decide, by decide, by decide +kernel⟩, tb_1384, R_MO, T_MO, 54, rfl, sl_MO_emitNumber⟩
theorem c_MO_284 : am_cV "RetraceDeskModel" 284 11 M_MO_classLineOf 3 := ⟨⟨tb_1333, tb_12, tb_1336, by decide, by decide, by decide +kernel⟩, tb_1335, R_MO, T_MO, 54, rfl, sl_MO_classLineOf⟩
theorem c_MO_288 : am_cV "RetraceDeskModel" 288 11 M_MO_isFor 3 := ⟨⟨tb_1353, tb_12, tb_1356, by decide, by decide, by decide +kernel⟩, tb_1355, R_MO, T_MO, 54, rfl, sl_MO_isFor⟩
theorem c_MO_292 : am_cV "RetraceDeskModel" 292 11 M_MO_inlined 2 := ⟨⟨tb_1361, tb_12, tb_1364, by decide, by decide, by decide +kernel⟩, tb_1363, R_MO, T_MO, 54, rfl, sl_MO_inlined⟩
theorem c_MO_295 : am_cV "RetraceDeskModel" 295 11 M_MO_differ 2 := ⟨⟨tb_1386, tb_12, tb_1389, by decide, by decide, by decide +kernel⟩, tb_1388, R_MO, T_MO, 54, rfl, sl_MO_differ⟩
theorem F_MO_298_11 : am_F "RetraceDeskModel" 298 11 41 := ⟨R_MO, T_MO, 54, "RetraceDeskModel", rfl, by decide, tb_1091, us_MO, Or.inl rfl⟩
theorem P_MO_298_11 : am_P "RetraceDeskModel" 298 11 41 (.int) false := ⟨R_MO, T_MO, 54, "RetraceDeskModel", k_MO, rfl, by decide, tb_1091, us_MO, Or.inl rfl, ky_MO, kn_MO, rfl, by decide +kernel, fun h => by cases h⟩
theorem c_MO_301 : am_cV "RetraceDeskModel" 301 11 M_MO_hasFile 1 := ⟨⟨tb_1390, tb_12, tb_1393, by decide, by decide, by decide +kernel⟩, tb_1392, R_MO, T_MO, 54, rfl, sl_MO_hasFile⟩
theorem c_MO_304 : am_cV "RetraceDeskModel" 304 11 M_MO_emitTail 1 := ⟨⟨tb_1394, tb_12, tb_1397, by decide, by decide, by decide +kernel⟩, tb_1396, R_MO, T_MO, 54, rfl, sl_MO_emitTail⟩
theorem c_MO_307 : am_cV "RetraceDeskModel" 307 11 M_MO_emitHeader 3 := ⟨⟨tb_1337, tb_12, tb_1340, by decide, by decide, by decide +kernel⟩, tb_1339, R_MO, T_MO, 54, rfl, sl_MO_emitHeader⟩
theorem c_MO_311 : am_cV "RetraceDeskModel" 311 11 M_MO_retraceFrame 1 := ⟨⟨tb_1349, tb_12, tb_1352, by decide, by decide, by decide +kernel⟩, tb_1351, R_MO, T_MO, 54, rfl, sl_MO_retraceFrame⟩
theorem c_MO_314 : am_cV "RetraceDeskModel" 314 11 M_MO_calls 2 := ⟨⟨tb_1410, tb_12, tb_1413, by decide, by decide, by decide +kernel⟩, tb_1412, R_MO, T_MO, 54, rfl, sl_MO_calls⟩
theorem c_MO_317 : am_cV "RetraceDeskModel" 317 11 M_MO_emitSource 0 := ⟨⟨tb_1418, tb_12, tb_1421, by decide, by decide, by decide +kernel⟩, tb_1420, R_MO, T_MO, 54, rfl, sl_MO_emitSource⟩
theorem c_MO_320 : am_cV "RetraceDeskModel" 320 11 M_MO_fit 2 := ⟨⟨tb_1406, tb_12, tb_1409, by decide, by decide, by decide +kernel⟩, tb_1408, R_MO, T_MO, 54, rfl, sl_MO_fit⟩
theorem c_MO_323 : am_cV "RetraceDeskModel" 323 11 M_MO_emitShort 3 := ⟨⟨tb_1414, tb_12, tb_1417, by decide, by decide, by decide +kernel⟩, tb_1416, R_MO, T_MO, 54, rfl, sl_MO_emitShort⟩
theorem c_MO_326 : am_cV "RetraceDeskModel" 326 11 M_MO_emitPlace 1 := ⟨⟨tb_1424, tb_12, tb_1427, by decide, by decide, by decide +kernel⟩, tb_1426, R_MO, T_MO, 54, rfl, sl_MO_emitPlace⟩
theorem c_MO_329 : am_cV "RetraceDeskModel" 329 11 M_MO_shortenFrame 1 := ⟨⟨tb_1402, tb_12, tb_1405, by decide, by decide, by decide +kernel⟩, tb_1404, R_MO, T_MO, 54, rfl, sl_MO_shortenFrame⟩
theorem c_MO_332 : am_cV "RetraceDeskModel" 332 11 M_MO_readTrace 1 := ⟨⟨tb_1291, tb_12, tb_1294, by decide, by decide, by decide +kernel⟩, tb_1293, R_MO, T_MO, 54, rfl, sl_MO_readTrace⟩
theorem F_MO_196_11 : am_F "RetraceDeskModel" 196 11 5 := ⟨R_MO, T_MO, 54, "RetraceDeskModel", rfl, by decide, tb_1055, us_MO, Or.inl rfl⟩
theorem c_MO_335 : am_cV "RetraceDeskModel" 335 11 M_MO_retraceAll 0 := ⟨⟨tb_1329, tb_12, tb_1332, by decide, by decide, by decide +kernel⟩, tb_1331, R_MO, T_MO, 54, rfl, sl_MO_retraceAll⟩
theorem c_MO_338 : am_cV "RetraceDeskModel" 338 11 M_MO_shortenAll 0 := ⟨⟨tb_1398, tb_12, tb_1401, by decide, by decide, by decide +kernel⟩, tb_1400, R_MO, T_MO, 54, rfl, sl_MO_shortenAll⟩
theorem F_MO_248_11 : am_F "RetraceDeskModel" 248 11 40 := ⟨R_MO, T_MO, 54, "RetraceDeskModel", rfl, by decide, tb_1090, us_MO, Or.inl rfl⟩
theorem F_MO_97_11 : am_F "RetraceDeskModel" 97 11 42 := ⟨R_MO, T_MO, 54, "RetraceDeskModel", rfl, by decide, tb_1092, us_MO, Or.inl rfl⟩
theorem c_MO_341 : am_cV "RetraceDeskModel" 341 11 M_MO_isFrameAt 1 := ⟨⟨tb_1432, tb_12, tb_1435, by decide, by decide, by decide +kernel⟩, tb_1434, R_MO, T_MO, 54, rfl, sl_MO_isFrameAt⟩
theorem P_MO_344_11 : am_P "RetraceDeskModel" 344 11 43 (.int) false := ⟨R_MO, T_MO, 54, "RetraceDeskModel", k_MO, rfl, by decide, tb_1093, us_MO, Or.inl rfl, ky_MO, kn_MO, rfl, by decide +kernel, fun h => by cases h⟩
theorem c_MO_347 : am_cV "RetraceDeskModel" 347 11 M_MO_rewrite 1 := ⟨⟨tb_1287, tb_12, tb_1290, by decide, by decide, by decide +kernel⟩, tb_1289, R_MO, T_MO, 54, rfl, sl_MO_rewrite⟩
theorem P_MO_351_11 : am_P "RetraceDeskModel" 351 11 44 (.int) false := ⟨R_MO, T_MO, 54, "RetraceDeskModel", k_MO, rfl, by decide, tb_1094, us_MO, Or.inl rfl, ky_MO, kn_MO, rfl, by decide +kernel, fun h => by cases h⟩
theorem c_MO_354 : am_cV "RetraceDeskModel" 354 11 M_MO_keepPrint 0 := ⟨⟨tb_1428, tb_12, tb_1431, by decide, by decide, by decide +kernel⟩, tb_1430, R_MO, T_MO, 54, rfl, sl_MO_keepPrint⟩
theorem F_MO_358_11 : am_F "RetraceDeskModel" 358 11 46 := ⟨R_MO, T_MO, 54, "RetraceDeskModel", rfl, by decide, tb_1096, us_MO, Or.inl rfl⟩
theorem J_MO_362 : Cond.constantLong "RetraceDeskModel" 362 (1099511628211) ∈ am_tbl := tb_1465
theorem P_MO_358_11 : am_P "RetraceDeskModel" 358 11 46 (.long) false := ⟨R_MO, T_MO, 54, "RetraceDeskModel", k_MO, rfl, by decide, tb_1096, us_MO, Or.inl rfl, ky_MO, kn_MO, rfl, by decide +kernel, fun h => by cases h⟩
theorem c_MO_364 : am_cV "RetraceDeskModel" 364 11 M_MO_mix 1 := ⟨⟨tb_1461, tb_12, tb_1464, by decide, by decide, by decide +kernel⟩, tb_1463, R_MO, T_MO, 54, rfl, sl_MO_mix⟩
theorem c_MO_367 : am_cV "RetraceDeskModel" 367 11 M_MO_mixHead 2 := ⟨⟨tb_1470, tb_12, tb_1473, by decide, by decide, by decide +kernel⟩, tb_1472, R_MO, T_MO, 54, rfl, sl_MO_mixHead⟩
theorem c_MO_370 : am_cV "RetraceDeskModel" 370 11 M_MO_bracket 1 := ⟨⟨tb_1457, tb_12, tb_1460, by decide, by decide, by decide +kernel⟩, tb_1459, R_MO, T_MO, 54, rfl, sl_MO_bracket⟩
theorem J_MO_373 : Cond.constantLong "RetraceDeskModel" 373 (-3750763034362895579) ∈ am_tbl := tb_1448
theorem c_MO_375 : am_cV "RetraceDeskModel" 375 11 M_MO_endOfLine 1 := ⟨⟨tb_1449, tb_12, tb_1452, by decide, by decide, by decide +kernel⟩, tb_1451, R_MO, T_MO, 54, rfl, sl_MO_endOfLine⟩
theorem c_MO_378 : am_cV "RetraceDeskModel" 378 11 M_MO_sameCalls 2 := ⟨⟨tb_1453, tb_12, tb_1456, by decide, by decide, by decide +kernel⟩, tb_1455, R_MO, T_MO, 54, rfl, sl_MO_sameCalls⟩
theorem c_MO_381 : am_cV "RetraceDeskModel" 381 11 M_MO_mixHeader 2 := ⟨⟨tb_1466, tb_12, tb_1469, by decide, by decide, by decide +kernel⟩, tb_1468, R_MO, T_MO, 54, rfl, sl_MO_mixHeader⟩
theorem c_MO_384 : am_cV "RetraceDeskModel" 384 11 M_MO_keyOf 0 := ⟨⟨tb_1444, tb_12, tb_1447, by decide, by decide, by decide +kernel⟩, tb_1446, R_MO, T_MO, 54, rfl, sl_MO_keyOf⟩
theorem F_MO_388_11 : am_F "RetraceDeskModel" 388 11 47 := ⟨R_MO, T_MO, 54, "RetraceDeskModel", rfl, by decide, tb_1097, us_MO, Or.inl rfl⟩
theorem F_MO_100_11 : am_F "RetraceDeskModel" 100 11 49 := ⟨R_MO, T_MO, 54, "RetraceDeskModel", rfl, by decide, tb_1099, us_MO, Or.inl rfl⟩
theorem F_MO_391_11 : am_F "RetraceDeskModel" 391 11 48 := ⟨R_MO, T_MO, 54, "RetraceDeskModel", rfl, by decide, tb_1098, us_MO, Or.inl rfl⟩
theorem P_MO_391_11 : am_P "RetraceDeskModel" 391 11 48 (.int) false := ⟨R_MO, T_MO, 54, "RetraceDeskModel", k_MO, rfl, by decide, tb_1098, us_MO, Or.inl rfl, ky_MO, kn_MO, rfl, by decide +kernel, fun h => by cases h⟩
theorem F_MO_104_11 : am_F "RetraceDeskModel" 104 11 50 := ⟨R_MO, T_MO, 54, "RetraceDeskModel", rfl, by decide, tb_1100, us_MO, Or.inl rfl⟩
theorem F_MO_107_11 : am_F "RetraceDeskModel" 107 11 51 := ⟨R_MO, T_MO, 54, "RetraceDeskModel", rfl, by decide, tb_1101, us_MO, Or.inl rfl⟩
theorem P_MO_388_11 : am_P "RetraceDeskModel" 388 11 47 (.int) false := ⟨R_MO, T_MO, 54, "RetraceDeskModel", k_MO, rfl, by decide, tb_1097, us_MO, Or.inl rfl, ky_MO, kn_MO, rfl, by decide +kernel, fun h => by cases h⟩
theorem F_MO_110_11 : am_F "RetraceDeskModel" 110 11 52 := ⟨R_MO, T_MO, 54, "RetraceDeskModel", rfl, by decide, tb_1102, us_MO, Or.inl rfl⟩
theorem F_MO_200_11 : am_F "RetraceDeskModel" 200 11 45 := ⟨R_MO, T_MO, 54, "RetraceDeskModel", rfl, by decide, tb_1095, us_MO, Or.inl rfl⟩
theorem F_MO_344_11 : am_F "RetraceDeskModel" 344 11 43 := ⟨R_MO, T_MO, 54, "RetraceDeskModel", rfl, by decide, tb_1093, us_MO, Or.inl rfl⟩
theorem F_MO_351_11 : am_F "RetraceDeskModel" 351 11 44 := ⟨R_MO, T_MO, 54, "RetraceDeskModel", rfl, by decide, tb_1094, us_MO, Or.inl rfl⟩
theorem O_CL_1 : Cond.methodLink "RetraceDesk$ClassLine" 1 objectInit ∈ am_tbl := tb_236
theorem N_CL_7 : am_N "RetraceDesk$ClassLine" 7 7 3 [.null, .int 0, .int 0] := ⟨R_SL, T_SL, k_SL, rfl, tb_237, tb_69, tb_5, us_SL, ky_SL, by decide +kernel, by decide +kernel⟩
theorem c_CL_9 : am_cI "RetraceDesk$ClassLine" 9 M_SL_init 1 ∧ M_SL_init.2.2.2.1 = none := ⟨⟨⟨tb_238, tb_5, tb_72, by decide, by decide, by decide +kernel⟩, rfl, tb_71⟩, rfl⟩
theorem P_CL_12_0 : am_P "RetraceDesk$ClassLine" 12 0 0 (.object "RetraceDesk$Slice") true := ⟨R_CL, T_CL, 5, "RetraceDesk$ClassLine", k_CL, rfl, by decide, tb_239, us_CL, Or.inl rfl, ky_CL, kn_CL, rfl, by decide +kernel, fun _ => rfl⟩
theorem P_CL_18_0 : am_P "RetraceDesk$ClassLine" 18 0 1 (.object "RetraceDesk$Slice") true := ⟨R_CL, T_CL, 5, "RetraceDesk$ClassLine", k_CL, rfl, by decide, tb_242, us_CL, Or.inl rfl, ky_CL, kn_CL, rfl, by decide +kernel, fun _ => rfl⟩
theorem O_CB_3 : Cond.methodLink "RetraceDesk$CrashBook" 3 objectInit ∈ am_tbl := tb_195
theorem P_CB_9_1 : am_P "RetraceDesk$CrashBook" 9 1 0 (.array .long) true := ⟨R_CB, T_CB, 6, "RetraceDesk$CrashBook", k_CB, rfl, by decide, tb_196, us_CB, Or.inl rfl, ky_CB, kn_CB, rfl, by decide +kernel, fun _ => rfl⟩
theorem P_CB_15_1 : am_P "RetraceDesk$CrashBook" 15 1 1 (.array .int) true := ⟨R_CB, T_CB, 6, "RetraceDesk$CrashBook", k_CB, rfl, by decide, tb_198, us_CB, Or.inl rfl, ky_CB, kn_CB, rfl, by decide +kernel, fun _ => rfl⟩
theorem P_CB_19_1 : am_P "RetraceDesk$CrashBook" 19 1 2 (.array .int) true := ⟨R_CB, T_CB, 6, "RetraceDesk$CrashBook", k_CB, rfl, by decide, tb_200, us_CB, Or.inl rfl, ky_CB, kn_CB, rfl, by decide +kernel, fun _ => rfl⟩
theorem P_CB_22_1 : am_P "RetraceDesk$CrashBook" 22 1 3 (.array .int) true := ⟨R_CB, T_CB, 6, "RetraceDesk$CrashBook", k_CB, rfl, by decide, tb_202, us_CB, Or.inl rfl, ky_CB, kn_CB, rfl, by decide +kernel, fun _ => rfl⟩
theorem F_CB_25_1 : am_F "RetraceDesk$CrashBook" 25 1 4 := ⟨R_CB, T_CB, 6, "RetraceDesk$CrashBook", rfl, by decide, tb_204, us_CB, Or.inl rfl⟩
theorem F_CB_9_1 : am_F "RetraceDesk$CrashBook" 9 1 0 := ⟨R_CB, T_CB, 6, "RetraceDesk$CrashBook", rfl, by decide, tb_196, us_CB, Or.inl rfl⟩
theorem F_CB_29_1 : am_F "RetraceDesk$CrashBook" 29 1 5 := ⟨R_CB, T_CB, 6, "RetraceDesk$CrashBook", rfl, by decide, tb_206, us_CB, Or.inl rfl⟩
theorem P_CB_29_1 : am_P "RetraceDesk$CrashBook" 29 1 5 (.int) false := ⟨R_CB, T_CB, 6, "RetraceDesk$CrashBook", k_CB, rfl, by decide, tb_206, us_CB, Or.inl rfl, ky_CB, kn_CB, rfl, by decide +kernel, fun h => by cases h⟩
theorem F_CB_19_1 : am_F "RetraceDesk$CrashBook" 19 1 2 := ⟨R_CB, T_CB, 6, "RetraceDesk$CrashBook", rfl, by decide, tb_200, us_CB, Or.inl rfl⟩
theorem P_CB_25_1 : am_P "RetraceDesk$CrashBook" 25 1 4 (.int) false := ⟨R_CB, T_CB, 6, "RetraceDesk$CrashBook", k_CB, rfl, by decide, tb_204, us_CB, Or.inl rfl, ky_CB, kn_CB, rfl, by decide +kernel, fun h => by cases h⟩
theorem F_CB_15_1 : am_F "RetraceDesk$CrashBook" 15 1 1 := ⟨R_CB, T_CB, 6, "RetraceDesk$CrashBook", rfl, by decide, tb_198, us_CB, Or.inl rfl⟩
theorem F_CB_22_1 : am_F "RetraceDesk$CrashBook" 22 1 3 := ⟨R_CB, T_CB, 6, "RetraceDesk$CrashBook", rfl, by decide, tb_202, us_CB, Or.inl rfl⟩
theorem J_CB_32 : Cond.constantLong "RetraceDesk$CrashBook" 32 (-3750763034362895579) ∈ am_tbl := tb_939
theorem F_CB_34_8 : am_F "RetraceDesk$CrashBook" 34 8 1 := ⟨R_TX, T_TX, 3, "RetraceDesk$Text", rfl, by decide, tb_48, us_TX, Or.inl rfl⟩
theorem F_CB_37_8 : am_F "RetraceDesk$CrashBook" 37 8 0 := ⟨R_TX, T_TX, 3, "RetraceDesk$Text", rfl, by decide, tb_44, us_TX, Or.inl rfl⟩
theorem c_CB_43 : am_cV "RetraceDesk$CrashBook" 43 8 M_TX_hasWordAt 2 := ⟨⟨tb_941, tb_2, tb_944, by decide, by decide, by decide +kernel⟩, tb_942, R_TX, T_TX, 3, rfl, tb_943⟩
theorem c_CB_53 : am_cS "RetraceDesk$CrashBook" 53 M_CB_isSameCall 3 := ⟨⟨tb_946, tb_8, tb_948, by decide, by decide, by decide +kernel⟩, tb_947⟩
theorem c_CB_57 : am_cS "RetraceDesk$CrashBook" 57 M_CB_mixCall 3 := ⟨⟨tb_952, tb_8, tb_954, by decide, by decide, by decide +kernel⟩, tb_953⟩
theorem c_CB_65 : am_cS "RetraceDesk$CrashBook" 65 M_CB_mixHeader 4 := ⟨⟨tb_965, tb_8, tb_967, by decide, by decide, by decide +kernel⟩, tb_966⟩
theorem S_CB_69 : Cond.methodLink "RetraceDesk$CrashBook" 69 Lib.Math.max.name ∈ am_tbl := tb_949
theorem c_CB_75 : am_cV "RetraceDesk$CrashBook" 75 8 M_TX_placeOf 3 := ⟨⟨tb_955, tb_2, tb_958, by decide, by decide, by decide +kernel⟩, tb_956, R_TX, T_TX, 3, rfl, tb_957⟩
theorem c_CB_79 : am_cS "RetraceDesk$CrashBook" 79 M_CB_mix 2 := ⟨⟨tb_959, tb_8, tb_961, by decide, by decide, by decide +kernel⟩, tb_960⟩
theorem c_CB_83 : am_cS "RetraceDesk$CrashBook" 83 M_CB_mixWithoutFigures 4 := ⟨⟨tb_968, tb_8, tb_970, by decide, by decide, by decide +kernel⟩, tb_969⟩
theorem c_CB_86 : am_cN "RetraceDesk$CrashBook" 86 "RetraceDesk" M_RD_isFigure 1 := ⟨tb_1, tb_522, tb_521, ⟨by decide, by decide, by decide +kernel⟩, fun _ _ hK => hK.2.2.2.2.1.2.2⟩
theorem J_CB_90 : Cond.constantLong "RetraceDesk$CrashBook" 90 (1099511628211) ∈ am_tbl := tb_962
theorem O_FO_3 : Cond.methodLink "RetraceDesk$Form" 3 objectInit ∈ am_tbl := tb_67
theorem P_FO_9_4 : am_P "RetraceDesk$Form" 9 4 0 (.array .char) true := ⟨R_MA, T_MA, 10, "RetraceDesk$Form", k_MA, rfl, by decide, tb_168, us_MA, Or.inl rfl, ky_MA, kn_MA, rfl, by decide +kernel, fun _ => rfl⟩
theorem P_FO_9_9 : am_P "RetraceDesk$Form" 9 9 0 (.array .char) true := ⟨R_TR, T_TR, 8, "RetraceDesk$Form", k_TR, rfl, by decide, tb_168, us_TR, Or.inl rfl, ky_TR, kn_TR, rfl, by decide +kernel, fun _ => rfl⟩
theorem P_FO_15_4 : am_P "RetraceDesk$Form" 15 4 1 (.int) false := ⟨R_MA, T_MA, 10, "RetraceDesk$Form", k_MA, rfl, by decide, tb_171, us_MA, Or.inl rfl, ky_MA, kn_MA, rfl, by decide +kernel, fun h => by cases h⟩
theorem P_FO_15_9 : am_P "RetraceDesk$Form" 15 9 1 (.int) false := ⟨R_TR, T_TR, 8, "RetraceDesk$Form", k_TR, rfl, by decide, tb_171, us_TR, Or.inl rfl, ky_TR, kn_TR, rfl, by decide +kernel, fun h => by cases h⟩
theorem F_FO_9_4 : am_F "RetraceDesk$Form" 9 4 0 := ⟨R_MA, T_MA, 10, "RetraceDesk$Form", rfl, by decide, tb_168, us_MA, Or.inl rfl⟩
theorem F_FO_9_9 : am_F "RetraceDesk$Form" 9 9 0 := ⟨R_TR, T_TR, 8, "RetraceDesk$Form", rfl, by decide, tb_168, us_TR, Or.inl rfl⟩
theorem P_FO_19_4 : am_P "RetraceDesk$Form" 19 4 2 (.int) false := ⟨R_MA, T_MA, 10, "RetraceDesk$Form", k_MA, rfl, by decide, tb_172, us_MA, Or.inl rfl, ky_MA, kn_MA, rfl, by decide +kernel, fun h => by cases h⟩
theorem P_FO_19_9 : am_P "RetraceDesk$Form" 19 9 2 (.int) false := ⟨R_TR, T_TR, 8, "RetraceDesk$Form", k_TR, rfl, by decide, tb_172, us_TR, Or.inl rfl, ky_TR, kn_TR, rfl, by decide +kernel, fun h => by cases h⟩
theorem c_FO_22_4 : am_cU "RetraceDesk$Form" 22 4 ({ cls := "RetraceDesk$Form", name := "takesLine", desc := "()Z" } : Jvm.MethodName) "RetraceDesk$Form" M_MA_takesLine 0 := ⟨tb_433, tb_9, tb_438, tb_435, tb_437, ⟨by decide, by decide⟩, by decide +kernel, ⟨R_MA, T_MA, 10, rfl, tb_436⟩, fun _ _ _ hK _ => va_Decl.abs hK.2.2.2.2.2.1⟩
theorem c_FO_22_9 : am_cU "RetraceDesk$Form" 22 9 ({ cls := "RetraceDesk$Form", name := "takesLine", desc := "()Z" } : Jvm.MethodName) "RetraceDesk$Form" M_TR_takesLine 0 := ⟨tb_433, tb_4, tb_593, tb_435, tb_592, ⟨by decide, by decide⟩, by decide +kernel, ⟨R_TR, T_TR, 8, rfl, tb_591⟩, fun _ _ _ hK _ => va_Decl.abs hK.2.2.2.2.2.1⟩
theorem F_FO_15_4 : am_F "RetraceDesk$Form" 15 4 1 := ⟨R_MA, T_MA, 10, "RetraceDesk$Form", rfl, by decide, tb_171, us_MA, Or.inl rfl⟩
theorem F_FO_15_9 : am_F "RetraceDesk$Form" 15 9 1 := ⟨R_TR, T_TR, 8, "RetraceDesk$Form", rfl, by decide, tb_171, us_TR, Or.inl rfl⟩
theorem F_FO_19_4 : am_F "RetraceDesk$Form" 19 4 2 := ⟨R_MA, T_MA, 10, "RetraceDesk$Form", rfl, by decide, tb_172, us_MA, Or.inl rfl⟩
theorem F_FO_19_9 : am_F "RetraceDesk$Form" 19 9 2 := ⟨R_TR, T_TR, 8, "RetraceDesk$Form", rfl, by decide, tb_172, us_TR, Or.inl rfl⟩
theorem c_FO_26 : am_cN "RetraceDesk$Form" 26 "RetraceDesk" M_RD_isFigure 1 := ⟨tb_1, tb_522, tb_521, ⟨by decide, by decide, by decide +kernel⟩, fun _ _ hK => hK.2.2.2.2.1.1⟩
theorem S_FO_40 : Cond.methodLink "RetraceDesk$Form" 40 Lib.Math.min.name ∈ am_tbl := tb_643
theorem c_FO_46 : am_cV "RetraceDesk$Form" 46 7 M_SL_set 2 := ⟨⟨tb_543, tb_5, tb_546, by decide, by decide, by decide +kernel⟩, tb_544, R_SL, T_SL, 3, rfl, tb_545⟩
theorem c_FO_52_4 : am_cU "RetraceDesk$Form" 52 4 ({ cls := "RetraceDesk$Form", name := "takeWord", desc := "(Ljava/lang/String;)Z" } : Jvm.MethodName) "RetraceDesk$Form" M_FO_takeWord 1 := ⟨tb_646, tb_3, tb_457, tb_1507, tb_456, ⟨by decide, by decide⟩, by decide +kernel, ⟨R_MA, T_MA, 10, rfl, tb_1508⟩, fun _ _ _ _ hts => va_Decl.of (hts _ tb_456) (hts _ tb_457)⟩
theorem c_FO_52_9 : am_cU "RetraceDesk$Form" 52 9 ({ cls := "RetraceDesk$Form", name := "takeWord", desc := "(Ljava/lang/String;)Z" } : Jvm.MethodName) "RetraceDesk$Form" M_FO_takeWord 1 := ⟨tb_646, tb_3, tb_457, tb_1507, tb_456, ⟨by decide, by decide⟩, by decide +kernel, ⟨R_TR, T_TR, 8, rfl, tb_1509⟩, fun _ _ _ _ hts => va_Decl.of (hts _ tb_456) (hts _ tb_457)⟩
theorem c_FO_56 : am_cN "RetraceDesk$Form" 56 "RetraceDesk" M_RD_isLetter 1 := ⟨tb_1, tb_542, tb_541, ⟨by decide, by decide, by decide +kernel⟩, fun _ _ hK => hK.2.2.2.2.1.2.1⟩
theorem O_FR_1 : Cond.methodLink "RetraceDesk$Frame" 1 objectInit ∈ am_tbl := tb_133
theorem N_FR_7 : am_N "RetraceDesk$Frame" 7 7 3 [.null, .int 0, .int 0] := ⟨R_SL, T_SL, k_SL, rfl, tb_134, tb_69, tb_5, us_SL, ky_SL, by decide +kernel, by decide +kernel⟩
theorem c_FR_9 : am_cI "RetraceDesk$Frame" 9 M_SL_init 1 ∧ M_SL_init.2.2.2.1 = none := ⟨⟨⟨tb_135, tb_5, tb_72, by decide, by decide, by decide +kernel⟩, rfl, tb_71⟩, rfl⟩
theorem P_FR_12_2 : am_P "RetraceDesk$Frame" 12 2 0 (.object "RetraceDesk$Slice") true := ⟨R_FR, T_FR, 5, "RetraceDesk$Frame", k_FR, rfl, by decide, tb_136, us_FR, Or.inl rfl, ky_FR, kn_FR, rfl, by decide +kernel, fun _ => rfl⟩
theorem P_FR_18_2 : am_P "RetraceDesk$Frame" 18 2 1 (.object "RetraceDesk$Slice") true := ⟨R_FR, T_FR, 5, "RetraceDesk$Frame", k_FR, rfl, by decide, tb_139, us_FR, Or.inl rfl, ky_FR, kn_FR, rfl, by decide +kernel, fun _ => rfl⟩
theorem P_FR_21_2 : am_P "RetraceDesk$Frame" 21 2 2 (.object "RetraceDesk$Slice") true := ⟨R_FR, T_FR, 5, "RetraceDesk$Frame", k_FR, rfl, by decide, tb_142, us_FR, Or.inl rfl, ky_FR, kn_FR, rfl, by decide +kernel, fun _ => rfl⟩
theorem O_HE_1 : Cond.methodLink "RetraceDesk$Header" 1 objectInit ∈ am_tbl := tb_97
theorem N_HE_7 : am_N "RetraceDesk$Header" 7 7 3 [.null, .int 0, .int 0] := ⟨R_SL, T_SL, k_SL, rfl, tb_98, tb_69, tb_5, us_SL, ky_SL, by decide +kernel, by decide +kernel⟩
theorem c_HE_9 : am_cI "RetraceDesk$Header" 9 M_SL_init 1 ∧ M_SL_init.2.2.2.1 = none := ⟨⟨⟨tb_99, tb_5, tb_72, by decide, by decide, by decide +kernel⟩, rfl, tb_71⟩, rfl⟩
theorem P_HE_12_3 : am_P "RetraceDesk$Header" 12 3 0 (.object "RetraceDesk$Slice") true := ⟨R_HE, T_HE, 6, "RetraceDesk$Header", k_HE, rfl, by decide, tb_100, us_HE, Or.inl rfl, ky_HE, kn_HE, rfl, by decide +kernel, fun _ => rfl⟩
theorem P_HE_18_3 : am_P "RetraceDesk$Header" 18 3 1 (.object "RetraceDesk$Slice") true := ⟨R_HE, T_HE, 6, "RetraceDesk$Header", k_HE, rfl, by decide, tb_103, us_HE, Or.inl rfl, ky_HE, kn_HE, rfl, by decide +kernel, fun _ => rfl⟩
theorem c_MA_3 : am_cI "RetraceDesk$Mapping" 3 M_FO_init 1 ∧ M_FO_init.2.2.2.1 = none := ⟨⟨⟨tb_227, tb_3, tb_66, by decide, by decide, by decide +kernel⟩, rfl, tb_65⟩, rfl⟩
theorem N_MA_9 : am_N "RetraceDesk$Mapping" 9 7 3 [.null, .int 0, .int 0] := ⟨R_SL, T_SL, k_SL, rfl, tb_228, tb_69, tb_5, us_SL, ky_SL, by decide +kernel, by decide +kernel⟩
theorem c_MA_11 : am_cI "RetraceDesk$Mapping" 11 M_SL_init 1 ∧ M_SL_init.2.2.2.1 = none := ⟨⟨⟨tb_229, tb_5, tb_72, by decide, by decide, by decide +kernel⟩, rfl, tb_71⟩, rfl⟩
theorem P_MA_12_4 : am_P "RetraceDesk$Mapping" 12 4 9 (.object "RetraceDesk$Slice") true := ⟨R_MA, T_MA, 10, "RetraceDesk$Mapping", k_MA, rfl, by decide, tb_323, us_MA, Or.inl rfl, ky_MA, kn_MA, rfl, by decide +kernel, fun _ => rfl⟩
theorem A_MA_18 : Cond.classLink "RetraceDesk$Mapping" 18 "RetraceDesk$ClassLine" ∈ am_tbl := tb_230
theorem P_MA_20_4 : am_P "RetraceDesk$Mapping" 20 4 3 (.array (.object "RetraceDesk$ClassLine")) true := ⟨R_MA, T_MA, 10, "RetraceDesk$Mapping", k_MA, rfl, by decide, tb_312, us_MA, Or.inl rfl, ky_MA, kn_MA, rfl, by decide +kernel, fun _ => rfl⟩
theorem F_MA_20_4 : am_F "RetraceDesk$Mapping" 20 4 3 := ⟨R_MA, T_MA, 10, "RetraceDesk$Mapping", rfl, by decide, tb_312, us_MA, Or.inl rfl⟩
theorem N_MA_18 : am_N "RetraceDesk$Mapping" 18 0 5 [.null, .null, .int 0, .int 0, .int 0] := ⟨R_CL, T_CL, k_CL, rfl, tb_230, tb_232, tb_10, us_CL, ky_CL, by decide +kernel, by decide +kernel⟩
theorem c_MA_24 : am_cI "RetraceDesk$Mapping" 24 M_CL_init 1 ∧ M_CL_init.2.2.2.1 = none := ⟨⟨⟨tb_233, tb_10, tb_235, by decide, by decide, by decide +kernel⟩, rfl, tb_234⟩, rfl⟩
theorem A_MA_25 : Cond.classLink "RetraceDesk$Mapping" 25 "RetraceDesk$MethodLine" ∈ am_tbl := tb_260
theorem P_MA_27_4 : am_P "RetraceDesk$Mapping" 27 4 4 (.array (.object "RetraceDesk$MethodLine")) true := ⟨R_MA, T_MA, 10, "RetraceDesk$Mapping", k_MA, rfl, by decide, tb_314, us_MA, Or.inl rfl, ky_MA, kn_MA, rfl, by decide +kernel, fun _ => rfl⟩
theorem F_MA_27_4 : am_F "RetraceDesk$Mapping" 27 4 4 := ⟨R_MA, T_MA, 10, "RetraceDesk$Mapping", rfl, by decide, tb_314, us_MA, Or.inl rfl⟩
theorem N_MA_25 : am_N "RetraceDesk$Mapping" 25 5 9 [.null, .null, .null, .int 0, .int 0, .int 0, .int 0, .int 0, .int 0] := ⟨R_ML, T_ML, k_ML, rfl, tb_260, tb_262, tb_11, us_ML, ky_ML, by decide +kernel, by decide +kernel⟩
theorem c_MA_31 : am_cI "RetraceDesk$Mapping" 31 M_ML_init 1 ∧ M_ML_init.2.2.2.1 = none := ⟨⟨⟨tb_263, tb_11, tb_265, by decide, by decide, by decide +kernel⟩, rfl, tb_264⟩, rfl⟩
theorem F_MA_32_8 : am_F "RetraceDesk$Mapping" 32 8 0 := ⟨R_TX, T_TX, 3, "RetraceDesk$Text", rfl, by decide, tb_43, us_TX, Or.inl rfl⟩
theorem F_MA_38_4 : am_F "RetraceDesk$Mapping" 38 4 0 := ⟨R_MA, T_MA, 10, "RetraceDesk$Mapping", rfl, by decide, tb_169, us_MA, Or.inr tb_170⟩
theorem F_MA_39_8 : am_F "RetraceDesk$Mapping" 39 8 1 := ⟨R_TX, T_TX, 3, "RetraceDesk$Text", rfl, by decide, tb_46, us_TX, Or.inl rfl⟩
theorem S_MA_43 : Cond.methodLink "RetraceDesk$Mapping" 43 arraycopyName ∈ am_tbl := tb_424
theorem P_MA_49_4 : am_P "RetraceDesk$Mapping" 49 4 5 (.int) false := ⟨R_MA, T_MA, 10, "RetraceDesk$Mapping", k_MA, rfl, by decide, tb_316, us_MA, Or.inl rfl, ky_MA, kn_MA, rfl, by decide +kernel, fun h => by cases h⟩
theorem P_MA_52_4 : am_P "RetraceDesk$Mapping" 52 4 6 (.int) false := ⟨R_MA, T_MA, 10, "RetraceDesk$Mapping", k_MA, rfl, by decide, tb_318, us_MA, Or.inl rfl, ky_MA, kn_MA, rfl, by decide +kernel, fun h => by cases h⟩
theorem P_MA_55_4 : am_P "RetraceDesk$Mapping" 55 4 7 (.int) false := ⟨R_MA, T_MA, 10, "RetraceDesk$Mapping", k_MA, rfl, by decide, tb_320, us_MA, Or.inl rfl, ky_MA, kn_MA, rfl, by decide +kernel, fun h => by cases h⟩
theorem P_MA_58_4 : am_P "RetraceDesk$Mapping" 58 4 8 (.int) false := ⟨R_MA, T_MA, 10, "RetraceDesk$Mapping", k_MA, rfl, by decide, tb_322, us_MA, Or.inl rfl, ky_MA, kn_MA, rfl, by decide +kernel, fun h => by cases h⟩
theorem c_MA_61_4 : am_cU "RetraceDesk$Mapping" 61 4 ({ cls := "RetraceDesk$Mapping", name := "isDone", desc := "()Z" } : Jvm.MethodName) "RetraceDesk$Form" M_FO_isDone 0 := ⟨tb_439, tb_3, tb_444, tb_440, tb_443, ⟨by decide, by decide⟩, by decide +kernel, ⟨R_MA, T_MA, 10, rfl, tb_442⟩, fun _ _ _ _ hts => va_Decl.of (hts _ tb_443) (hts _ tb_444)⟩
theorem c_MA_65_4 : am_cU "RetraceDesk$Mapping" 65 4 ({ cls := "RetraceDesk$Mapping", name := "isAtComment", desc := "()Z" } : Jvm.MethodName) "RetraceDesk$Form" M_FO_isAtComment 0 := ⟨tb_445, tb_3, tb_450, tb_446, tb_449, ⟨by decide, by decide⟩, by decide +kernel, ⟨R_MA, T_MA, 10, rfl, tb_448⟩, fun _ _ _ _ hts => va_Decl.of (hts _ tb_449) (hts _ tb_450)⟩
theorem c_MA_70_4 : am_cU "RetraceDesk$Mapping" 70 4 ({ cls := "RetraceDesk$Mapping", name := "takeWord", desc := "(Ljava/lang/String;)Z" } : Jvm.MethodName) "RetraceDesk$Form" M_FO_takeWord 1 := ⟨tb_452, tb_3, tb_457, tb_453, tb_456, ⟨by decide, by decide⟩, by decide +kernel, ⟨R_MA, T_MA, 10, rfl, tb_455⟩, fun _ _ _ _ hts => va_Decl.of (hts _ tb_456) (hts _ tb_457)⟩
theorem c_MA_74 : am_cV "RetraceDesk$Mapping" 74 4 M_MA_takesMethodLine 0 := ⟨⟨tb_506, tb_9, tb_509, by decide, by decide, by decide +kernel⟩, tb_508, R_MA, T_MA, 10, rfl, sl_MA_takesMethodLine⟩
theorem c_MA_77 : am_cV "RetraceDesk$Mapping" 77 4 M_MA_takesClassLine 0 := ⟨⟨tb_578, tb_9, tb_581, by decide, by decide, by decide +kernel⟩, tb_580, R_MA, T_MA, 10, rfl, sl_MA_takesClassLine⟩
theorem F_MA_49_4 : am_F "RetraceDesk$Mapping" 49 4 5 := ⟨R_MA, T_MA, 10, "RetraceDesk$Mapping", rfl, by decide, tb_316, us_MA, Or.inl rfl⟩
theorem F_MA_80_0 : am_F "RetraceDesk$Mapping" 80 0 0 := ⟨R_CL, T_CL, 5, "RetraceDesk$ClassLine", rfl, by decide, tb_241, us_CL, Or.inl rfl⟩
theorem c_MA_83_4 : am_cU "RetraceDesk$Mapping" 83 4 ({ cls := "RetraceDesk$Mapping", name := "takeParts", desc := "(LRetraceDesk$Slice;II)Z" } : Jvm.MethodName) "RetraceDesk$Form" M_FO_takeParts 3 := ⟨tb_534, tb_3, tb_539, tb_535, tb_538, ⟨by decide, by decide⟩, by decide +kernel, ⟨R_MA, T_MA, 10, rfl, tb_537⟩, fun _ _ _ _ hts => va_Decl.of (hts _ tb_538) (hts _ tb_539)⟩
theorem F_MA_89_0 : am_F "RetraceDesk$Mapping" 89 0 1 := ⟨R_CL, T_CL, 5, "RetraceDesk$ClassLine", rfl, by decide, tb_243, us_CL, Or.inl rfl⟩
theorem c_MA_94 : am_cV "RetraceDesk$Mapping" 94 4 M_MA_lineOfReal 1 := ⟨⟨tb_582, tb_9, tb_585, by decide, by decide, by decide +kernel⟩, tb_583, R_MA, T_MA, 10, rfl, tb_584⟩
theorem c_MA_98 : am_cV "RetraceDesk$Mapping" 98 4 M_MA_lineOfShort 1 := ⟨⟨tb_587, tb_9, tb_590, by decide, by decide, by decide +kernel⟩, tb_588, R_MA, T_MA, 10, rfl, tb_589⟩
theorem F_MA_52_4 : am_F "RetraceDesk$Mapping" 52 4 6 := ⟨R_MA, T_MA, 10, "RetraceDesk$Mapping", rfl, by decide, tb_318, us_MA, Or.inl rfl⟩
theorem P_MA_101_0 : am_P "RetraceDesk$Mapping" 101 0 2 (.int) false := ⟨R_CL, T_CL, 5, "RetraceDesk$ClassLine", k_CL, rfl, by decide, tb_245, us_CL, Or.inl rfl, ky_CL, kn_CL, rfl, by decide +kernel, fun h => by cases h⟩
theorem P_MA_104_0 : am_P "RetraceDesk$Mapping" 104 0 3 (.int) false := ⟨R_CL, T_CL, 5, "RetraceDesk$ClassLine", k_CL, rfl, by decide, tb_246, us_CL, Or.inl rfl, ky_CL, kn_CL, rfl, by decide +kernel, fun h => by cases h⟩
theorem P_MA_107_0 : am_P "RetraceDesk$Mapping" 107 0 4 (.int) false := ⟨R_CL, T_CL, 5, "RetraceDesk$ClassLine", k_CL, rfl, by decide, tb_247, us_CL, Or.inl rfl, ky_CL, kn_CL, rfl, by decide +kernel, fun h => by cases h⟩
theorem P_MA_108_5 : am_P "RetraceDesk$Mapping" 108 5 3 (.int) false := ⟨R_ML, T_ML, 9, "RetraceDesk$MethodLine", k_ML, rfl, by decide, tb_279, us_ML, Or.inl rfl, ky_ML, kn_ML, rfl, by decide +kernel, fun h => by cases h⟩
theorem c_MA_111 : am_cV "RetraceDesk$Mapping" 111 4 M_MA_takesRange 1 := ⟨⟨tb_510, tb_9, tb_513, by decide, by decide, by decide +kernel⟩, tb_512, R_MA, T_MA, 10, rfl, sl_MA_takesRange⟩
theorem c_MA_115 : am_cV "RetraceDesk$Mapping" 115 4 M_MA_takesRealCall 1 := ⟨⟨tb_530, tb_9, tb_533, by decide, by decide, by decide +kernel⟩, tb_532, R_MA, T_MA, 10, rfl, sl_MA_takesRealCall⟩
theorem c_MA_118 : am_cV "RetraceDesk$Mapping" 118 4 M_MA_takesRealRange 1 := ⟨⟨tb_552, tb_9, tb_555, by decide, by decide, by decide +kernel⟩, tb_554, R_MA, T_MA, 10, rfl, sl_MA_takesRealRange⟩
theorem F_MA_121_5 : am_F "RetraceDesk$Mapping" 121 5 2 := ⟨R_ML, T_ML, 9, "RetraceDesk$MethodLine", rfl, by decide, tb_276, us_ML, Or.inl rfl⟩
theorem c_MA_122 : am_cV "RetraceDesk$Mapping" 122 4 M_MA_enterMethodLine 2 := ⟨⟨tb_565, tb_9, tb_568, by decide, by decide, by decide +kernel⟩, tb_567, R_MA, T_MA, 10, rfl, sl_MA_enterMethodLine⟩
theorem P_MA_126_5 : am_P "RetraceDesk$Mapping" 126 5 5 (.int) false := ⟨R_ML, T_ML, 9, "RetraceDesk$MethodLine", k_ML, rfl, by decide, tb_284, us_ML, Or.inl rfl, ky_ML, kn_ML, rfl, by decide +kernel, fun h => by cases h⟩
theorem P_MA_129_5 : am_P "RetraceDesk$Mapping" 129 5 6 (.int) false := ⟨R_ML, T_ML, 9, "RetraceDesk$MethodLine", k_ML, rfl, by decide, tb_286, us_ML, Or.inl rfl, ky_ML, kn_ML, rfl, by decide +kernel, fun h => by cases h⟩
theorem c_MA_132_4 : am_cU "RetraceDesk$Mapping" 132 4 ({ cls := "RetraceDesk$Mapping", name := "isAtFigure", desc := "()Z" } : Jvm.MethodName) "RetraceDesk$Form" M_FO_isAtFigure 0 := ⟨tb_514, tb_3, tb_519, tb_515, tb_518, ⟨by decide, by decide⟩, by decide +kernel, ⟨R_MA, T_MA, 10, rfl, tb_517⟩, fun _ _ _ _ hts => va_Decl.of (hts _ tb_518) (hts _ tb_519)⟩
theorem c_MA_135_4 : am_cU "RetraceDesk$Mapping" 135 4 ({ cls := "RetraceDesk$Mapping", name := "takeNumber", desc := "()I" } : Jvm.MethodName) "RetraceDesk$Form" M_FO_takeNumber 0 := ⟨tb_523, tb_3, tb_528, tb_524, tb_527, ⟨by decide, by decide⟩, by decide +kernel, ⟨R_MA, T_MA, 10, rfl, tb_526⟩, fun _ _ _ _ hts => va_Decl.of (hts _ tb_527) (hts _ tb_528)⟩
theorem F_MA_126_5 : am_F "RetraceDesk$Mapping" 126 5 5 := ⟨R_ML, T_ML, 9, "RetraceDesk$MethodLine", rfl, by decide, tb_284, us_ML, Or.inl rfl⟩
theorem F_MA_129_5 : am_F "RetraceDesk$Mapping" 129 5 6 := ⟨R_ML, T_ML, 9, "RetraceDesk$MethodLine", rfl, by decide, tb_286, us_ML, Or.inl rfl⟩
theorem F_MA_12_4 : am_F "RetraceDesk$Mapping" 12 4 9 := ⟨R_MA, T_MA, 10, "RetraceDesk$Mapping", rfl, by decide, tb_323, us_MA, Or.inl rfl⟩
theorem c_MA_139 : am_cV "RetraceDesk$Mapping" 139 7 M_SL_lastPoint 0 := ⟨⟨tb_547, tb_5, tb_550, by decide, by decide, by decide +kernel⟩, tb_548, R_SL, T_SL, 3, rfl, tb_549⟩
theorem F_MA_108_5 : am_F "RetraceDesk$Mapping" 108 5 3 := ⟨R_ML, T_ML, 9, "RetraceDesk$MethodLine", rfl, by decide, tb_279, us_ML, Or.inl rfl⟩
theorem F_MA_142_5 : am_F "RetraceDesk$Mapping" 142 5 0 := ⟨R_ML, T_ML, 9, "RetraceDesk$MethodLine", rfl, by decide, tb_271, us_ML, Or.inl rfl⟩
theorem F_MA_145_7 : am_F "RetraceDesk$Mapping" 145 7 1 := ⟨R_SL, T_SL, 3, "RetraceDesk$Slice", rfl, by decide, tb_79, us_SL, Or.inl rfl⟩
theorem F_MA_148_7 : am_F "RetraceDesk$Mapping" 148 7 2 := ⟨R_SL, T_SL, 3, "RetraceDesk$Slice", rfl, by decide, tb_83, us_SL, Or.inl rfl⟩
theorem c_MA_151 : am_cV "RetraceDesk$Mapping" 151 7 M_SL_set 2 := ⟨⟨tb_551, tb_5, tb_546, by decide, by decide, by decide +kernel⟩, tb_544, R_SL, T_SL, 3, rfl, tb_545⟩
theorem F_MA_155_5 : am_F "RetraceDesk$Mapping" 155 5 1 := ⟨R_ML, T_ML, 9, "RetraceDesk$MethodLine", rfl, by decide, tb_274, us_ML, Or.inl rfl⟩
theorem P_MA_158_5 : am_P "RetraceDesk$Mapping" 158 5 7 (.int) false := ⟨R_ML, T_ML, 9, "RetraceDesk$MethodLine", k_ML, rfl, by decide, tb_289, us_ML, Or.inl rfl, ky_ML, kn_ML, rfl, by decide +kernel, fun h => by cases h⟩
theorem P_MA_161_5 : am_P "RetraceDesk$Mapping" 161 5 8 (.int) false := ⟨R_ML, T_ML, 9, "RetraceDesk$MethodLine", k_ML, rfl, by decide, tb_292, us_ML, Or.inl rfl, ky_ML, kn_ML, rfl, by decide +kernel, fun h => by cases h⟩
theorem c_MA_164 : am_cV "RetraceDesk$Mapping" 164 5 M_ML_hasRange 0 := ⟨⟨tb_556, tb_11, tb_559, by decide, by decide, by decide +kernel⟩, tb_557, R_ML, T_ML, 9, rfl, tb_558⟩
theorem F_MA_158_5 : am_F "RetraceDesk$Mapping" 158 5 7 := ⟨R_ML, T_ML, 9, "RetraceDesk$MethodLine", rfl, by decide, tb_289, us_ML, Or.inl rfl⟩
theorem F_MA_161_5 : am_F "RetraceDesk$Mapping" 161 5 8 := ⟨R_ML, T_ML, 9, "RetraceDesk$MethodLine", rfl, by decide, tb_292, us_ML, Or.inl rfl⟩
theorem c_MA_167 : am_cV "RetraceDesk$Mapping" 167 5 M_ML_hasOneRealLine 0 := ⟨⟨tb_560, tb_11, tb_563, by decide, by decide, by decide +kernel⟩, tb_561, R_ML, T_ML, 9, rfl, tb_562⟩
theorem P_MA_170_5 : am_P "RetraceDesk$Mapping" 170 5 4 (.int) false := ⟨R_ML, T_ML, 9, "RetraceDesk$MethodLine", k_ML, rfl, by decide, tb_281, us_ML, Or.inl rfl, ky_ML, kn_ML, rfl, by decide +kernel, fun h => by cases h⟩
theorem F_MA_58_4 : am_F "RetraceDesk$Mapping" 58 4 8 := ⟨R_MA, T_MA, 10, "RetraceDesk$Mapping", rfl, by decide, tb_322, us_MA, Or.inl rfl⟩
theorem c_MA_173 : am_cV "RetraceDesk$Mapping" 173 5 M_ML_isInGroupOf 1 := ⟨⟨tb_569, tb_11, tb_572, by decide, by decide, by decide +kernel⟩, tb_570, R_ML, T_ML, 9, rfl, tb_571⟩
theorem F_MA_55_4 : am_F "RetraceDesk$Mapping" 55 4 7 := ⟨R_MA, T_MA, 10, "RetraceDesk$Mapping", rfl, by decide, tb_320, us_MA, Or.inl rfl⟩
theorem F_MA_107_0 : am_F "RetraceDesk$Mapping" 107 0 4 := ⟨R_CL, T_CL, 5, "RetraceDesk$ClassLine", rfl, by decide, tb_247, us_CL, Or.inl rfl⟩
theorem F_MA_170_5 : am_F "RetraceDesk$Mapping" 170 5 4 := ⟨R_ML, T_ML, 9, "RetraceDesk$MethodLine", rfl, by decide, tb_281, us_ML, Or.inl rfl⟩
theorem c_MA_176 : am_cV "RetraceDesk$Mapping" 176 7 M_SL_isSame 1 := ⟨⟨tb_586, tb_5, tb_577, by decide, by decide, by decide +kernel⟩, tb_575, R_SL, T_SL, 3, rfl, tb_576⟩
theorem F_MA_101_0 : am_F "RetraceDesk$Mapping" 101 0 2 := ⟨R_CL, T_CL, 5, "RetraceDesk$ClassLine", rfl, by decide, tb_245, us_CL, Or.inl rfl⟩
theorem F_MA_104_0 : am_F "RetraceDesk$Mapping" 104 0 3 := ⟨R_CL, T_CL, 5, "RetraceDesk$ClassLine", rfl, by decide, tb_246, us_CL, Or.inl rfl⟩
theorem c_MA_180 : am_cV "RetraceDesk$Mapping" 180 4 M_MA_isGroup 2 := ⟨⟨tb_835, tb_9, tb_838, by decide, by decide, by decide +kernel⟩, tb_837, R_MA, T_MA, 10, rfl, sl_MA_isGroup⟩
theorem c_MA_184 : am_cV "RetraceDesk$Mapping" 184 4 M_MA_lastLineOf 1 := ⟨⟨tb_867, tb_9, tb_862, by decide, by decide, by decide +kernel⟩, tb_860, R_MA, T_MA, 10, rfl, tb_861⟩
theorem c_MA_188 : am_cV "RetraceDesk$Mapping" 188 5 M_ML_isRealCall 2 := ⟨⟨tb_868, tb_11, tb_871, by decide, by decide, by decide +kernel⟩, tb_869, R_ML, T_ML, 9, rfl, tb_870⟩
theorem O_ML_3 : Cond.methodLink "RetraceDesk$MethodLine" 3 objectInit ∈ am_tbl := tb_266
theorem N_ML_9 : am_N "RetraceDesk$MethodLine" 9 7 3 [.null, .int 0, .int 0] := ⟨R_SL, T_SL, k_SL, rfl, tb_267, tb_69, tb_5, us_SL, ky_SL, by decide +kernel, by decide +kernel⟩
theorem c_ML_11 : am_cI "RetraceDesk$MethodLine" 11 M_SL_init 1 ∧ M_SL_init.2.2.2.1 = none := ⟨⟨⟨tb_268, tb_5, tb_72, by decide, by decide, by decide +kernel⟩, rfl, tb_71⟩, rfl⟩
theorem P_ML_14_5 : am_P "RetraceDesk$MethodLine" 14 5 0 (.object "RetraceDesk$Slice") true := ⟨R_ML, T_ML, 9, "RetraceDesk$MethodLine", k_ML, rfl, by decide, tb_269, us_ML, Or.inl rfl, ky_ML, kn_ML, rfl, by decide +kernel, fun _ => rfl⟩
theorem P_ML_20_5 : am_P "RetraceDesk$MethodLine" 20 5 1 (.object "RetraceDesk$Slice") true := ⟨R_ML, T_ML, 9, "RetraceDesk$MethodLine", k_ML, rfl, by decide, tb_272, us_ML, Or.inl rfl, ky_ML, kn_ML, rfl, by decide +kernel, fun _ => rfl⟩
theorem P_ML_23_5 : am_P "RetraceDesk$MethodLine" 23 5 2 (.object "RetraceDesk$Slice") true := ⟨R_ML, T_ML, 9, "RetraceDesk$MethodLine", k_ML, rfl, by decide, tb_275, us_ML, Or.inl rfl, ky_ML, kn_ML, rfl, by decide +kernel, fun _ => rfl⟩
theorem F_ML_26_5 : am_F "RetraceDesk$MethodLine" 26 5 5 := ⟨R_ML, T_ML, 9, "RetraceDesk$MethodLine", rfl, by decide, tb_282, us_ML, Or.inl rfl⟩
theorem F_ML_30_5 : am_F "RetraceDesk$MethodLine" 30 5 7 := ⟨R_ML, T_ML, 9, "RetraceDesk$MethodLine", rfl, by decide, tb_287, us_ML, Or.inl rfl⟩
theorem F_ML_33_5 : am_F "RetraceDesk$MethodLine" 33 5 8 := ⟨R_ML, T_ML, 9, "RetraceDesk$MethodLine", rfl, by decide, tb_290, us_ML, Or.inl rfl⟩
theorem F_ML_14_5 : am_F "RetraceDesk$MethodLine" 14 5 0 := ⟨R_ML, T_ML, 9, "RetraceDesk$MethodLine", rfl, by decide, tb_269, us_ML, Or.inl rfl⟩
theorem c_ML_36 : am_cV "RetraceDesk$MethodLine" 36 7 M_SL_isSame 1 := ⟨⟨tb_574, tb_5, tb_577, by decide, by decide, by decide +kernel⟩, tb_575, R_SL, T_SL, 3, rfl, tb_576⟩
theorem F_ML_20_5 : am_F "RetraceDesk$MethodLine" 20 5 1 := ⟨R_ML, T_ML, 9, "RetraceDesk$MethodLine", rfl, by decide, tb_272, us_ML, Or.inl rfl⟩
theorem c_ML_40 : am_cV "RetraceDesk$MethodLine" 40 5 M_ML_hasRange 0 := ⟨⟨tb_573, tb_11, tb_559, by decide, by decide, by decide +kernel⟩, tb_557, R_ML, T_ML, 9, rfl, tb_558⟩
theorem F_ML_44_5 : am_F "RetraceDesk$MethodLine" 44 5 3 := ⟨R_ML, T_ML, 9, "RetraceDesk$MethodLine", rfl, by decide, tb_278, us_ML, Or.inl rfl⟩
theorem F_ML_47_5 : am_F "RetraceDesk$MethodLine" 47 5 6 := ⟨R_ML, T_ML, 9, "RetraceDesk$MethodLine", rfl, by decide, tb_285, us_ML, Or.inl rfl⟩
theorem F_ML_23_5 : am_F "RetraceDesk$MethodLine" 23 5 2 := ⟨R_ML, T_ML, 9, "RetraceDesk$MethodLine", rfl, by decide, tb_275, us_ML, Or.inl rfl⟩
theorem O_RW_3 : Cond.methodLink "RetraceDesk$Rewriter" 3 objectInit ∈ am_tbl := tb_762
theorem P_RW_9_6 : am_P "RetraceDesk$Rewriter" 9 6 0 (.object "RetraceDesk$Trace") true := ⟨R_RW, T_RW, 5, "RetraceDesk$Rewriter", k_RW, rfl, by decide, tb_763, us_RW, Or.inl rfl, ky_RW, kn_RW, rfl, by decide +kernel, fun _ => rfl⟩
theorem P_RW_15_6 : am_P "RetraceDesk$Rewriter" 15 6 1 (.object "RetraceDesk$Mapping") true := ⟨R_RW, T_RW, 5, "RetraceDesk$Rewriter", k_RW, rfl, by decide, tb_764, us_RW, Or.inl rfl, ky_RW, kn_RW, rfl, by decide +kernel, fun _ => rfl⟩
theorem P_RW_19_6 : am_P "RetraceDesk$Rewriter" 19 6 2 (.object "RetraceDesk$Text") true := ⟨R_RW, T_RW, 5, "RetraceDesk$Rewriter", k_RW, rfl, by decide, tb_765, us_RW, Or.inl rfl, ky_RW, kn_RW, rfl, by decide +kernel, fun _ => rfl⟩
theorem F_RW_9_6 : am_F "RetraceDesk$Rewriter" 9 6 0 := ⟨R_RW, T_RW, 5, "RetraceDesk$Rewriter", rfl, by decide, tb_763, us_RW, Or.inl rfl⟩
theorem F_RW_23_9 : am_F "RetraceDesk$Rewriter" 23 9 5 := ⟨R_TR, T_TR, 8, "RetraceDesk$Trace", rfl, by decide, tb_165, us_TR, Or.inl rfl⟩
theorem F_RW_29_9 : am_F "RetraceDesk$Rewriter" 29 9 3 := ⟨R_TR, T_TR, 8, "RetraceDesk$Trace", rfl, by decide, tb_161, us_TR, Or.inl rfl⟩
theorem F_RW_15_6 : am_F "RetraceDesk$Rewriter" 15 6 1 := ⟨R_RW, T_RW, 5, "RetraceDesk$Rewriter", rfl, by decide, tb_764, us_RW, Or.inl rfl⟩
theorem F_RW_33_3 : am_F "RetraceDesk$Rewriter" 33 3 0 := ⟨R_HE, T_HE, 6, "RetraceDesk$Header", rfl, by decide, tb_101, us_HE, Or.inl rfl⟩
theorem c_RW_39 : am_cV "RetraceDesk$Rewriter" 39 4 M_MA_lineOfShort 1 := ⟨⟨tb_785, tb_9, tb_590, by decide, by decide, by decide +kernel⟩, tb_588, R_MA, T_MA, 10, rfl, tb_589⟩
theorem F_RW_45_0 : am_F "RetraceDesk$Rewriter" 45 0 0 := ⟨R_CL, T_CL, 5, "RetraceDesk$ClassLine", rfl, by decide, tb_240, us_CL, Or.inl rfl⟩
theorem c_RW_50 : am_cV "RetraceDesk$Rewriter" 50 6 M_RW_writeHeader 2 := ⟨⟨tb_786, tb_24, tb_789, by decide, by decide, by decide +kernel⟩, tb_788, R_RW, T_RW, 5, rfl, sl_RW_writeHeader⟩
theorem F_RW_54_3 : am_F "RetraceDesk$Rewriter" 54 3 4 := ⟨R_HE, T_HE, 6, "RetraceDesk$Header", rfl, by decide, tb_110, us_HE, Or.inl rfl⟩
theorem F_RW_57_3 : am_F "RetraceDesk$Rewriter" 57 3 5 := ⟨R_HE, T_HE, 6, "RetraceDesk$Header", rfl, by decide, tb_112, us_HE, Or.inl rfl⟩
theorem F_RW_60_9 : am_F "RetraceDesk$Rewriter" 60 9 4 := ⟨R_TR, T_TR, 8, "RetraceDesk$Trace", rfl, by decide, tb_163, us_TR, Or.inl rfl⟩
theorem c_RW_64 : am_cV "RetraceDesk$Rewriter" 64 6 M_RW_retraceFrame 1 := ⟨⟨tb_809, tb_24, tb_812, by decide, by decide, by decide +kernel⟩, tb_811, R_RW, T_RW, 5, rfl, sl_RW_retraceFrame⟩
theorem c_RW_68 : am_cV "RetraceDesk$Rewriter" 68 6 M_RW_writeMore 1 := ⟨⟨tb_872, tb_24, tb_875, by decide, by decide, by decide +kernel⟩, tb_874, R_RW, T_RW, 5, rfl, sl_RW_writeMore⟩
theorem F_RW_72_2 : am_F "RetraceDesk$Rewriter" 72 2 0 := ⟨R_FR, T_FR, 5, "RetraceDesk$Frame", rfl, by decide, tb_137, us_FR, Or.inl rfl⟩
theorem c_RW_77 : am_cV "RetraceDesk$Rewriter" 77 6 M_RW_writeUnchanged 1 := ⟨⟨tb_813, tb_24, tb_816, by decide, by decide, by decide +kernel⟩, tb_815, R_RW, T_RW, 5, rfl, sl_RW_writeUnchanged⟩
theorem F_RW_80_2 : am_F "RetraceDesk$Rewriter" 80 2 1 := ⟨R_FR, T_FR, 5, "RetraceDesk$Frame", rfl, by decide, tb_140, us_FR, Or.inl rfl⟩
theorem F_RW_83_2 : am_F "RetraceDesk$Rewriter" 83 2 4 := ⟨R_FR, T_FR, 5, "RetraceDesk$Frame", rfl, by decide, tb_147, us_FR, Or.inl rfl⟩
theorem c_RW_86 : am_cV "RetraceDesk$Rewriter" 86 4 M_MA_groupAround 3 := ⟨⟨tb_831, tb_9, tb_834, by decide, by decide, by decide +kernel⟩, tb_832, R_MA, T_MA, 10, rfl, tb_833⟩
theorem c_RW_90 : am_cV "RetraceDesk$Rewriter" 90 6 M_RW_writeInlined 2 := ⟨⟨tb_839, tb_24, tb_842, by decide, by decide, by decide +kernel⟩, tb_841, R_RW, T_RW, 5, rfl, sl_RW_writeInlined⟩
theorem c_RW_94 : am_cV "RetraceDesk$Rewriter" 94 4 M_MA_firstGroup 2 := ⟨⟨tb_851, tb_9, tb_854, by decide, by decide, by decide +kernel⟩, tb_852, R_MA, T_MA, 10, rfl, tb_853⟩
theorem c_RW_98 : am_cV "RetraceDesk$Rewriter" 98 6 M_RW_writeReal 3 := ⟨⟨tb_855, tb_24, tb_858, by decide, by decide, by decide +kernel⟩, tb_857, R_RW, T_RW, 5, rfl, sl_RW_writeReal⟩
theorem c_RW_102 : am_cV "RetraceDesk$Rewriter" 102 4 M_MA_lastLineOf 1 := ⟨⟨tb_859, tb_9, tb_862, by decide, by decide, by decide +kernel⟩, tb_860, R_MA, T_MA, 10, rfl, tb_861⟩
theorem F_RW_106_5 : am_F "RetraceDesk$Rewriter" 106 5 0 := ⟨R_ML, T_ML, 9, "RetraceDesk$MethodLine", rfl, by decide, tb_270, us_ML, Or.inl rfl⟩
theorem F_RW_109_5 : am_F "RetraceDesk$Rewriter" 109 5 1 := ⟨R_ML, T_ML, 9, "RetraceDesk$MethodLine", rfl, by decide, tb_273, us_ML, Or.inl rfl⟩
theorem c_RW_110 : am_cV "RetraceDesk$Rewriter" 110 4 M_MA_hasUnlikeGroups 3 := ⟨⟨tb_863, tb_9, tb_866, by decide, by decide, by decide +kernel⟩, tb_864, R_MA, T_MA, 10, rfl, tb_865⟩
theorem F_RW_114_6 : am_F "RetraceDesk$Rewriter" 114 6 4 := ⟨R_RW, T_RW, 5, "RetraceDesk$Rewriter", rfl, by decide, tb_768, us_RW, Or.inl rfl⟩
theorem P_RW_114_6 : am_P "RetraceDesk$Rewriter" 114 6 4 (.int) false := ⟨R_RW, T_RW, 5, "RetraceDesk$Rewriter", k_RW, rfl, by decide, tb_768, us_RW, Or.inl rfl, ky_RW, kn_RW, rfl, by decide +kernel, fun h => by cases h⟩
theorem F_RW_117_4 : am_F "RetraceDesk$Rewriter" 117 4 4 := ⟨R_MA, T_MA, 10, "RetraceDesk$Mapping", rfl, by decide, tb_315, us_MA, Or.inl rfl⟩
theorem F_RW_121_5 : am_F "RetraceDesk$Rewriter" 121 5 4 := ⟨R_ML, T_ML, 9, "RetraceDesk$MethodLine", rfl, by decide, tb_280, us_ML, Or.inl rfl⟩
theorem c_RW_124 : am_cV "RetraceDesk$Rewriter" 124 5 M_ML_hasOneRealLine 0 := ⟨⟨tb_843, tb_11, tb_563, by decide, by decide, by decide +kernel⟩, tb_561, R_ML, T_ML, 9, rfl, tb_562⟩
theorem F_RW_128_5 : am_F "RetraceDesk$Rewriter" 128 5 5 := ⟨R_ML, T_ML, 9, "RetraceDesk$MethodLine", rfl, by decide, tb_283, us_ML, Or.inl rfl⟩
theorem c_RW_131 : am_cV "RetraceDesk$Rewriter" 131 6 M_RW_openFrame 2 := ⟨⟨tb_817, tb_24, tb_820, by decide, by decide, by decide +kernel⟩, tb_819, R_RW, T_RW, 5, rfl, sl_RW_openFrame⟩
theorem F_RW_19_6 : am_F "RetraceDesk$Rewriter" 19 6 2 := ⟨R_RW, T_RW, 5, "RetraceDesk$Rewriter", rfl, by decide, tb_765, us_RW, Or.inl rfl⟩
theorem c_RW_135 : am_cV "RetraceDesk$Rewriter" 135 8 M_TX_addFileOf 1 := ⟨⟨tb_844, tb_2, tb_847, by decide, by decide, by decide +kernel⟩, tb_845, R_TX, T_TX, 3, rfl, tb_846⟩
theorem F_RW_141_5 : am_F "RetraceDesk$Rewriter" 141 5 7 := ⟨R_ML, T_ML, 9, "RetraceDesk$MethodLine", rfl, by decide, tb_288, us_ML, Or.inl rfl⟩
theorem c_RW_144 : am_cV "RetraceDesk$Rewriter" 144 6 M_RW_closeFrame 1 := ⟨⟨tb_822, tb_24, tb_825, by decide, by decide, by decide +kernel⟩, tb_824, R_RW, T_RW, 5, rfl, sl_RW_closeFrame⟩
theorem c_RW_148 : am_cV "RetraceDesk$Rewriter" 148 4 M_MA_lineOfReal 1 := ⟨⟨tb_901, tb_9, tb_585, by decide, by decide, by decide +kernel⟩, tb_583, R_MA, T_MA, 10, rfl, tb_584⟩
theorem F_RW_151_0 : am_F "RetraceDesk$Rewriter" 151 0 1 := ⟨R_CL, T_CL, 5, "RetraceDesk$ClassLine", rfl, by decide, tb_244, us_CL, Or.inl rfl⟩
theorem c_RW_154 : am_cV "RetraceDesk$Rewriter" 154 6 M_RW_shortenFrom 2 := ⟨⟨tb_902, tb_24, tb_905, by decide, by decide, by decide +kernel⟩, tb_904, R_RW, T_RW, 5, rfl, sl_RW_shortenFrom⟩
theorem F_RW_158_4 : am_F "RetraceDesk$Rewriter" 158 4 6 := ⟨R_MA, T_MA, 10, "RetraceDesk$Mapping", rfl, by decide, tb_319, us_MA, Or.inl rfl⟩
theorem c_RW_161 : am_cV "RetraceDesk$Rewriter" 161 6 M_RW_offsetOfFit 3 := ⟨⟨tb_906, tb_24, tb_909, by decide, by decide, by decide +kernel⟩, tb_908, R_RW, T_RW, 5, rfl, sl_RW_offsetOfFit⟩
theorem c_RW_165 : am_cV "RetraceDesk$Rewriter" 165 6 M_RW_shortenAlone 1 := ⟨⟨tb_912, tb_24, tb_915, by decide, by decide, by decide +kernel⟩, tb_914, R_RW, T_RW, 5, rfl, sl_RW_shortenAlone⟩
theorem c_RW_168 : am_cV "RetraceDesk$Rewriter" 168 4 M_MA_shortClassOf 1 := ⟨⟨tb_920, tb_9, tb_923, by decide, by decide, by decide +kernel⟩, tb_921, R_MA, T_MA, 10, rfl, tb_922⟩
theorem F_RW_172_5 : am_F "RetraceDesk$Rewriter" 172 5 2 := ⟨R_ML, T_ML, 9, "RetraceDesk$MethodLine", rfl, by decide, tb_277, us_ML, Or.inl rfl⟩
theorem c_RW_175 : am_cV "RetraceDesk$Rewriter" 175 8 M_TX_addWord 1 := ⟨⟨tb_791, tb_2, tb_794, by decide, by decide, by decide +kernel⟩, tb_792, R_TX, T_TX, 3, rfl, tb_793⟩
theorem c_RW_179 : am_cV "RetraceDesk$Rewriter" 179 5 M_ML_hasRange 0 := ⟨⟨tb_910, tb_11, tb_559, by decide, by decide, by decide +kernel⟩, tb_557, R_ML, T_ML, 9, rfl, tb_558⟩
theorem F_RW_182_5 : am_F "RetraceDesk$Rewriter" 182 5 8 := ⟨R_ML, T_ML, 9, "RetraceDesk$MethodLine", rfl, by decide, tb_291, us_ML, Or.inl rfl⟩
theorem c_RW_185 : am_cV "RetraceDesk$Rewriter" 185 5 M_ML_isRealCall 2 := ⟨⟨tb_911, tb_11, tb_871, by decide, by decide, by decide +kernel⟩, tb_869, R_ML, T_ML, 9, rfl, tb_870⟩
theorem c_RW_189 : am_cV "RetraceDesk$Rewriter" 189 4 M_MA_groupWithoutRange 2 := ⟨⟨tb_916, tb_9, tb_919, by decide, by decide, by decide +kernel⟩, tb_917, R_MA, T_MA, 10, rfl, tb_918⟩
theorem c_RW_193 : am_cV "RetraceDesk$Rewriter" 193 6 M_RW_writeShort 3 := ⟨⟨tb_924, tb_24, tb_927, by decide, by decide, by decide +kernel⟩, tb_926, R_RW, T_RW, 5, rfl, sl_RW_writeShort⟩
theorem c_RW_198 : am_cV "RetraceDesk$Rewriter" 198 8 M_TX_addSlice 1 := ⟨⟨tb_798, tb_2, tb_801, by decide, by decide, by decide +kernel⟩, tb_799, R_TX, T_TX, 3, rfl, tb_800⟩
theorem F_RW_201_3 : am_F "RetraceDesk$Rewriter" 201 3 2 := ⟨R_HE, T_HE, 6, "RetraceDesk$Header", rfl, by decide, tb_107, us_HE, Or.inl rfl⟩
theorem F_RW_207_3 : am_F "RetraceDesk$Rewriter" 207 3 1 := ⟨R_HE, T_HE, 6, "RetraceDesk$Header", rfl, by decide, tb_105, us_HE, Or.inl rfl⟩
theorem c_RW_210 : am_cV "RetraceDesk$Rewriter" 210 8 M_TX_add 1 := ⟨⟨tb_808, tb_2, tb_387, by decide, by decide, by decide +kernel⟩, tb_385, R_TX, T_TX, 3, rfl, tb_386⟩
theorem F_RW_214_3 : am_F "RetraceDesk$Rewriter" 214 3 3 := ⟨R_HE, T_HE, 6, "RetraceDesk$Header", rfl, by decide, tb_109, us_HE, Or.inl rfl⟩
theorem c_RW_219 : am_cV "RetraceDesk$Rewriter" 219 8 M_TX_addNumber 1 := ⟨⟨tb_826, tb_2, tb_829, by decide, by decide, by decide +kernel⟩, tb_827, R_TX, T_TX, 3, rfl, tb_828⟩
theorem F_RW_224_2 : am_F "RetraceDesk$Rewriter" 224 2 2 := ⟨R_FR, T_FR, 5, "RetraceDesk$Frame", rfl, by decide, tb_144, us_FR, Or.inl rfl⟩
theorem F_RW_227_2 : am_F "RetraceDesk$Rewriter" 227 2 3 := ⟨R_FR, T_FR, 5, "RetraceDesk$Frame", rfl, by decide, tb_146, us_FR, Or.inl rfl⟩
theorem F_RW_232_6 : am_F "RetraceDesk$Rewriter" 232 6 3 := ⟨R_RW, T_RW, 5, "RetraceDesk$Rewriter", rfl, by decide, tb_767, us_RW, Or.inl rfl⟩
theorem P_RW_232_6 : am_P "RetraceDesk$Rewriter" 232 6 3 (.int) false := ⟨R_RW, T_RW, 5, "RetraceDesk$Rewriter", k_RW, rfl, by decide, tb_767, us_RW, Or.inl rfl, ky_RW, kn_RW, rfl, by decide +kernel, fun h => by cases h⟩
theorem O_SL_3 : Cond.methodLink "RetraceDesk$Slice" 3 objectInit ∈ am_tbl := tb_73
theorem P_SL_9_7 : am_P "RetraceDesk$Slice" 9 7 0 (.array .char) true := ⟨R_SL, T_SL, 3, "RetraceDesk$Slice", k_SL, rfl, by decide, tb_74, us_SL, Or.inl rfl, ky_SL, kn_SL, rfl, by decide +kernel, fun _ => rfl⟩
theorem P_SL_15_7 : am_P "RetraceDesk$Slice" 15 7 1 (.int) false := ⟨R_SL, T_SL, 3, "RetraceDesk$Slice", k_SL, rfl, by decide, tb_76, us_SL, Or.inl rfl, ky_SL, kn_SL, rfl, by decide +kernel, fun h => by cases h⟩
theorem P_SL_19_7 : am_P "RetraceDesk$Slice" 19 7 2 (.int) false := ⟨R_SL, T_SL, 3, "RetraceDesk$Slice", k_SL, rfl, by decide, tb_80, us_SL, Or.inl rfl, ky_SL, kn_SL, rfl, by decide +kernel, fun h => by cases h⟩
theorem F_SL_19_7 : am_F "RetraceDesk$Slice" 19 7 2 := ⟨R_SL, T_SL, 3, "RetraceDesk$Slice", rfl, by decide, tb_80, us_SL, Or.inl rfl⟩
theorem F_SL_15_7 : am_F "RetraceDesk$Slice" 15 7 1 := ⟨R_SL, T_SL, 3, "RetraceDesk$Slice", rfl, by decide, tb_76, us_SL, Or.inl rfl⟩
theorem F_SL_9_7 : am_F "RetraceDesk$Slice" 9 7 0 := ⟨R_SL, T_SL, 3, "RetraceDesk$Slice", rfl, by decide, tb_74, us_SL, Or.inl rfl⟩
theorem O_TX_3 : Cond.methodLink "RetraceDesk$Text" 3 objectInit ∈ am_tbl := tb_40
theorem P_TX_9_8 : am_P "RetraceDesk$Text" 9 8 0 (.array .char) true := ⟨R_TX, T_TX, 3, "RetraceDesk$Text", k_TX, rfl, by decide, tb_41, us_TX, Or.inl rfl, ky_TX, kn_TX, rfl, by decide +kernel, fun _ => rfl⟩
theorem P_TX_15_8 : am_P "RetraceDesk$Text" 15 8 1 (.int) false := ⟨R_TX, T_TX, 3, "RetraceDesk$Text", k_TX, rfl, by decide, tb_45, us_TX, Or.inl rfl, ky_TX, kn_TX, rfl, by decide +kernel, fun h => by cases h⟩
theorem P_TX_19_8 : am_P "RetraceDesk$Text" 19 8 2 (.boolean) false := ⟨R_TX, T_TX, 3, "RetraceDesk$Text", k_TX, rfl, by decide, tb_49, us_TX, Or.inl rfl, ky_TX, kn_TX, rfl, by decide +kernel, fun h => by cases h⟩
theorem F_TX_15_8 : am_F "RetraceDesk$Text" 15 8 1 := ⟨R_TX, T_TX, 3, "RetraceDesk$Text", rfl, by decide, tb_45, us_TX, Or.inl rfl⟩
theorem F_TX_9_8 : am_F "RetraceDesk$Text" 9 8 0 := ⟨R_TX, T_TX, 3, "RetraceDesk$Text", rfl, by decide, tb_41, us_TX, Or.inl rfl⟩
theorem c_TX_33 : am_cV "RetraceDesk$Text" 33 8 M_TX_add 1 := ⟨⟨tb_797, tb_2, tb_387, by decide, by decide, by decide +kernel⟩, tb_385, R_TX, T_TX, 3, rfl, tb_386⟩
theorem F_TX_37_7 : am_F "RetraceDesk$Text" 37 7 0 := ⟨R_SL, T_SL, 3, "RetraceDesk$Slice", rfl, by decide, tb_75, us_SL, Or.inl rfl⟩
theorem F_TX_40_7 : am_F "RetraceDesk$Text" 40 7 1 := ⟨R_SL, T_SL, 3, "RetraceDesk$Slice", rfl, by decide, tb_77, us_SL, Or.inl rfl⟩
theorem F_TX_43_7 : am_F "RetraceDesk$Text" 43 7 2 := ⟨R_SL, T_SL, 3, "RetraceDesk$Slice", rfl, by decide, tb_81, us_SL, Or.inl rfl⟩
theorem c_TX_46 : am_cV "RetraceDesk$Text" 46 8 M_TX_addSpan 3 := ⟨⟨tb_802, tb_2, tb_805, by decide, by decide, by decide +kernel⟩, tb_803, R_TX, T_TX, 3, rfl, tb_804⟩
theorem S_TX_50 : Cond.methodLink "RetraceDesk$Text" 50 arraycopyName ∈ am_tbl := tb_806
theorem c_TX_56 : am_cV "RetraceDesk$Text" 56 7 M_SL_lastPoint 0 := ⟨⟨tb_848, tb_5, tb_550, by decide, by decide, by decide +kernel⟩, tb_548, R_SL, T_SL, 3, rfl, tb_549⟩
theorem c_TX_61 : am_cV "RetraceDesk$Text" 61 8 M_TX_addWord 1 := ⟨⟨tb_850, tb_2, tb_794, by decide, by decide, by decide +kernel⟩, tb_792, R_TX, T_TX, 3, rfl, tb_793⟩
theorem c_TR_3 : am_cI "RetraceDesk$Trace" 3 M_FO_init 1 ∧ M_FO_init.2.2.2.1 = none := ⟨⟨⟨tb_64, tb_3, tb_66, by decide, by decide, by decide +kernel⟩, rfl, tb_65⟩, rfl⟩
theorem N_TR_9 : am_N "RetraceDesk$Trace" 9 7 3 [.null, .int 0, .int 0] := ⟨R_SL, T_SL, k_SL, rfl, tb_68, tb_69, tb_5, us_SL, ky_SL, by decide +kernel, by decide +kernel⟩
theorem c_TR_11 : am_cI "RetraceDesk$Trace" 11 M_SL_init 1 ∧ M_SL_init.2.2.2.1 = none := ⟨⟨⟨tb_70, tb_5, tb_72, by decide, by decide, by decide +kernel⟩, rfl, tb_71⟩, rfl⟩
theorem P_TR_12_9 : am_P "RetraceDesk$Trace" 12 9 7 (.object "RetraceDesk$Slice") true := ⟨R_TR, T_TR, 8, "RetraceDesk$Trace", k_TR, rfl, by decide, tb_167, us_TR, Or.inl rfl, ky_TR, kn_TR, rfl, by decide +kernel, fun _ => rfl⟩
theorem A_TR_18 : Cond.classLink "RetraceDesk$Trace" 18 "RetraceDesk$Header" ∈ am_tbl := tb_91
theorem P_TR_20_9 : am_P "RetraceDesk$Trace" 20 9 3 (.array (.object "RetraceDesk$Header")) true := ⟨R_TR, T_TR, 8, "RetraceDesk$Trace", k_TR, rfl, by decide, tb_160, us_TR, Or.inl rfl, ky_TR, kn_TR, rfl, by decide +kernel, fun _ => rfl⟩
theorem F_TR_20_9 : am_F "RetraceDesk$Trace" 20 9 3 := ⟨R_TR, T_TR, 8, "RetraceDesk$Trace", rfl, by decide, tb_160, us_TR, Or.inl rfl⟩
theorem N_TR_18 : am_N "RetraceDesk$Trace" 18 3 6 [.null, .null, .int 0, .int 0, .int 0, .int 0] := ⟨R_HE, T_HE, k_HE, rfl, tb_91, tb_93, tb_6, us_HE, ky_HE, by decide +kernel, by decide +kernel⟩
theorem c_TR_24 : am_cI "RetraceDesk$Trace" 24 M_HE_init 1 ∧ M_HE_init.2.2.2.1 = none := ⟨⟨⟨tb_94, tb_6, tb_96, by decide, by decide, by decide +kernel⟩, rfl, tb_95⟩, rfl⟩
theorem A_TR_25 : Cond.classLink "RetraceDesk$Trace" 25 "RetraceDesk$Frame" ∈ am_tbl := tb_127
theorem P_TR_27_9 : am_P "RetraceDesk$Trace" 27 9 4 (.array (.object "RetraceDesk$Frame")) true := ⟨R_TR, T_TR, 8, "RetraceDesk$Trace", k_TR, rfl, by decide, tb_162, us_TR, Or.inl rfl, ky_TR, kn_TR, rfl, by decide +kernel, fun _ => rfl⟩
theorem F_TR_27_9 : am_F "RetraceDesk$Trace" 27 9 4 := ⟨R_TR, T_TR, 8, "RetraceDesk$Trace", rfl, by decide, tb_162, us_TR, Or.inl rfl⟩
theorem N_TR_25 : am_N "RetraceDesk$Trace" 25 2 5 [.null, .null, .null, .int 0, .int 0] := ⟨R_FR, T_FR, k_FR, rfl, tb_127, tb_129, tb_7, us_FR, ky_FR, by decide +kernel, by decide +kernel⟩
theorem c_TR_31 : am_cI "RetraceDesk$Trace" 31 M_FR_init 1 ∧ M_FR_init.2.2.2.1 = none := ⟨⟨⟨tb_130, tb_7, tb_132, by decide, by decide, by decide +kernel⟩, rfl, tb_131⟩, rfl⟩
theorem P_TR_32_9 : am_P "RetraceDesk$Trace" 32 9 5 (.int) false := ⟨R_TR, T_TR, 8, "RetraceDesk$Trace", k_TR, rfl, by decide, tb_164, us_TR, Or.inl rfl, ky_TR, kn_TR, rfl, by decide +kernel, fun h => by cases h⟩
theorem P_TR_36_9 : am_P "RetraceDesk$Trace" 36 9 6 (.int) false := ⟨R_TR, T_TR, 8, "RetraceDesk$Trace", k_TR, rfl, by decide, tb_166, us_TR, Or.inl rfl, ky_TR, kn_TR, rfl, by decide +kernel, fun h => by cases h⟩
theorem F_TR_32_9 : am_F "RetraceDesk$Trace" 32 9 5 := ⟨R_TR, T_TR, 8, "RetraceDesk$Trace", rfl, by decide, tb_164, us_TR, Or.inl rfl⟩
theorem c_TR_41_9 : am_cU "RetraceDesk$Trace" 41 9 ({ cls := "RetraceDesk$Trace", name := "takeWord", desc := "(Ljava/lang/String;)Z" } : Jvm.MethodName) "RetraceDesk$Form" M_FO_takeWord 1 := ⟨tb_595, tb_3, tb_457, tb_596, tb_456, ⟨by decide, by decide⟩, by decide +kernel, ⟨R_TR, T_TR, 8, rfl, tb_597⟩, fun _ _ _ _ hts => va_Decl.of (hts _ tb_456) (hts _ tb_457)⟩
theorem c_TR_45 : am_cV "RetraceDesk$Trace" 45 9 M_TR_takesHeader 0 := ⟨⟨tb_598, tb_4, tb_601, by decide, by decide, by decide +kernel⟩, tb_600, R_TR, T_TR, 8, rfl, sl_TR_takesHeader⟩
theorem F_TR_49_3 : am_F "RetraceDesk$Trace" 49 3 3 := ⟨R_HE, T_HE, 6, "RetraceDesk$Header", rfl, by decide, tb_108, us_HE, Or.inl rfl⟩
theorem c_TR_54 : am_cV "RetraceDesk$Trace" 54 9 M_TR_takesMore 1 := ⟨⟨tb_616, tb_4, tb_619, by decide, by decide, by decide +kernel⟩, tb_618, R_TR, T_TR, 8, rfl, sl_TR_takesMore⟩
theorem F_TR_36_9 : am_F "RetraceDesk$Trace" 36 9 6 := ⟨R_TR, T_TR, 8, "RetraceDesk$Trace", rfl, by decide, tb_166, us_TR, Or.inl rfl⟩
theorem c_TR_58 : am_cV "RetraceDesk$Trace" 58 9 M_TR_takesCall 1 := ⟨⟨tb_625, tb_4, tb_628, by decide, by decide, by decide +kernel⟩, tb_627, R_TR, T_TR, 8, rfl, sl_TR_takesCall⟩
theorem c_TR_62 : am_cV "RetraceDesk$Trace" 62 9 M_TR_takesPlace 1 := ⟨⟨tb_631, tb_4, tb_634, by decide, by decide, by decide +kernel⟩, tb_633, R_TR, T_TR, 8, rfl, sl_TR_takesPlace⟩
theorem c_TR_65_9 : am_cU "RetraceDesk$Trace" 65 9 ({ cls := "RetraceDesk$Trace", name := "isDone", desc := "()Z" } : Jvm.MethodName) "RetraceDesk$Form" M_FO_isDone 0 := ⟨tb_606, tb_3, tb_444, tb_607, tb_443, ⟨by decide, by decide⟩, by decide +kernel, ⟨R_TR, T_TR, 8, rfl, tb_608⟩, fun _ _ _ _ hts => va_Decl.of (hts _ tb_443) (hts _ tb_444)⟩
theorem P_TR_68_3 : am_P "RetraceDesk$Trace" 68 3 5 (.int) false := ⟨R_HE, T_HE, 6, "RetraceDesk$Header", k_HE, rfl, by decide, tb_113, us_HE, Or.inl rfl, ky_HE, kn_HE, rfl, by decide +kernel, fun h => by cases h⟩
theorem F_TR_71_3 : am_F "RetraceDesk$Trace" 71 3 0 := ⟨R_HE, T_HE, 6, "RetraceDesk$Header", rfl, by decide, tb_102, us_HE, Or.inl rfl⟩
theorem c_TR_74_9 : am_cU "RetraceDesk$Trace" 74 9 ({ cls := "RetraceDesk$Trace", name := "takeParts", desc := "(LRetraceDesk$Slice;II)Z" } : Jvm.MethodName) "RetraceDesk$Form" M_FO_takeParts 3 := ⟨tb_602, tb_3, tb_539, tb_603, tb_538, ⟨by decide, by decide⟩, by decide +kernel, ⟨R_TR, T_TR, 8, rfl, tb_604⟩, fun _ _ _ _ hts => va_Decl.of (hts _ tb_538) (hts _ tb_539)⟩
theorem P_TR_80_3 : am_P "RetraceDesk$Trace" 80 3 2 (.boolean) false := ⟨R_HE, T_HE, 6, "RetraceDesk$Header", k_HE, rfl, by decide, tb_106, us_HE, Or.inl rfl, ky_HE, kn_HE, rfl, by decide +kernel, fun h => by cases h⟩
theorem F_TR_80_3 : am_F "RetraceDesk$Trace" 80 3 2 := ⟨R_HE, T_HE, 6, "RetraceDesk$Header", rfl, by decide, tb_106, us_HE, Or.inl rfl⟩
theorem F_TR_84_3 : am_F "RetraceDesk$Trace" 84 3 1 := ⟨R_HE, T_HE, 6, "RetraceDesk$Header", rfl, by decide, tb_104, us_HE, Or.inl rfl⟩
theorem c_TR_87_9 : am_cU "RetraceDesk$Trace" 87 9 ({ cls := "RetraceDesk$Trace", name := "takeRest", desc := "(LRetraceDesk$Slice;)V" } : Jvm.MethodName) "RetraceDesk$Form" M_FO_takeRest 1 := ⟨tb_609, tb_3, tb_614, tb_610, tb_613, ⟨by decide, by decide⟩, by decide +kernel, ⟨R_TR, T_TR, 8, rfl, tb_612⟩, fun _ _ _ _ hts => va_Decl.of (hts _ tb_613) (hts _ tb_614)⟩
theorem P_TR_49_3 : am_P "RetraceDesk$Trace" 49 3 3 (.int) false := ⟨R_HE, T_HE, 6, "RetraceDesk$Header", k_HE, rfl, by decide, tb_108, us_HE, Or.inl rfl, ky_HE, kn_HE, rfl, by decide +kernel, fun h => by cases h⟩
theorem P_TR_91_3 : am_P "RetraceDesk$Trace" 91 3 4 (.int) false := ⟨R_HE, T_HE, 6, "RetraceDesk$Header", k_HE, rfl, by decide, tb_111, us_HE, Or.inl rfl, ky_HE, kn_HE, rfl, by decide +kernel, fun h => by cases h⟩
theorem F_TR_12_9 : am_F "RetraceDesk$Trace" 12 9 7 := ⟨R_TR, T_TR, 8, "RetraceDesk$Trace", rfl, by decide, tb_167, us_TR, Or.inl rfl⟩
theorem c_TR_94 : am_cV "RetraceDesk$Trace" 94 7 M_SL_lastPoint 0 := ⟨⟨tb_629, tb_5, tb_550, by decide, by decide, by decide +kernel⟩, tb_548, R_SL, T_SL, 3, rfl, tb_549⟩
theorem F_TR_98_2 : am_F "RetraceDesk$Trace" 98 2 0 := ⟨R_FR, T_FR, 5, "RetraceDesk$Frame", rfl, by decide, tb_138, us_FR, Or.inl rfl⟩
theorem F_TR_101_7 : am_F "RetraceDesk$Trace" 101 7 1 := ⟨R_SL, T_SL, 3, "RetraceDesk$Slice", rfl, by decide, tb_78, us_SL, Or.inl rfl⟩
theorem c_TR_104 : am_cV "RetraceDesk$Trace" 104 7 M_SL_set 2 := ⟨⟨tb_630, tb_5, tb_546, by decide, by decide, by decide +kernel⟩, tb_544, R_SL, T_SL, 3, rfl, tb_545⟩
theorem F_TR_108_2 : am_F "RetraceDesk$Trace" 108 2 1 := ⟨R_FR, T_FR, 5, "RetraceDesk$Frame", rfl, by decide, tb_141, us_FR, Or.inl rfl⟩
theorem F_TR_111_7 : am_F "RetraceDesk$Trace" 111 7 2 := ⟨R_SL, T_SL, 3, "RetraceDesk$Slice", rfl, by decide, tb_82, us_SL, Or.inl rfl⟩
theorem P_TR_114_2 : am_P "RetraceDesk$Trace" 114 2 4 (.int) false := ⟨R_FR, T_FR, 5, "RetraceDesk$Frame", k_FR, rfl, by decide, tb_148, us_FR, Or.inl rfl, ky_FR, kn_FR, rfl, by decide +kernel, fun h => by cases h⟩
theorem P_TR_117_2 : am_P "RetraceDesk$Trace" 117 2 3 (.boolean) false := ⟨R_FR, T_FR, 5, "RetraceDesk$Frame", k_FR, rfl, by decide, tb_145, us_FR, Or.inl rfl, ky_FR, kn_FR, rfl, by decide +kernel, fun h => by cases h⟩
theorem F_TR_124_2 : am_F "RetraceDesk$Trace" 124 2 2 := ⟨R_FR, T_FR, 5, "RetraceDesk$Frame", rfl, by decide, tb_143, us_FR, Or.inl rfl⟩
theorem c_TR_127_9 : am_cU "RetraceDesk$Trace" 127 9 ({ cls := "RetraceDesk$Trace", name := "takeWordInto", desc := "(Ljava/lang/String;LRetraceDesk$Slice;)Z" } : Jvm.MethodName) "RetraceDesk$Form" M_FO_takeWordInto 2 := ⟨tb_637, tb_3, tb_642, tb_638, tb_641, ⟨by decide, by decide⟩, by decide +kernel, ⟨R_TR, T_TR, 8, rfl, tb_640⟩, fun _ _ _ _ hts => va_Decl.of (hts _ tb_641) (hts _ tb_642)⟩
theorem c_TR_137_9 : am_cU "RetraceDesk$Trace" 137 9 ({ cls := "RetraceDesk$Trace", name := "takeNumber", desc := "()I" } : Jvm.MethodName) "RetraceDesk$Form" M_FO_takeNumber 0 := ⟨tb_621, tb_3, tb_528, tb_622, tb_527, ⟨by decide, by decide⟩, by decide +kernel, ⟨R_TR, T_TR, 8, rfl, tb_623⟩, fun _ _ _ _ hts => va_Decl.of (hts _ tb_527) (hts _ tb_528)⟩
theorem F_TR_114_2 : am_F "RetraceDesk$Trace" 114 2 4 := ⟨R_FR, T_FR, 5, "RetraceDesk$Frame", rfl, by decide, tb_148, us_FR, Or.inl rfl⟩
theorem c_LW_7 : am_cV "RetraceDeskLaw" 7 10 M_RD_load 0 := ⟨⟨tb_416, tb_1, tb_419, by decide, by decide, by decide +kernel⟩, tb_417, R_RD, T_RD, 10, rfl, tb_418⟩
theorem c_LW_15 : am_cV "RetraceDeskLaw" 15 10 M_RD_retrace 0 := ⟨⟨tb_719, tb_1, tb_722, by decide, by decide, by decide +kernel⟩, tb_720, R_RD, T_RD, 10, rfl, tb_721⟩
theorem c_LW_20 : am_cV "RetraceDeskLaw" 20 10 M_RD_shorten 0 := ⟨⟨tb_893, tb_1, tb_896, by decide, by decide, by decide +kernel⟩, tb_894, R_RD, T_RD, 10, rfl, tb_895⟩
theorem c_LW_23 : am_cV "RetraceDeskLaw" 23 10 M_RD_report 0 := ⟨⟨tb_932, tb_1, tb_935, by decide, by decide, by decide +kernel⟩, tb_933, R_RD, T_RD, 10, rfl, tb_934⟩
theorem c_LW_26 : am_cV "RetraceDeskLaw" 26 10 M_RD_at 1 := ⟨⟨tb_984, tb_1, tb_987, by decide, by decide, by decide +kernel⟩, tb_985, R_RD, T_RD, 10, rfl, tb_986⟩
theorem c_LW_32 : am_cV "RetraceDeskLaw" 32 10 M_RD_groups 1 := ⟨⟨tb_1007, tb_1, tb_1010, by decide, by decide, by decide +kernel⟩, tb_1008, R_RD, T_RD, 10, rfl, tb_1009⟩
theorem c_LW_37 : am_cV "RetraceDeskLaw" 37 10 M_RD_key 1 := ⟨⟨tb_1029, tb_1, tb_1032, by decide, by decide, by decide +kernel⟩, tb_1030, R_RD, T_RD, 10, rfl, tb_1031⟩
theorem c_LW_41 : am_cV "RetraceDeskLaw" 41 10 M_RD_reports 2 := ⟨⟨tb_1040, tb_1, tb_1043, by decide, by decide, by decide +kernel⟩, tb_1041, R_RD, T_RD, 10, rfl, tb_1042⟩
theorem N_LW_8 : am_N "RetraceDeskLaw" 8 10 10 [.null, .null, .null, .null, .null, .null, .null, .int 0, .int 0, .int 0] := ⟨R_RD, T_RD, k_RD, rfl, tb_27, tb_28, tb_1, us_RD, ky_RD, by decide +kernel, by decide +kernel⟩
theorem c_LW_45 : am_cI "RetraceDeskLaw" 45 M_RD_init 0 ∧ M_RD_init.2.2.2.1 = none := ⟨⟨⟨tb_29, tb_1, tb_31, by decide, by decide, by decide +kernel⟩, rfl, tb_30⟩, rfl⟩
theorem N_LW_46 : am_N "RetraceDeskLaw" 46 11 54 [.null, .int 0, .null, .null, .int 0, .int 0, .int 0, .null, .null, .null, .null, .int 0, .null, .null, .null, .null, .null, .null, .null, .null, .null, .null, .null, .null, .int 0, .int 0, .int 0, .int 0, .int 0, .null, .null, .null, .null, .null, .null, .null, .null, .null, .null, .int 0, .int 0, .int 0, .null, .int 0, .int 0, .int 0, .long 0, .int 0, .int 0, .null, .null, .null, .null, .int 0] := ⟨R_MO, T_MO, k_MO, rfl, tb_1044, tb_1045, tb_12, us_MO, ky_MO, by decide +kernel, by decide +kernel⟩
theorem c_LW_48 : am_cI "RetraceDeskLaw" 48 M_MO_init 0 ∧ M_MO_init.2.2.2.1 = none := ⟨⟨⟨tb_1046, tb_12, tb_1048, by decide, by decide, by decide +kernel⟩, rfl, tb_1047⟩, rfl⟩
theorem J_LW_49 : Cond.constantLong "RetraceDeskLaw" 49 (4294967295) ∈ am_tbl := tb_1506
theorem c_LW_51 : am_cV "RetraceDeskLaw" 51 10 M_RD_put 2 := ⟨⟨tb_373, tb_1, tb_376, by decide, by decide, by decide +kernel⟩, tb_374, R_RD, T_RD, 10, rfl, tb_375⟩
theorem c_LW_55 : am_cV "RetraceDeskLaw" 55 11 M_MO_put 2 := ⟨⟨tb_1217, tb_12, tb_1220, by decide, by decide, by decide +kernel⟩, tb_1218, R_MO, T_MO, 54, rfl, tb_1219⟩
theorem c_LW_56 : am_cV "RetraceDeskLaw" 56 10 M_RD_scrap 0 := ⟨⟨tb_388, tb_1, tb_391, by decide, by decide, by decide +kernel⟩, tb_389, R_RD, T_RD, 10, rfl, tb_390⟩
theorem c_LW_59 : am_cV "RetraceDeskLaw" 59 11 M_MO_scrap 0 := ⟨⟨tb_1222, tb_12, tb_1225, by decide, by decide, by decide +kernel⟩, tb_1223, R_MO, T_MO, 54, rfl, tb_1224⟩
theorem c_LW_65 : am_cV "RetraceDeskLaw" 65 11 M_MO_load 0 := ⟨⟨tb_1226, tb_12, tb_1229, by decide, by decide, by decide +kernel⟩, tb_1227, R_MO, T_MO, 54, rfl, tb_1228⟩
theorem c_LW_66 : am_cV "RetraceDeskLaw" 66 11 M_MO_thrown 0 := ⟨⟨tb_1213, tb_12, tb_1216, by decide, by decide, by decide +kernel⟩, tb_1214, R_MO, T_MO, 54, rfl, tb_1215⟩
theorem c_LW_71 : am_cV "RetraceDeskLaw" 71 11 M_MO_retrace 0 := ⟨⟨tb_1283, tb_12, tb_1286, by decide, by decide, by decide +kernel⟩, tb_1284, R_MO, T_MO, 54, rfl, tb_1285⟩
theorem c_LW_74 : am_cV "RetraceDeskLaw" 74 11 M_MO_shorten 0 := ⟨⟨tb_1436, tb_12, tb_1439, by decide, by decide, by decide +kernel⟩, tb_1437, R_MO, T_MO, 54, rfl, tb_1438⟩
theorem c_LW_77 : am_cV "RetraceDeskLaw" 77 11 M_MO_report 0 := ⟨⟨tb_1440, tb_12, tb_1443, by decide, by decide, by decide +kernel⟩, tb_1441, R_MO, T_MO, 54, rfl, tb_1442⟩
theorem c_LW_78 : am_cV "RetraceDeskLaw" 78 10 M_RD_wrong 0 := ⟨⟨tb_396, tb_1, tb_399, by decide, by decide, by decide +kernel⟩, tb_397, R_RD, T_RD, 10, rfl, tb_398⟩
theorem c_LW_81 : am_cV "RetraceDeskLaw" 81 11 M_MO_wrong 0 := ⟨⟨tb_1474, tb_12, tb_1477, by decide, by decide, by decide +kernel⟩, tb_1475, R_MO, T_MO, 54, rfl, tb_1476⟩
theorem c_LW_82 : am_cV "RetraceDeskLaw" 82 10 M_RD_length 0 := ⟨⟨tb_400, tb_1, tb_403, by decide, by decide, by decide +kernel⟩, tb_401, R_RD, T_RD, 10, rfl, tb_402⟩
theorem c_LW_85 : am_cV "RetraceDeskLaw" 85 11 M_MO_length 0 := ⟨⟨tb_1478, tb_12, tb_1481, by decide, by decide, by decide +kernel⟩, tb_1479, R_MO, T_MO, 54, rfl, tb_1480⟩
theorem c_LW_89 : am_cV "RetraceDeskLaw" 89 11 M_MO_at 1 := ⟨⟨tb_1482, tb_12, tb_1485, by decide, by decide, by decide +kernel⟩, tb_1483, R_MO, T_MO, 54, rfl, tb_1484⟩
theorem c_LW_90 : am_cV "RetraceDeskLaw" 90 10 M_RD_doubtful 0 := ⟨⟨tb_404, tb_1, tb_407, by decide, by decide, by decide +kernel⟩, tb_405, R_RD, T_RD, 10, rfl, tb_406⟩
theorem c_LW_93 : am_cV "RetraceDeskLaw" 93 11 M_MO_doubtful 0 := ⟨⟨tb_1486, tb_12, tb_1489, by decide, by decide, by decide +kernel⟩, tb_1487, R_MO, T_MO, 54, rfl, tb_1488⟩
theorem c_LW_96 : am_cV "RetraceDeskLaw" 96 11 M_MO_groups 1 := ⟨⟨tb_1490, tb_12, tb_1493, by decide, by decide, by decide +kernel⟩, tb_1491, R_MO, T_MO, 54, rfl, tb_1492⟩
theorem c_LW_97 : am_cV "RetraceDeskLaw" 97 10 M_RD_crashes 0 := ⟨⟨tb_408, tb_1, tb_411, by decide, by decide, by decide +kernel⟩, tb_409, R_RD, T_RD, 10, rfl, tb_410⟩
theorem c_LW_100 : am_cV "RetraceDeskLaw" 100 11 M_MO_crashes 0 := ⟨⟨tb_1494, tb_12, tb_1497, by decide, by decide, by decide +kernel⟩, tb_1495, R_MO, T_MO, 54, rfl, tb_1496⟩
theorem c_LW_103 : am_cV "RetraceDeskLaw" 103 11 M_MO_key 1 := ⟨⟨tb_1498, tb_12, tb_1501, by decide, by decide, by decide +kernel⟩, tb_1499, R_MO, T_MO, 54, rfl, tb_1500⟩
theorem c_LW_107 : am_cV "RetraceDeskLaw" 107 11 M_MO_reports 2 := ⟨⟨tb_1502, tb_12, tb_1505, by decide, by decide, by decide +kernel⟩, tb_1503, R_MO, T_MO, 54, rfl, tb_1504⟩
