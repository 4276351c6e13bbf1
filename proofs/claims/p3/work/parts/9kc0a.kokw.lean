/-! The words of the class's tables. -/
section KOKW
def kYL : List (MethodName × ByteArray) := [
(⟨"", "", ""⟩, ⟨#[]⟩),
(⟨"KeySteward", "feed", "(IIIII)Z"⟩, prog_1_method_2_code),
(⟨"KeySteward", "end", "(I)Z"⟩, prog_1_method_3_code),
(⟨"KeySteward", "send", "(I)I"⟩, prog_1_method_4_code),
(⟨"KeySteward", "open", "(I)Z"⟩, prog_1_method_5_code),
(⟨"KeySteward", "isOpen", "(I)Z"⟩, prog_1_method_6_code),
(⟨"KeySteward", "out", "(I)I"⟩, prog_1_method_7_code),
(⟨"KeySteward", "outAt", "(II)I"⟩, prog_1_method_8_code),
(⟨"KeySteward", "take", "(II)Z"⟩, prog_1_method_9_code),
(⟨"KeySteward", "pass", "(J)I"⟩, prog_1_method_10_code),
(⟨"KeySteward", "now", "()J"⟩, prog_1_method_11_code),
(⟨"KeySteward", "fuse", "(I)V"⟩, prog_1_method_12_code),
(⟨"KeySteward", "crash", "()Z"⟩, prog_1_method_13_code),
(⟨"KeySteward", "restart", "()I"⟩, prog_1_method_14_code),
(⟨"KeySteward", "rewrite", "()I"⟩, prog_1_method_15_code),
(⟨"KeySteward", "log", "()I"⟩, prog_1_method_16_code),
(⟨"KeySteward", "logAt", "(I)I"⟩, prog_1_method_17_code),
(⟨"KeySteward", "tear", "(I)Z"⟩, prog_1_method_18_code),
(⟨"KeySteward", "isUp", "()Z"⟩, prog_1_method_19_code),
(⟨"KeySteward", "total", "(I)I"⟩, prog_1_method_20_code),
(⟨"KeySteward", "connectionOf", "(I)LKeySteward$Connection;"⟩, prog_1_method_21_code),
(⟨"KeySteward", "keepRest", "(LKeySteward$Connection;I)V"⟩, prog_1_method_22_code),
(⟨"KeySteward", "halt", "()V"⟩, prog_1_method_23_code),
(⟨"KeySteward", "burn", "(I)V"⟩, prog_1_method_24_code),
(⟨"KeySteward", "ad" ++ "mit", "(LKeySteward$Connection;)I"⟩, prog_1_method_25_code),
(⟨"KeySteward", "beginBlock", "(LKeySteward$Connection;)I"⟩, prog_1_method_26_code),
(⟨"KeySteward", "nextOfBlock", "()V"⟩, prog_1_method_27_code),
(⟨"KeySteward", "perform", "(LKeySteward$Connection;)V"⟩, prog_1_method_28_code),
(⟨"KeySteward", "finish", "(LKeySteward$Connection;I)V"⟩, prog_1_method_29_code),
(⟨"KeySteward", "note", "()V"⟩, prog_1_method_30_code),
(⟨"KeySteward", "noteSet", "()V"⟩, prog_1_method_31_code),
(⟨"KeySteward", "expire", "()I"⟩, prog_1_method_32_code),
(⟨"KeySteward", "recordEnd", "(I)I"⟩, prog_1_method_33_code),
(⟨"KeySteward", "logged", "(I)LKeySteward$Command;"⟩, prog_1_method_34_code),
(⟨"KeySteward", "tellKey", "(ILKeySteward$Value;)V"⟩, prog_1_method_35_code),
(⟨"KeySteward", "tellPart", "(ILKeySteward$Value;II)V"⟩, prog_1_method_36_code),
(⟨"KeySteward", "runOther", "(LKeySteward$Command;LKeySteward$Connection;)V"⟩, prog_1_method_37_code),
(⟨"KeySteward", "runBlockWord", "(LKeySteward$Command;LKeySteward$Connection;)V"⟩, prog_1_method_38_code),
(⟨"KeySteward", "publish", "()V"⟩, prog_1_method_39_code),
(⟨"", "", ""⟩, ⟨#[]⟩),
(⟨"KeySteward$Bytes", "empty", "()V"⟩, prog_3_method_2_code),
(⟨"KeySteward$Bytes", "room", "(I)Z"⟩, prog_3_method_3_code),
(⟨"KeySteward$Bytes", "at", "(I)I"⟩, prog_3_method_4_code),
(⟨"KeySteward$Bytes", "four", "(I)V"⟩, prog_3_method_5_code),
(⟨"KeySteward$Bytes", "append", "([BII)V"⟩, prog_3_method_6_code),
(⟨"KeySteward$Bytes", "drop", "(I)V"⟩, prog_3_method_7_code),
(⟨"KeySteward$Bytes", "cut", "(I)V"⟩, prog_3_method_8_code),
(⟨"KeySteward$Bytes", "head", "(IJ)V"⟩, prog_3_method_9_code),
(⟨"KeySteward$Bytes", "digits", "(J)V"⟩, prog_3_method_10_code),
(⟨"KeySteward$Bytes", "line", "(ILjava/lang/String;)V"⟩, prog_3_method_11_code),
(⟨"KeySteward$Bytes", "word", "([BII)V"⟩, prog_3_method_12_code),
(⟨"KeySteward$Bytes", "text", "(Ljava/lang/String;)V"⟩, prog_3_method_13_code),
(⟨"KeySteward$Bytes", "numberWord", "(J)V"⟩, prog_3_method_14_code),
(⟨"KeySteward$Bytes", "spellMark", "(I)V"⟩, prog_3_method_15_code),
(⟨"KeySteward$Bytes", "spellEnd", "()V"⟩, prog_3_method_16_code),
(⟨"KeySteward$Bytes", "spellText", "(Ljava/lang/String;)V"⟩, prog_3_method_17_code),
(⟨"KeySteward$Bytes", "spell", "(JI)V"⟩, prog_3_method_18_code),
(⟨"KeySteward$Bytes", "width", "(J)I"⟩, prog_3_method_19_code),
(⟨"KeySteward$Bytes", "number", "(J)V"⟩, prog_3_method_20_code),
(⟨"KeySteward$Bytes", "nil", "()V"⟩, prog_3_method_21_code),
(⟨"KeySteward$Bytes", "rowHead", "(I)V"⟩, prog_3_method_22_code),
(⟨"KeySteward$Bytes", "nilRow", "()V"⟩, prog_3_method_23_code),
(⟨"", "", ""⟩, ⟨#[]⟩),
(⟨"KeySteward$Connection", "close", "()V"⟩, prog_5_method_2_code),
(⟨"KeySteward$Connection", "endBlock", "()V"⟩, prog_5_method_3_code),
(⟨"KeySteward$Connection", "unwatch", "()V"⟩, prog_5_method_4_code),
(⟨"KeySteward$Connection", "fail", "(I)V"⟩, prog_5_method_5_code),
(⟨"KeySteward$Connection", "queue", "(LKeySteward$Request;)V"⟩, prog_5_method_6_code),
(⟨"KeySteward$Connection", "watches", "(I)Z"⟩, prog_5_method_7_code),
(⟨"KeySteward$Connection", "touched", "(I)V"⟩, prog_5_method_8_code),
(⟨"KeySteward$Connection", "watch", "(LKeySteward$Request;)V"⟩, prog_5_method_9_code),
(⟨"KeySteward$Connection", "subscribe", "(LKeySteward$Request;LKeySteward$Words;)V"⟩, prog_5_method_10_code),
(⟨"KeySteward$Connection", "unsubscribe", "(LKeySteward$Request;LKeySteward$Words;)V"⟩, prog_5_method_11_code),
(⟨"KeySteward$Connection", "leave", "(I)V"⟩, prog_5_method_12_code),
(⟨"", "", ""⟩, ⟨#[]⟩),
(⟨"KeySteward$Words", "forget", "()V"⟩, prog_13_method_2_code),
(⟨"KeySteward$Words", "idOf", "([BII)I"⟩, prog_13_method_3_code),
(⟨"KeySteward$Words", "same", "(I[BII)Z"⟩, prog_13_method_4_code),
(⟨"KeySteward$Words", "add", "(I[BII)I"⟩, prog_13_method_5_code),
(⟨"KeySteward$Words", "length", "(I)I"⟩, prog_13_method_6_code),
(⟨"KeySteward$Words", "copyWord", "(ILKeySteward$Bytes;)V"⟩, prog_13_method_7_code),
(⟨"KeySteward$Words", "compare", "(II)I"⟩, prog_13_method_8_code),
(⟨"KeySteward$Words", "find", "([III)I"⟩, prog_13_method_9_code),
(⟨"KeySteward$Words", "isInteger", "(ILKeySteward$Request;)Z"⟩, prog_13_method_10_code),
(⟨"KeySteward$Words", "fits", "([BIII)Z"⟩, prog_13_method_11_code),
(⟨"KeySteward$Words", "fitsOne", "([BIII)I"⟩, prog_13_method_12_code),
(⟨"KeySteward$Words", "fitsClass", "([BIII)I"⟩, prog_13_method_13_code),
(⟨"KeySteward$Words", "plainAt", "([BII)I"⟩, prog_13_method_14_code),
(⟨"KeySteward$Command", "has", "(I)Z"⟩, prog_4_method_4_code),
(⟨"KeySteward$Command", "takes", "(I)Z"⟩, prog_4_method_5_code),
(⟨"KeySteward$Command", "named", "([BII)LKeySteward$Command;"⟩, prog_4_method_6_code),
(⟨"KeySteward$Command", "compare", "(Ljava/lang/String;[BII)I"⟩, prog_4_method_7_code),
(⟨"", "", ""⟩, ⟨#[]⟩),
(⟨"KeySteward$Request", "read", "([BII)I"⟩, prog_10_method_2_code),
(⟨"KeySteward$Request", "readWords", "(II)I"⟩, prog_10_method_3_code),
(⟨"KeySteward$Request", "readHead", "(II)I"⟩, prog_10_method_4_code),
(⟨"KeySteward$Request", "readLine", "(II)I"⟩, prog_10_method_5_code),
(⟨"KeySteward$Request", "begin", "(LKeySteward$Bytes;)V"⟩, prog_10_method_6_code),
(⟨"KeySteward$Request", "refuse", "(Ljava/lang/String;)V"⟩, prog_10_method_7_code),
(⟨"KeySteward$Request", "tellRefusal", "()V"⟩, prog_10_method_8_code),
(⟨"KeySteward$Request", "accept", "()V"⟩, prog_10_method_9_code),
(⟨"KeySteward$Request", "startOf", "(I)I"⟩, prog_10_method_10_code),
(⟨"KeySteward$Request", "lengthOf", "(I)I"⟩, prog_10_method_11_code),
(⟨"KeySteward$Request", "id", "(I)I"⟩, prog_10_method_12_code),
(⟨"KeySteward$Request", "copyWord", "(ILKeySteward$Bytes;)V"⟩, prog_10_method_13_code),
(⟨"KeySteward$Request", "is", "(ILjava/lang/String;)Z"⟩, prog_10_method_14_code),
(⟨"KeySteward$Request", "lacksInteger", "(I)Z"⟩, prog_10_method_15_code),
(⟨"KeySteward$Request", "lacksSpan", "(I)Z"⟩, prog_10_method_16_code),
(⟨"KeySteward$Request", "cutSpan", "(I)V"⟩, prog_10_method_17_code),
(⟨"KeySteward$Request", "placeIn", "(I)I"⟩, prog_10_method_18_code),
(⟨"KeySteward$Request", "parse", "([BII)Z"⟩, prog_10_method_19_code),
(⟨"KeySteward$Request", "overflows", "(JZ)Z"⟩, prog_10_method_20_code),
(⟨"", "", ""⟩, ⟨#[]⟩),
(⟨"KeySteward$Value", "become", "(I)V"⟩, prog_12_method_2_code),
(⟨"KeySteward$Value", "clear", "()V"⟩, prog_12_method_3_code),
(⟨"KeySteward$Value", "at", "(I)I"⟩, prog_12_method_4_code),
(⟨"KeySteward$Value", "otherAt", "(I)I"⟩, prog_12_method_5_code),
(⟨"KeySteward$Value", "scoreAt", "(I)J"⟩, prog_12_method_6_code),
(⟨"KeySteward$Value", "lineScoreAt", "(I)J"⟩, prog_12_method_7_code),
(⟨"KeySteward$Value", "set", "(III)V"⟩, prog_12_method_8_code),
(⟨"KeySteward$Value", "put", "(IIJ)V"⟩, prog_12_method_9_code),
(⟨"KeySteward$Value", "cut", "(III)V"⟩, prog_12_method_10_code),
(⟨"KeySteward$Value", "insert", "(III)V"⟩, prog_12_method_11_code),
(⟨"KeySteward$Value", "removeFrom", "(II)V"⟩, prog_12_method_12_code),
(⟨"KeySteward$Value", "insertScored", "(IIIJ)V"⟩, prog_12_method_13_code),
(⟨"KeySteward$Value", "removeScored", "(II)V"⟩, prog_12_method_14_code),
(⟨"", "", ""⟩, ⟨#[]⟩),
(⟨"KeySteward$Keys", "forget", "()V"⟩, prog_6_method_2_code),
(⟨"KeySteward$Keys", "idAt", "(I)I"⟩, prog_6_method_3_code),
(⟨"KeySteward$Keys", "valueAt", "(I)LKeySteward$Value;"⟩, prog_6_method_4_code),
(⟨"KeySteward$Keys", "find", "(I)LKeySteward$Value;"⟩, prog_6_method_5_code),
(⟨"KeySteward$Keys", "fresh", "(II)LKeySteward$Value;"⟩, prog_6_method_6_code),
(⟨"KeySteward$Keys", "findOrMake", "(II)LKeySteward$Value;"⟩, prog_6_method_7_code),
(⟨"KeySteward$Keys", "enter", "(II)V"⟩, prog_6_method_8_code),
(⟨"KeySteward$Keys", "addValue", "()V"⟩, prog_6_method_9_code),
(⟨"KeySteward$Keys", "leave", "(I)V"⟩, prog_6_method_10_code),
(⟨"KeySteward$Keys", "dropAt", "(I)V"⟩, prog_6_method_11_code),
(⟨"KeySteward$Keys", "remove", "(I)Z"⟩, prog_6_method_12_code),
(⟨"KeySteward$Keys", "settle", "(ILKeySteward$Value;)V"⟩, prog_6_method_13_code),
(⟨"KeySteward$Keys", "touch", "(I)V"⟩, prog_6_method_14_code),
(⟨"KeySteward$Keys", "setEnds", "(LKeySteward$Value;J)V"⟩, prog_6_method_15_code),
(⟨"KeySteward$Keys", "growText", "(LKeySteward$Value;I)V"⟩, prog_6_method_16_code),
(⟨"KeySteward$Keys", "packTexts", "(I)V"⟩, prog_6_method_17_code),
(⟨"KeySteward$Keys", "growCells", "(LKeySteward$Value;I)V"⟩, prog_6_method_18_code),
(⟨"KeySteward$Keys", "packCells", "(I)V"⟩, prog_6_method_19_code),
(⟨"KeySteward$Keys", "placeOf", "(LKeySteward$Value;I)I"⟩, prog_6_method_20_code),
(⟨"KeySteward$Keys", "isFull", "()Z"⟩, prog_6_method_21_code),
(⟨"KeySteward$Keys", "refuses", "(III)Z"⟩, prog_6_method_22_code),
(⟨"KeySteward$Keys", "lacksTime", "(ZZJ)Z"⟩, prog_6_method_23_code),
(⟨"KeySteward$Keys", "isPast", "(J)Z"⟩, prog_6_method_24_code),
(⟨"KeySteward$Keys", "run", "(LKeySteward$Command;)V"⟩, prog_6_method_25_code),
(⟨"KeySteward$Keys", "delete", "()V"⟩, prog_6_method_26_code),
(⟨"KeySteward$Keys", "countThere", "()V"⟩, prog_6_method_27_code),
(⟨"KeySteward$Keys", "tellSort", "(LKeySteward$Value;)V"⟩, prog_6_method_28_code),
(⟨"KeySteward$Keys", "rename", "(Z)V"⟩, prog_6_method_29_code),
(⟨"KeySteward$Keys", "move", "(II)V"⟩, prog_6_method_30_code),
(⟨"KeySteward$Keys", "listFitting", "()V"⟩, prog_6_method_31_code),
(⟨"KeySteward$Keys", "dropAll", "()V"⟩, prog_6_method_32_code),
(⟨"KeySteward$Keys", "persist", "()V"⟩, prog_6_method_33_code),
(⟨"KeySteward$Keys", "tellTimeLeft", "(Z)V"⟩, prog_6_method_34_code),
(⟨"KeySteward$Keys", "setTime", "(LKeySteward$Command;)V"⟩, prog_6_method_35_code),
(⟨"", "", ""⟩, ⟨#[]⟩),
(⟨"KeySteward$Texts", "run", "(LKeySteward$Command;)V"⟩, prog_11_method_2_code),
(⟨"KeySteward$Texts", "tell", "(LKeySteward$Value;)V"⟩, prog_11_method_3_code),
(⟨"KeySteward$Texts", "read", "(LKeySteward$Command;)V"⟩, prog_11_method_4_code),
(⟨"KeySteward$Texts", "readMany", "()V"⟩, prog_11_method_5_code),
(⟨"KeySteward$Texts", "stretch", "(LKeySteward$Value;I)V"⟩, prog_11_method_6_code),
(⟨"KeySteward$Texts", "overlay", "(LKeySteward$Value;I[BII)V"⟩, prog_11_method_7_code),
(⟨"KeySteward$Texts", "overlayArg", "(LKeySteward$Value;II)V"⟩, prog_11_method_8_code),
(⟨"KeySteward$Texts", "put", "(IJZ)V"⟩, prog_11_method_9_code),
(⟨"KeySteward$Texts", "readOptions", "()Z"⟩, prog_11_method_10_code),
(⟨"KeySteward$Texts", "timingOf", "(I)I"⟩, prog_11_method_11_code),
(⟨"KeySteward$Texts", "set", "()V"⟩, prog_11_method_12_code),
(⟨"KeySteward$Texts", "getSet", "()V"⟩, prog_11_method_13_code),
(⟨"KeySteward$Texts", "setNew", "()V"⟩, prog_11_method_14_code),
(⟨"KeySteward$Texts", "setTimed", "(Z)V"⟩, prog_11_method_15_code),
(⟨"KeySteward$Texts", "setMany", "(Z)V"⟩, prog_11_method_16_code),
(⟨"KeySteward$Texts", "append", "()V"⟩, prog_11_method_17_code),
(⟨"KeySteward$Texts", "writeArg", "(ILKeySteward$Value;II)V"⟩, prog_11_method_18_code),
(⟨"KeySteward$Texts", "readPart", "()V"⟩, prog_11_method_19_code),
(⟨"KeySteward$Texts", "writePart", "()V"⟩, prog_11_method_20_code),
(⟨"KeySteward$Texts", "count", "(LKeySteward$Command;)V"⟩, prog_11_method_21_code),
(⟨"KeySteward$Texts", "lacksBit", "(Z)Z"⟩, prog_11_method_22_code),
(⟨"KeySteward$Texts", "byteAt", "(LKeySteward$Value;I)I"⟩, prog_11_method_23_code),
(⟨"KeySteward$Texts", "setBit", "()V"⟩, prog_11_method_24_code),
(⟨"KeySteward$Texts", "readBit", "()V"⟩, prog_11_method_25_code),
(⟨"KeySteward$Texts", "countBits", "()V"⟩, prog_11_method_26_code),
(⟨"", "", ""⟩, ⟨#[]⟩),
(⟨"KeySteward$Lists", "run", "(LKeySteward$Command;)V"⟩, prog_7_method_2_code),
(⟨"KeySteward$Lists", "add", "(LKeySteward$Value;II)V"⟩, prog_7_method_3_code),
(⟨"KeySteward$Lists", "removeFrom", "(LKeySteward$Value;II)V"⟩, prog_7_method_4_code),
(⟨"KeySteward$Lists", "push", "(ZZ)V"⟩, prog_7_method_5_code),
(⟨"KeySteward$Lists", "pop", "(Z)V"⟩, prog_7_method_6_code),
(⟨"KeySteward$Lists", "tellLength", "()V"⟩, prog_7_method_7_code),
(⟨"KeySteward$Lists", "readPart", "()V"⟩, prog_7_method_8_code),
(⟨"KeySteward$Lists", "readOne", "()V"⟩, prog_7_method_9_code),
(⟨"KeySteward$Lists", "setOne", "()V"⟩, prog_7_method_10_code),
(⟨"KeySteward$Lists", "insertBeside", "()V"⟩, prog_7_method_11_code),
(⟨"KeySteward$Lists", "removeSame", "()V"⟩, prog_7_method_12_code),
(⟨"KeySteward$Lists", "trim", "()V"⟩, prog_7_method_13_code),
(⟨"KeySteward$Lists", "move", "(Z)V"⟩, prog_7_method_14_code),
(⟨"", "", ""⟩, ⟨#[]⟩),
(⟨"KeySteward$Members", "runHash", "(LKeySteward$Command;)V"⟩, prog_8_method_2_code),
(⟨"KeySteward$Members", "runSet", "(LKeySteward$Command;)V"⟩, prog_8_method_3_code),
(⟨"KeySteward$Members", "tellSize", "(I)V"⟩, prog_8_method_4_code),
(⟨"KeySteward$Members", "tellIfThere", "(I)V"⟩, prog_8_method_5_code),
(⟨"KeySteward$Members", "tellAll", "(IZZ)V"⟩, prog_8_method_6_code),
(⟨"KeySteward$Members", "removeAt", "(LKeySteward$Value;I)V"⟩, prog_8_method_7_code),
(⟨"KeySteward$Members", "removeAll", "(I)V"⟩, prog_8_method_8_code),
(⟨"KeySteward$Members", "setField", "(LKeySteward$Value;II)Z"⟩, prog_8_method_9_code),
(⟨"KeySteward$Members", "setFields", "()V"⟩, prog_8_method_10_code),
(⟨"KeySteward$Members", "setNewField", "()V"⟩, prog_8_method_11_code),
(⟨"KeySteward$Members", "valueOf", "(LKeySteward$Value;I)I"⟩, prog_8_method_12_code),
(⟨"KeySteward$Members", "tellWord", "(I)V"⟩, prog_8_method_13_code),
(⟨"KeySteward$Members", "readField", "()V"⟩, prog_8_method_14_code),
(⟨"KeySteward$Members", "readFields", "()V"⟩, prog_8_method_15_code),
(⟨"KeySteward$Members", "tellFieldLength", "()V"⟩, prog_8_method_16_code),
(⟨"KeySteward$Members", "addToField", "()V"⟩, prog_8_method_17_code),
(⟨"KeySteward$Members", "addMember", "(LKeySteward$Value;I)Z"⟩, prog_8_method_18_code),
(⟨"KeySteward$Members", "addMembers", "()V"⟩, prog_8_method_19_code),
(⟨"KeySteward$Members", "tellWhichThere", "()V"⟩, prog_8_method_20_code),
(⟨"KeySteward$Members", "move", "()V"⟩, prog_8_method_21_code),
(⟨"KeySteward$Members", "popLeast", "()V"⟩, prog_8_method_22_code),
(⟨"KeySteward$Members", "combine", "(LKeySteward$Command;)V"⟩, prog_8_method_23_code),
(⟨"KeySteward$Members", "combineAndStore", "(LKeySteward$Command;)V"⟩, prog_8_method_24_code),
(⟨"KeySteward$Members", "fillPot", "(LKeySteward$Command;I)V"⟩, prog_8_method_25_code),
(⟨"KeySteward$Members", "addToPot", "(LKeySteward$Value;)V"⟩, prog_8_method_26_code),
(⟨"KeySteward$Members", "siftPot", "(LKeySteward$Value;Z)V"⟩, prog_8_method_27_code),
(⟨"", "", ""⟩, ⟨#[]⟩),
(⟨"KeySteward$Orders", "run", "(LKeySteward$Command;)V"⟩, prog_9_method_2_code),
(⟨"KeySteward$Orders", "linePlace", "(LKeySteward$Value;JI)I"⟩, prog_9_method_3_code),
(⟨"KeySteward$Orders", "insert", "(LKeySteward$Value;IIJ)V"⟩, prog_9_method_4_code),
(⟨"KeySteward$Orders", "removeAt", "(LKeySteward$Value;I)V"⟩, prog_9_method_5_code),
(⟨"KeySteward$Orders", "rescore", "(LKeySteward$Value;IJ)V"⟩, prog_9_method_6_code),
(⟨"KeySteward$Orders", "told", "(I)Z"⟩, prog_9_method_7_code),
(⟨"KeySteward$Orders", "flagOf", "(I)I"⟩, prog_9_method_8_code),
(⟨"KeySteward$Orders", "readFlags", "()Z"⟩, prog_9_method_9_code),
(⟨"KeySteward$Orders", "mayBecome", "(JJ)Z"⟩, prog_9_method_10_code),
(⟨"KeySteward$Orders", "add", "()V"⟩, prog_9_method_11_code),
(⟨"KeySteward$Orders", "addPairs", "(ILKeySteward$Value;)V"⟩, prog_9_method_12_code),
(⟨"KeySteward$Orders", "addToOne", "()V"⟩, prog_9_method_13_code),
(⟨"KeySteward$Orders", "increase", "(ILKeySteward$Value;I)V"⟩, prog_9_method_14_code),
(⟨"KeySteward$Orders", "removeMembers", "()V"⟩, prog_9_method_15_code),
(⟨"KeySteward$Orders", "tellSize", "()V"⟩, prog_9_method_16_code),
(⟨"KeySteward$Orders", "tellScore", "()V"⟩, prog_9_method_17_code),
(⟨"KeySteward$Orders", "tellRank", "(Z)V"⟩, prog_9_method_18_code),
(⟨"KeySteward$Orders", "tellLine", "(LKeySteward$Value;IIZ)V"⟩, prog_9_method_19_code),
(⟨"KeySteward$Orders", "readRanks", "(Z)V"⟩, prog_9_method_20_code),
(⟨"KeySteward$Orders", "readBound", "(I)Z"⟩, prog_9_method_21_code),
(⟨"KeySteward$Orders", "lacksBounds", "()Z"⟩, prog_9_method_22_code),
(⟨"KeySteward$Orders", "edge", "(LKeySteward$Value;IZ)I"⟩, prog_9_method_23_code),
(⟨"KeySteward$Orders", "readScoreOptions", "()Z"⟩, prog_9_method_24_code),
(⟨"KeySteward$Orders", "readScores", "(Z)V"⟩, prog_9_method_25_code),
(⟨"KeySteward$Orders", "countScores", "()V"⟩, prog_9_method_26_code),
(⟨"KeySteward$Orders", "removeLine", "(ILKeySteward$Value;II)V"⟩, prog_9_method_27_code),
(⟨"KeySteward$Orders", "removeRanks", "()V"⟩, prog_9_method_28_code),
(⟨"KeySteward$Orders", "removeScores", "()V"⟩, prog_9_method_29_code),
(⟨"KeySteward$Orders", "pop", "(Z)V"⟩, prog_9_method_30_code),
(⟨"", "", ""⟩, ⟨#[]⟩),
(⟨"", "", ""⟩, ⟨#[]⟩),
(⟨"", "", ""⟩, ⟨#[]⟩),
(⟨"", "", ""⟩, ⟨#[]⟩),
(⟨"", "", ""⟩, ⟨#[]⟩),
(⟨"", "", ""⟩, ⟨#[]⟩),
(⟨"", "", ""⟩, ⟨#[]⟩),
(⟨"", "", ""⟩, ⟨#[]⟩),
(⟨"", "", ""⟩, ⟨#[]⟩),
(⟨"", "", ""⟩, ⟨#[]⟩),
(⟨"", "", ""⟩, ⟨#[]⟩),
(⟨"", "", ""⟩, ⟨#[]⟩),
(⟨"", "", ""⟩, ⟨#[]⟩),
(⟨"", "", ""⟩, ⟨#[]⟩),
(⟨"", "", ""⟩, ⟨#[]⟩),
(⟨"", "", ""⟩, ⟨#[]⟩),
(⟨"", "", ""⟩, ⟨#[]⟩),
(⟨"", "", ""⟩, ⟨#[]⟩),
(⟨"", "", ""⟩, ⟨#[]⟩),
(⟨"", "", ""⟩, ⟨#[]⟩),
(⟨"", "", ""⟩, ⟨#[]⟩),
(⟨"", "", ""⟩, ⟨#[]⟩),
(⟨"", "", ""⟩, ⟨#[]⟩),
(⟨"", "", ""⟩, ⟨#[]⟩),
(⟨"", "", ""⟩, ⟨#[]⟩),
(⟨"", "", ""⟩, ⟨#[]⟩),
(⟨"", "", ""⟩, ⟨#[]⟩),
(⟨"", "", ""⟩, ⟨#[]⟩),
(⟨"", "", ""⟩, ⟨#[]⟩),
(⟨"", "", ""⟩, ⟨#[]⟩),
(⟨"", "", ""⟩, ⟨#[]⟩),
(⟨"", "", ""⟩, ⟨#[]⟩),
(⟨"", "", ""⟩, ⟨#[]⟩),
(⟨"", "", ""⟩, ⟨#[]⟩),
(⟨"", "", ""⟩, ⟨#[]⟩),
(⟨"", "", ""⟩, ⟨#[]⟩),
(⟨"", "", ""⟩, ⟨#[]⟩),
(⟨"", "", ""⟩, ⟨#[]⟩),
(⟨"", "", ""⟩, ⟨#[]⟩),
(⟨"", "", ""⟩, ⟨#[]⟩),
(⟨"", "", ""⟩, ⟨#[]⟩),
(⟨"", "", ""⟩, ⟨#[]⟩),
(⟨"java/lang/Math", "max", "(II)I"⟩, prog_20_method_65_code),
(⟨"java/lang/Math", "min", "(II)I"⟩, prog_20_method_69_code),
(⟨"java/lang/Math", "max", "(JJ)J"⟩, prog_20_method_66_code),
(⟨"java/lang/Math", "min", "(JJ)J"⟩, prog_20_method_70_code),
(⟨"java/lang/String", "length", "()I"⟩, prog_22_method_54_code),
(⟨"java/lang/String", "charAt", "(I)C"⟩, prog_22_method_56_code),
(⟨"java/lang/String", "coder", "()B"⟩, prog_22_method_152_code),
(⟨"java/lang/String", "isLatin1", "()Z"⟩, prog_22_method_154_code),
(⟨"java/lang/StringLatin1", "charAt", "([BI)C"⟩, prog_23_method_2_code),
(⟨"java/util/Arrays", "rangeCheck", "(III)V"⟩, prog_27_method_30_code),
(⟨"java/util/Arrays", "fill", "([II)V"⟩, prog_27_method_103_code),
(⟨"java/util/Arrays", "fill", "([BIIB)V"⟩, prog_27_method_110_code),
(⟨"java/util/Arrays", "copyOf", "([BI)[B"⟩, prog_27_method_121_code),
(⟨"java/util/Arrays", "copyOf", "([II)[I"⟩, prog_27_method_123_code),
(⟨"java/lang/Integer", "bitCount", "(I)I"⟩, prog_19_method_49_code)]
def kYN (m : Nat) : MethodName × ByteArray := kYL.getD m (⟨"", "", ""⟩, ⟨#[]⟩)
def kcnL : List String := ["KeySteward", "KeySteward$Bytes", "KeySteward$Command", "KeySteward$Connection", "KeySteward$Keys", "KeySteward$Lists", "KeySteward$Members", "KeySteward$Orders", "KeySteward$Request", "KeySteward$Texts", "KeySteward$Value", "KeySteward$Words", "java/lang/Integer", "java/lang/Math", "java/lang/String", "java/lang/StringLatin1", "java/util/Arrays"]
def kcn (i : Nat) : String := kcnL.getD i ""
def cxL : List Nat := [0, 0, 0, 0, 0, 0, 0, 0, 0, 0, 0, 0, 0, 0, 0, 0, 0, 0, 0, 0, 0, 0, 0, 0, 0, 0, 0, 0, 0, 0, 0, 0, 0, 0, 0, 0, 0, 0, 0, 0, 1, 1, 1, 1, 1, 1, 1, 1, 1, 1, 1, 1, 1, 1, 1, 1, 1, 1, 1, 1, 1, 1, 0, 3, 3, 3, 3, 3, 3, 3, 3, 3, 3, 3, 0, 11, 11, 11, 11, 11, 11, 11, 11, 11, 11, 11, 11, 11, 2, 2, 2, 2, 0, 8, 8, 8, 8, 8, 8, 8, 8, 8, 8, 8, 8, 8, 8, 8, 8, 8, 8, 8, 0, 10, 10, 10, 10, 10, 10, 10, 10, 10, 10, 10, 10, 10, 0, 4, 4, 4, 4, 4, 4, 4, 4, 4, 4, 4, 4, 4, 4, 4, 4, 4, 4, 4, 4, 4, 4, 4, 4, 4, 4, 4, 4, 4, 4, 4, 4, 4, 4, 0, 9, 9, 9, 9, 9, 9, 9, 9, 9, 9, 9, 9, 9, 9, 9, 9, 9, 9, 9, 9, 9, 9, 9, 9, 9, 0, 5, 5, 5, 5, 5, 5, 5, 5, 5, 5, 5, 5, 5, 0, 6, 6, 6, 6, 6, 6, 6, 6, 6, 6, 6, 6, 6, 6, 6, 6, 6, 6, 6, 6, 6, 6, 6, 6, 6, 6, 0, 7, 7, 7, 7, 7, 7, 7, 7, 7, 7, 7, 7, 7, 7, 7, 7, 7, 7, 7, 7, 7, 7, 7, 7, 7, 7, 7, 7, 7, 0, 0, 0, 0, 0, 0, 0, 0, 0, 0, 0, 0, 0, 0, 0, 0, 0, 0, 0, 0, 0, 0, 0, 0, 0, 0, 0, 0, 0, 0, 0, 0, 0, 0, 0, 0, 0, 0, 0, 0, 0, 0, 13, 13, 13, 13, 14, 14, 14, 14, 15, 16, 16, 16, 16, 16, 12]
def cxM (m : Nat) : Nat := cxL.getD m 0
def lcK_0 : List (Nat × Int) := [(109, 65520), (137, 1048576), (229, 65536)]
theorem lck_0_0 : ∀ p ∈ ([(109, 65520), (137, 1048576), (229, 65536)] : List (Nat × Int)), (fun (c : Nat) (p : Nat × Int) => Cond.constant (kcn c) p.1 (Int32.ofInt p.2) ∈ kw) 0 p := List.forall_mem_cons.mpr ⟨kw_tab (tl_in (tb_3 (List.mem_of_getElem? (i := 7) (by decide +kernel)))) rfl, List.forall_mem_cons.mpr ⟨kw_tab (tl_in (tb_3 (List.mem_of_getElem? (i := 61) (by decide +kernel)))) rfl, List.forall_mem_cons.mpr ⟨kw_tab (tl_in (tb_8 (List.mem_of_getElem? (i := 175) (by decide +kernel)))) rfl, fun _ h => absurd h List.not_mem_nil⟩⟩⟩
theorem lck_0 : ∀ p ∈ lcK_0, (fun (c : Nat) (p : Nat × Int) => Cond.constant (kcn c) p.1 (Int32.ofInt p.2) ∈ kw) 0 p := by
  show ∀ p ∈ ([(109, 65520), (137, 1048576), (229, 65536)] : List (Nat × Int)), _
  exact lck_0_0
def lcK_1 : List (Nat × Int) := []
theorem lck_1 : ∀ p ∈ lcK_1, (fun (c : Nat) (p : Nat × Int) => Cond.constant (kcn c) p.1 (Int32.ofInt p.2) ∈ kw) 1 p := fun _ h => absurd h List.not_mem_nil
def lcK_2 : List (Nat × Int) := []
theorem lck_2 : ∀ p ∈ lcK_2, (fun (c : Nat) (p : Nat × Int) => Cond.constant (kcn c) p.1 (Int32.ofInt p.2) ∈ kw) 2 p := fun _ h => absurd h List.not_mem_nil
def lcK_3 : List (Nat × Int) := []
theorem lck_3 : ∀ p ∈ lcK_3, (fun (c : Nat) (p : Nat × Int) => Cond.constant (kcn c) p.1 (Int32.ofInt p.2) ∈ kw) 3 p := fun _ h => absurd h List.not_mem_nil
def lcK_4 : List (Nat × Int) := [(176, 1048576), (198, 60000)]
theorem lck_4_0 : ∀ p ∈ ([(176, 1048576), (198, 60000)] : List (Nat × Int)), (fun (c : Nat) (p : Nat × Int) => Cond.constant (kcn c) p.1 (Int32.ofInt p.2) ∈ kw) 4 p := List.forall_mem_cons.mpr ⟨kw_tab (tl_in (tb_5 (List.mem_of_getElem? (i := 58) (by decide +kernel)))) rfl, List.forall_mem_cons.mpr ⟨kw_tab (tl_in (tb_4 (List.mem_of_getElem? (i := 43) (by decide +kernel)))) rfl, fun _ h => absurd h List.not_mem_nil⟩⟩
theorem lck_4 : ∀ p ∈ lcK_4, (fun (c : Nat) (p : Nat × Int) => Cond.constant (kcn c) p.1 (Int32.ofInt p.2) ∈ kw) 4 p := by
  show ∀ p ∈ ([(176, 1048576), (198, 60000)] : List (Nat × Int)), _
  exact lck_4_0
def lcK_5 : List (Nat × Int) := []
theorem lck_5 : ∀ p ∈ lcK_5, (fun (c : Nat) (p : Nat × Int) => Cond.constant (kcn c) p.1 (Int32.ofInt p.2) ∈ kw) 5 p := fun _ h => absurd h List.not_mem_nil
def lcK_6 : List (Nat × Int) := []
theorem lck_6 : ∀ p ∈ lcK_6, (fun (c : Nat) (p : Nat × Int) => Cond.constant (kcn c) p.1 (Int32.ofInt p.2) ∈ kw) 6 p := fun _ h => absurd h List.not_mem_nil
def lcK_7 : List (Nat × Int) := []
theorem lck_7 : ∀ p ∈ lcK_7, (fun (c : Nat) (p : Nat × Int) => Cond.constant (kcn c) p.1 (Int32.ofInt p.2) ∈ kw) 7 p := fun _ h => absurd h List.not_mem_nil
def lcK_8 : List (Nat × Int) := []
theorem lck_8 : ∀ p ∈ lcK_8, (fun (c : Nat) (p : Nat × Int) => Cond.constant (kcn c) p.1 (Int32.ofInt p.2) ∈ kw) 8 p := fun _ h => absurd h List.not_mem_nil
def lcK_9 : List (Nat × Int) := []
theorem lck_9 : ∀ p ∈ lcK_9, (fun (c : Nat) (p : Nat × Int) => Cond.constant (kcn c) p.1 (Int32.ofInt p.2) ∈ kw) 9 p := fun _ h => absurd h List.not_mem_nil
def lcK_10 : List (Nat × Int) := []
theorem lck_10 : ∀ p ∈ lcK_10, (fun (c : Nat) (p : Nat × Int) => Cond.constant (kcn c) p.1 (Int32.ofInt p.2) ∈ kw) 10 p := fun _ h => absurd h List.not_mem_nil
def lcK_11 : List (Nat × Int) := []
theorem lck_11 : ∀ p ∈ lcK_11, (fun (c : Nat) (p : Nat × Int) => Cond.constant (kcn c) p.1 (Int32.ofInt p.2) ∈ kw) 11 p := fun _ h => absurd h List.not_mem_nil
def lcK_12 : List (Nat × Int) := [(265, 1431655765), (266, 858993459), (267, 252645135)]
theorem lck_12_0 : ∀ p ∈ ([(265, 1431655765), (266, 858993459), (267, 252645135)] : List (Nat × Int)), (fun (c : Nat) (p : Nat × Int) => Cond.constant (kcn c) p.1 (Int32.ofInt p.2) ∈ kw) 12 p := List.forall_mem_cons.mpr ⟨kw_tab (tl_in (tb_5 (List.mem_of_getElem? (i := 181) (by decide +kernel)))) rfl, List.forall_mem_cons.mpr ⟨kw_tab (tl_in (tb_5 (List.mem_of_getElem? (i := 182) (by decide +kernel)))) rfl, List.forall_mem_cons.mpr ⟨kw_tab (tl_in (tb_5 (List.mem_of_getElem? (i := 183) (by decide +kernel)))) rfl, fun _ h => absurd h List.not_mem_nil⟩⟩⟩
theorem lck_12 : ∀ p ∈ lcK_12, (fun (c : Nat) (p : Nat × Int) => Cond.constant (kcn c) p.1 (Int32.ofInt p.2) ∈ kw) 12 p := by
  show ∀ p ∈ ([(265, 1431655765), (266, 858993459), (267, 252645135)] : List (Nat × Int)), _
  exact lck_12_0
def lcK_13 : List (Nat × Int) := []
theorem lck_13 : ∀ p ∈ lcK_13, (fun (c : Nat) (p : Nat × Int) => Cond.constant (kcn c) p.1 (Int32.ofInt p.2) ∈ kw) 13 p := fun _ h => absurd h List.not_mem_nil
def lcK_14 : List (Nat × Int) := []
theorem lck_14 : ∀ p ∈ lcK_14, (fun (c : Nat) (p : Nat × Int) => Cond.constant (kcn c) p.1 (Int32.ofInt p.2) ∈ kw) 14 p := fun _ h => absurd h List.not_mem_nil
def lcK_15 : List (Nat × Int) := []
theorem lck_15 : ∀ p ∈ lcK_15, (fun (c : Nat) (p : Nat × Int) => Cond.constant (kcn c) p.1 (Int32.ofInt p.2) ∈ kw) 15 p := fun _ h => absurd h List.not_mem_nil
def lcK_16 : List (Nat × Int) := []
theorem lck_16 : ∀ p ∈ lcK_16, (fun (c : Nat) (p : Nat × Int) => Cond.constant (kcn c) p.1 (Int32.ofInt p.2) ∈ kw) 16 p := fun _ h => absurd h List.not_mem_nil
def lcT : List (List (Nat × Int)) := [lcK_0, lcK_1, lcK_2, lcK_3, lcK_4, lcK_5, lcK_6, lcK_7, lcK_8, lcK_9, lcK_10, lcK_11, lcK_12, lcK_13, lcK_14, lcK_15, lcK_16]
theorem lcT_all : ∀ c, ∀ p ∈ lcT.getD c [], Cond.constant (kcn c) p.1 (Int32.ofInt p.2) ∈ kw := by
  intro c
  match c with
  | 0 => exact lck_0
  | 1 => exact lck_1
  | 2 => exact lck_2
  | 3 => exact lck_3
  | 4 => exact lck_4
  | 5 => exact lck_5
  | 6 => exact lck_6
  | 7 => exact lck_7
  | 8 => exact lck_8
  | 9 => exact lck_9
  | 10 => exact lck_10
  | 11 => exact lck_11
  | 12 => exact lck_12
  | 13 => exact lck_13
  | 14 => exact lck_14
  | 15 => exact lck_15
  | 16 => exact lck_16
  | c + 17 =>
    intro p hp
    rw [List.getD_eq_getElem?_getD, List.getElem?_eq_none (by show 17 ≤ c + 17; omega)] at hp
    cases hp
end KOKW
