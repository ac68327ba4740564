/-! printed by claim/NAMES, cut down by wip/whole/names.py -/
def RX0 : String := "ShellPair$Aes"
def TX0 : u_T := fun k => match k with
  | 0 => ("ShellPair$Aes", "mixed", "[I", true)
  | 1 => ("ShellPair$Aes", "keys", "[I", true)
  | 2 => ("ShellPair$Aes", "counter", "[I", true)
  | 3 => ("ShellPair$Aes", "stream", "[I", true)
  | _ => ("ShellPair$Aes", "rounds", "I", false)
def tyX0 : Nat → FieldType := fun k => match k with
  | 0 => .array .int
  | 1 => .array .int
  | 2 => .array .int
  | 3 => .array .int
  | _ => .int
abbrev wsX00 : List Cond := u_ws RX0 TX0 5
theorem nmX0 : ∀ a, a < 5 → ∀ b, b < 5 → a ≠ b → (TX0 a).2.1 ≠ (TX0 b).2.1 := by decide +kernel
theorem tyX0_ok : ∀ k, k < 5 → parseFieldDescriptor (TX0 k).2.2.1 = some (tyX0 k) := by decide +kernel
abbrev cX0_init : ByteArray := prog_2_method_1_code
def yX0_init : MethodName := ⟨RX0, "<init>", "()V"⟩
abbrev cX0_forgetsKey : ByteArray := prog_2_method_2_code
def yX0_forgetsKey : MethodName := ⟨RX0, "forgetsKey", "()V"⟩
abbrev cX0_takesKey : ByteArray := prog_2_method_3_code
def yX0_takesKey : MethodName := ⟨RX0, "takesKey", "([BI[B)V"⟩
abbrev cX0_wordAt : ByteArray := prog_2_method_4_code
def yX0_wordAt : MethodName := ⟨RX0, "wordAt", "([BI)I"⟩
abbrev cX0_boxed : ByteArray := prog_2_method_5_code
def yX0_boxed : MethodName := ⟨RX0, "boxed", "(I)I"⟩
abbrev cX0_crypt : ByteArray := prog_2_method_6_code
def yX0_crypt : MethodName := ⟨RX0, "crypt", "([BII)V"⟩
abbrev cX0_makesStream : ByteArray := prog_2_method_7_code
def yX0_makesStream : MethodName := ⟨RX0, "makesStream", "()V"⟩
def RX1 : String := "ShellPair$Bytes"
def TX1 : u_T := fun k => match k with
  | 0 => ("ShellPair$Bytes", "data", "[B", false)
  | 1 => ("ShellPair$Bytes", "from", "I", false)
  | 2 => ("ShellPair$Bytes", "size", "I", false)
  | 3 => ("ShellPair$Bytes", "cursor", "I", false)
  | 4 => ("ShellPair$Bytes", "bad", "Z", false)
  | _ => ("ShellPair$Bytes", "textSize", "I", false)
def tyX1 : Nat → FieldType := fun k => match k with
  | 0 => .array .byte
  | 1 => .int
  | 2 => .int
  | 3 => .int
  | 4 => .boolean
  | _ => .int
abbrev wsX10 : List Cond := u_ws RX1 TX1 6
theorem nmX1 : ∀ a, a < 6 → ∀ b, b < 6 → a ≠ b → (TX1 a).2.1 ≠ (TX1 b).2.1 := by decide +kernel
theorem tyX1_ok : ∀ k, k < 6 → parseFieldDescriptor (TX1 k).2.2.1 = some (tyX1 k) := by decide +kernel
abbrev cX1_init : ByteArray := prog_3_method_1_code
def yX1_init : MethodName := ⟨RX1, "<init>", "(I)V"⟩
abbrev cX1_clear : ByteArray := prog_3_method_2_code
def yX1_clear : MethodName := ⟨RX1, "clear", "()V"⟩
abbrev cX1_rewind : ByteArray := prog_3_method_3_code
def yX1_rewind : MethodName := ⟨RX1, "rewind", "()V"⟩
abbrev cX1_become : ByteArray := prog_3_method_4_code
def yX1_become : MethodName := ⟨RX1, "become", "(LShellPair$Bytes;)V"⟩
abbrev cX1_cut : ByteArray := prog_3_method_5_code
def yX1_cut : MethodName := ⟨RX1, "cut", "(I)V"⟩
abbrev cX1_drop : ByteArray := prog_3_method_6_code
def yX1_drop : MethodName := ⟨RX1, "drop", "(I)V"⟩
abbrev cX1_take : ByteArray := prog_3_method_7_code
def yX1_take : MethodName := ⟨RX1, "take", "()I"⟩
abbrev cX1_makeRoom : ByteArray := prog_3_method_8_code
def yX1_makeRoom : MethodName := ⟨RX1, "makeRoom", "(I)V"⟩
abbrev cX1_put : ByteArray := prog_3_method_9_code
def yX1_put : MethodName := ⟨RX1, "put", "(I)V"⟩
abbrev cX1_putInt : ByteArray := prog_3_method_10_code
def yX1_putInt : MethodName := ⟨RX1, "putInt", "(I)V"⟩
abbrev cX1_putText : ByteArray := prog_3_method_11_code
def yX1_putText : MethodName := ⟨RX1, "putText", "(Ljava/lang/String;)V"⟩
abbrev cX1_putName : ByteArray := prog_3_method_12_code
def yX1_putName : MethodName := ⟨RX1, "putName", "(Ljava/lang/String;)V"⟩
abbrev cX1_putPart : ByteArray := prog_3_method_13_code
def yX1_putPart : MethodName := ⟨RX1, "putPart", "(LShellPair$Bytes;II)V"⟩
abbrev cX1_putAll : ByteArray := prog_3_method_14_code
def yX1_putAll : MethodName := ⟨RX1, "putAll", "(LShellPair$Bytes;)V"⟩
abbrev cX1_putString : ByteArray := prog_3_method_15_code
def yX1_putString : MethodName := ⟨RX1, "putString", "(LShellPair$Bytes;)V"⟩
abbrev cX1_putArray : ByteArray := prog_3_method_16_code
def yX1_putArray : MethodName := ⟨RX1, "putArray", "([BI)V"⟩
abbrev cX1_putArrayString : ByteArray := prog_3_method_17_code
def yX1_putArrayString : MethodName := ⟨RX1, "putArrayString", "([BI)V"⟩
abbrev cX1_replace : ByteArray := prog_3_method_18_code
def yX1_replace : MethodName := ⟨RX1, "replace", "(II)V"⟩
abbrev cX1_at : ByteArray := prog_3_method_19_code
def yX1_at : MethodName := ⟨RX1, "at", "(I)I"⟩
abbrev cX1_intAt : ByteArray := prog_3_method_20_code
def yX1_intAt : MethodName := ⟨RX1, "intAt", "(I)I"⟩
abbrev cX1_copyTo : ByteArray := prog_3_method_21_code
def yX1_copyTo : MethodName := ⟨RX1, "copyTo", "([BI)V"⟩
abbrev cX1_nextByte : ByteArray := prog_3_method_22_code
def yX1_nextByte : MethodName := ⟨RX1, "nextByte", "()I"⟩
abbrev cX1_nextInt : ByteArray := prog_3_method_23_code
def yX1_nextInt : MethodName := ⟨RX1, "nextInt", "()I"⟩
abbrev cX1_nextText : ByteArray := prog_3_method_24_code
def yX1_nextText : MethodName := ⟨RX1, "nextText", "()I"⟩
abbrev cX1_whole : ByteArray := prog_3_method_25_code
def yX1_whole : MethodName := ⟨RX1, "whole", "()Z"⟩
abbrev cX1_same : ByteArray := prog_3_method_26_code
def yX1_same : MethodName := ⟨RX1, "same", "(IILjava/lang/String;)Z"⟩
abbrev cX1_samePart : ByteArray := prog_3_method_27_code
def yX1_samePart : MethodName := ⟨RX1, "samePart", "(IILShellPair$Bytes;II)Z"⟩
abbrev cX1_sameArray : ByteArray := prog_3_method_28_code
def yX1_sameArray : MethodName := ⟨RX1, "sameArray", "(II[B)Z"⟩
abbrev cX1_hasShape : ByteArray := prog_3_method_29_code
def yX1_hasShape : MethodName := ⟨RX1, "hasShape", "(III)Z"⟩
abbrev cX1_nameEnd : ByteArray := prog_3_method_30_code
def yX1_nameEnd : MethodName := ⟨RX1, "nameEnd", "(II)I"⟩
abbrev cX1_listHas : ByteArray := prog_3_method_31_code
def yX1_listHas : MethodName := ⟨RX1, "listHas", "(IILShellPair$Bytes;II)Z"⟩
abbrev cX1_order : ByteArray := prog_3_method_32_code
def yX1_order : MethodName := ⟨RX1, "order", "(LShellPair$Bytes;)I"⟩
def RX2 : String := "ShellPair$Chance"
def TX2 : u_T := fun k => match k with
  | 0 => ("ShellPair$Chance", "sha", "LShellPair$Sha2;", true)
  | 1 => ("ShellPair$Chance", "seedAndNumber", "[B", true)
  | 2 => ("ShellPair$Chance", "block", "[B", true)
  | 3 => ("ShellPair$Chance", "number", "J", false)
  | _ => ("ShellPair$Chance", "used", "I", false)
def tyX2 : Nat → FieldType := fun k => match k with
  | 0 => .object "ShellPair$Sha2"
  | 1 => .array .byte
  | 2 => .array .byte
  | 3 => .long
  | _ => .int
abbrev wsX20 : List Cond := u_ws RX2 TX2 5
theorem nmX2 : ∀ a, a < 5 → ∀ b, b < 5 → a ≠ b → (TX2 a).2.1 ≠ (TX2 b).2.1 := by decide +kernel
theorem tyX2_ok : ∀ k, k < 5 → parseFieldDescriptor (TX2 k).2.2.1 = some (tyX2 k) := by decide +kernel
abbrev cX2_init : ByteArray := prog_4_method_1_code
def yX2_init : MethodName := ⟨RX2, "<init>", "(LShellPair$Sha2;)V"⟩
abbrev cX2_reseed : ByteArray := prog_4_method_2_code
def yX2_reseed : MethodName := ⟨RX2, "reseed", "(LShellPair$Bytes;)V"⟩
abbrev cX2_next : ByteArray := prog_4_method_3_code
def yX2_next : MethodName := ⟨RX2, "next", "()B"⟩
def RX3 : String := "ShellPair$Channel"
def TX3 : u_T := fun k => match k with
  | 0 => ("ShellPair$Channel", "in", "LShellPair$Bytes;", true)
  | 1 => ("ShellPair$Channel", "errors", "LShellPair$Bytes;", true)
  | 2 => ("ShellPair$Channel", "out", "LShellPair$Bytes;", true)
  | 3 => ("ShellPair$Channel", "command", "LShellPair$Bytes;", true)
  | 4 => ("ShellPair$Channel", "state", "I", false)
  | 5 => ("ShellPair$Channel", "port", "I", false)
  | 6 => ("ShellPair$Channel", "other", "I", false)
  | 7 => ("ShellPair$Channel", "window", "J", false)
  | 8 => ("ShellPair$Channel", "greatest", "I", false)
  | 9 => ("ShellPair$Channel", "granted", "I", false)
  | 10 => ("ShellPair$Channel", "told", "I", false)
  | 11 => ("ShellPair$Channel", "stage", "I", false)
  | 12 => ("ShellPair$Channel", "status", "I", false)
  | 13 => ("ShellPair$Channel", "reason", "I", false)
  | 14 => ("ShellPair$Channel", "waiting", "I", false)
  | 15 => ("ShellPair$Channel", "answered", "I", false)
  | 16 => ("ShellPair$Channel", "refused", "I", false)
  | _ => ("ShellPair$Channel", "marks", "I", false)
def tyX3 : Nat → FieldType := fun k => match k with
  | 0 => .object "ShellPair$Bytes"
  | 1 => .object "ShellPair$Bytes"
  | 2 => .object "ShellPair$Bytes"
  | 3 => .object "ShellPair$Bytes"
  | 4 => .int
  | 5 => .int
  | 6 => .int
  | 7 => .long
  | 8 => .int
  | 9 => .int
  | 10 => .int
  | 11 => .int
  | 12 => .int
  | 13 => .int
  | 14 => .int
  | 15 => .int
  | 16 => .int
  | _ => .int
abbrev wsX30 : List Cond := u_ws RX3 TX3 18
theorem nmX3 : ∀ a, a < 18 → ∀ b, b < 18 → a ≠ b → (TX3 a).2.1 ≠ (TX3 b).2.1 := by decide +kernel
theorem tyX3_ok : ∀ k, k < 18 → parseFieldDescriptor (TX3 k).2.2.1 = some (tyX3 k) := by decide +kernel
abbrev cX3_init : ByteArray := prog_5_method_1_code
def yX3_init : MethodName := ⟨RX3, "<init>", "()V"⟩
abbrev cX3_begins : ByteArray := prog_5_method_2_code
def yX3_begins : MethodName := ⟨RX3, "begins", "(II[I)V"⟩
abbrev cX3_isAnswered : ByteArray := prog_5_method_3_code
def yX3_isAnswered : MethodName := ⟨RX3, "isAnswered", "(III)V"⟩
abbrev cX3_inUse : ByteArray := prog_5_method_4_code
def yX3_inUse : MethodName := ⟨RX3, "inUse", "()Z"⟩
abbrev cX3_is : ByteArray := prog_5_method_5_code
def yX3_is : MethodName := ⟨RX3, "is", "(I)Z"⟩
abbrev cX3_mark : ByteArray := prog_5_method_6_code
def yX3_mark : MethodName := ⟨RX3, "mark", "(I)V"⟩
abbrev cX3_unmark : ByteArray := prog_5_method_7_code
def yX3_unmark : MethodName := ⟨RX3, "unmark", "(I)V"⟩
abbrev cX3_tells : ByteArray := prog_5_method_8_code
def yX3_tells : MethodName := ⟨RX3, "tells", "(I)I"⟩
def RX4 : String := "ShellPair$Client"
def TX4 : u_T := fun k => match k with
  | 0 => ("ShellPair$End", "isClient", "Z", true)
  | 1 => ("ShellPair$End", "wire", "LShellPair$Bytes;", true)
  | 2 => ("ShellPair$End", "chance", "LShellPair$Chance;", true)
  | 3 => ("ShellPair$End", "curve", "LShellPair$Curve;", true)
  | 4 => ("ShellPair$End", "exchange", "LShellPair$Exchange;", true)
  | 5 => ("ShellPair$End", "outward", "LShellPair$Flow;", true)
  | 6 => ("ShellPair$End", "inward", "LShellPair$Flow;", true)
  | 7 => ("ShellPair$End", "settings", "[I", true)
  | 8 => ("ShellPair$End", "channels", "[LShellPair$Channel;", true)
  | 9 => ("ShellPair$End", "message", "LShellPair$Bytes;", true)
  | 10 => ("ShellPair$End", "body", "LShellPair$Bytes;", true)
  | 11 => ("ShellPair$End", "gathered", "LShellPair$Bytes;", true)
  | 12 => ("ShellPair$End", "packet", "LShellPair$Bytes;", true)
  | 13 => ("ShellPair$End", "state", "I", false)
  | 14 => ("ShellPair$End", "reason", "I", false)
  | 15 => ("ShellPair$End", "proven", "Z", false)
  | 16 => ("ShellPair$End", "linesPassed", "I", false)
  | 17 => ("ShellPair$End", "length", "I", false)
  | 18 => ("ShellPair$Client", "knownHost", "LShellPair$Bytes;", true)
  | 19 => ("ShellPair$Client", "user", "LShellPair$Bytes;", true)
  | 20 => ("ShellPair$Client", "password", "LShellPair$Bytes;", true)
  | 21 => ("ShellPair$Client", "identity", "[B", true)
  | 22 => ("ShellPair$Client", "identityPublic", "[B", true)
  | 23 => ("ShellPair$Client", "askedUser", "LShellPair$Bytes;", true)
  | 24 => ("ShellPair$Client", "askedIdentity", "[B", true)
  | 25 => ("ShellPair$Client", "askedPublic", "[B", true)
  | 26 => ("ShellPair$Client", "hostKey", "LShellPair$Bytes;", true)
  | 27 => ("ShellPair$Client", "text", "LShellPair$Bytes;", true)
  | 28 => ("ShellPair$Client", "key", "[B", true)
  | 29 => ("ShellPair$Client", "signature", "[B", true)
  | 30 => ("ShellPair$Client", "hasIdentity", "Z", false)
  | 31 => ("ShellPair$Client", "serviceGiven", "Z", false)
  | 32 => ("ShellPair$Client", "triedKey", "Z", false)
  | 33 => ("ShellPair$Client", "triedPassword", "Z", false)
  | 34 => ("ShellPair$Client", "answerDue", "I", false)
  | _ => ("ShellPair$Client", "requests", "I", false)
def tyX4 : Nat → FieldType := fun k => match k with
  | 0 => .boolean
  | 1 => .object "ShellPair$Bytes"
  | 2 => .object "ShellPair$Chance"
  | 3 => .object "ShellPair$Curve"
  | 4 => .object "ShellPair$Exchange"
  | 5 => .object "ShellPair$Flow"
  | 6 => .object "ShellPair$Flow"
  | 7 => .array .int
  | 8 => .array (.object "ShellPair$Channel")
  | 9 => .object "ShellPair$Bytes"
  | 10 => .object "ShellPair$Bytes"
  | 11 => .object "ShellPair$Bytes"
  | 12 => .object "ShellPair$Bytes"
  | 13 => .int
  | 14 => .int
  | 15 => .boolean
  | 16 => .int
  | 17 => .int
  | 18 => .object "ShellPair$Bytes"
  | 19 => .object "ShellPair$Bytes"
  | 20 => .object "ShellPair$Bytes"
  | 21 => .array .byte
  | 22 => .array .byte
  | 23 => .object "ShellPair$Bytes"
  | 24 => .array .byte
  | 25 => .array .byte
  | 26 => .object "ShellPair$Bytes"
  | 27 => .object "ShellPair$Bytes"
  | 28 => .array .byte
  | 29 => .array .byte
  | 30 => .boolean
  | 31 => .boolean
  | 32 => .boolean
  | 33 => .boolean
  | 34 => .int
  | _ => .int
abbrev wsX40 : List Cond := u_ws RX4 TX4 36
theorem nmX4 : ∀ a, a < 36 → ∀ b, b < 36 → a ≠ b → (TX4 a).2.1 ≠ (TX4 b).2.1 := by decide +kernel
theorem tyX4_ok : ∀ k, k < 36 → parseFieldDescriptor (TX4 k).2.2.1 = some (tyX4 k) := by decide +kernel
abbrev cX4_init : ByteArray := prog_6_method_1_code
def yX4_init : MethodName := ⟨RX4, "<init>", "(LShellPair$Bytes;LShellPair$Sha2;LShellPair$Curve;)V"⟩
abbrev cX4_takesIdentity : ByteArray := prog_6_method_2_code
def yX4_takesIdentity : MethodName := ⟨RX4, "takesIdentity", "(LShellPair$Bytes;)V"⟩
abbrev cX4_becomes : ByteArray := prog_6_method_3_code
def yX4_becomes : MethodName := ⟨RX4, "becomes", "(LShellPair$Bytes;I)V"⟩
abbrev cX4_forgetsAsking : ByteArray := prog_6_method_4_code
def yX4_forgetsAsking : MethodName := ⟨RX4, "forgetsAsking", "()V"⟩
abbrev cX4_asked : ByteArray := prog_6_method_5_code
def yX4_asked : MethodName := ⟨RX4, "asked", "()I"⟩
abbrev cX4_takesReply : ByteArray := prog_6_method_6_code
def yX4_takesReply : MethodName := ⟨RX4, "takesReply", "()I"⟩
abbrev cX4_firstExchangeIsComplete : ByteArray := prog_6_method_7_code
def yX4_firstExchangeIsComplete : MethodName := ⟨RX4, "firstExchangeIsComplete", "()V"⟩
abbrev cX4_answersAsking : ByteArray := prog_6_method_8_code
def yX4_answersAsking : MethodName := ⟨RX4, "answersAsking", "(I)I"⟩
abbrev cX4_takesSuccess : ByteArray := prog_6_method_9_code
def yX4_takesSuccess : MethodName := ⟨RX4, "takesSuccess", "()I"⟩
abbrev cX4_preparesFirst : ByteArray := prog_6_method_10_code
def yX4_preparesFirst : MethodName := ⟨RX4, "preparesFirst", "()I"⟩
abbrev cX4_beginsAsking : ByteArray := prog_6_method_11_code
def yX4_beginsAsking : MethodName := ⟨RX4, "beginsAsking", "(Ljava/lang/String;)V"⟩
abbrev cX4_preparesNext : ByteArray := prog_6_method_12_code
def yX4_preparesNext : MethodName := ⟨RX4, "preparesNext", "()I"⟩
abbrev cX4_isListed : ByteArray := prog_6_method_13_code
def yX4_isListed : MethodName := ⟨RX4, "isListed", "(IILjava/lang/String;)Z"⟩
abbrev cX4_putsKey : ByteArray := prog_6_method_14_code
def yX4_putsKey : MethodName := ⟨RX4, "putsKey", "()V"⟩
abbrev cX4_preparesProof : ByteArray := prog_6_method_15_code
def yX4_preparesProof : MethodName := ⟨RX4, "preparesProof", "()I"⟩
abbrev cX4_channelInUse : ByteArray := prog_6_method_16_code
def yX4_channelInUse : MethodName := ⟨RX4, "channelInUse", "(I)LShellPair$Channel;"⟩
abbrev cX4_channelEver : ByteArray := prog_6_method_17_code
def yX4_channelEver : MethodName := ⟨RX4, "channelEver", "(I)LShellPair$Channel;"⟩
abbrev cX4_asksChannel : ByteArray := prog_6_method_18_code
def yX4_asksChannel : MethodName := ⟨RX4, "asksChannel", "(ILShellPair$Bytes;)I"⟩
abbrev cX4_asksCommand : ByteArray := prog_6_method_19_code
def yX4_asksCommand : MethodName := ⟨RX4, "asksCommand", "(LShellPair$Channel;LShellPair$Bytes;)V"⟩
abbrev cX4_takesOpen : ByteArray := prog_6_method_20_code
def yX4_takesOpen : MethodName := ⟨RX4, "takesOpen", "()I"⟩
abbrev cX4_takesOpened : ByteArray := prog_6_method_21_code
def yX4_takesOpened : MethodName := ⟨RX4, "takesOpened", "()I"⟩
abbrev cX4_takesRefused : ByteArray := prog_6_method_22_code
def yX4_takesRefused : MethodName := ⟨RX4, "takesRefused", "()I"⟩
abbrev cX4_takesRequest : ByteArray := prog_6_method_23_code
def yX4_takesRequest : MethodName := ⟨RX4, "takesRequest", "(LShellPair$Channel;)I"⟩
abbrev cX4_worksOn : ByteArray := prog_6_method_24_code
def yX4_worksOn : MethodName := ⟨RX4, "worksOn", "(LShellPair$Channel;)V"⟩
def RX5 : String := "ShellPair$Curve"
def TX5 : u_T := fun k => match k with
  | 0 => ("ShellPair$Curve", "sha", "LShellPair$Sha2;", true)
  | 1 => ("ShellPair$Curve", "rows", "[[J", true)
  | 2 => ("ShellPair$Curve", "base", "[[J", true)
  | 3 => ("ShellPair$Curve", "sum", "[[J", true)
  | 4 => ("ShellPair$Curve", "key", "[[J", true)
  | 5 => ("ShellPair$Curve", "a24", "[J", true)
  | 6 => ("ShellPair$Curve", "wide", "[J", true)
  | 7 => ("ShellPair$Curve", "scalar", "[B", true)
  | 8 => ("ShellPair$Curve", "nonce", "[B", true)
  | 9 => ("ShellPair$Curve", "factor", "[B", true)
  | 10 => ("ShellPair$Curve", "zero", "[B", true)
  | 11 => ("ShellPair$Curve", "packed", "[B", true)
  | 12 => ("ShellPair$Curve", "digest", "[B", true)
  | _ => ("ShellPair$Curve", "head", "[B", true)
def tyX5 : Nat → FieldType := fun k => match k with
  | 0 => .object "ShellPair$Sha2"
  | 1 => .array (.array .long)
  | 2 => .array (.array .long)
  | 3 => .array (.array .long)
  | 4 => .array (.array .long)
  | 5 => .array .long
  | 6 => .array .long
  | 7 => .array .byte
  | 8 => .array .byte
  | 9 => .array .byte
  | 10 => .array .byte
  | 11 => .array .byte
  | 12 => .array .byte
  | _ => .array .byte
abbrev wsX50 : List Cond := u_ws RX5 TX5 14
theorem nmX5 : ∀ a, a < 14 → ∀ b, b < 14 → a ≠ b → (TX5 a).2.1 ≠ (TX5 b).2.1 := by decide +kernel
theorem tyX5_ok : ∀ k, k < 14 → parseFieldDescriptor (TX5 k).2.2.1 = some (tyX5 k) := by decide +kernel
abbrev cX5_init : ByteArray := prog_7_method_1_code
def yX5_init : MethodName := ⟨RX5, "<init>", "(LShellPair$Sha2;)V"⟩
abbrev cX5_agree : ByteArray := prog_7_method_2_code
def yX5_agree : MethodName := ⟨RX5, "agree", "([B[B[B)Z"⟩
abbrev cX5_ladder : ByteArray := prog_7_method_3_code
def yX5_ladder : MethodName := ⟨RX5, "ladder", "([J[J[J[J[J)V"⟩
abbrev cX5_agreeingKey : ByteArray := prog_7_method_4_code
def yX5_agreeingKey : MethodName := ⟨RX5, "agreeingKey", "([B[B)V"⟩
abbrev cX5_publicKey : ByteArray := prog_7_method_5_code
def yX5_publicKey : MethodName := ⟨RX5, "publicKey", "([B[B)V"⟩
abbrev cX5_sign : ByteArray := prog_7_method_6_code
def yX5_sign : MethodName := ⟨RX5, "sign", "([B[B[BLShellPair$Bytes;)V"⟩
abbrev cX5_verify : ByteArray := prog_7_method_7_code
def yX5_verify : MethodName := ⟨RX5, "verify", "([B[BLShellPair$Bytes;)Z"⟩
abbrev cX5_clamp : ByteArray := prog_7_method_8_code
def yX5_clamp : MethodName := ⟨RX5, "clamp", "([B)V"⟩
abbrev cX5_reduceDigest : ByteArray := prog_7_method_9_code
def yX5_reduceDigest : MethodName := ⟨RX5, "reduceDigest", "([B)V"⟩
abbrev cX5_reduce : ByteArray := prog_7_method_10_code
def yX5_reduce : MethodName := ⟨RX5, "reduce", "([B)V"⟩
abbrev cX5_isBelowOrder : ByteArray := prog_7_method_11_code
def yX5_isBelowOrder : MethodName := ⟨RX5, "isBelowOrder", "([B)Z"⟩
abbrev cX5_combine : ByteArray := prog_7_method_12_code
def yX5_combine : MethodName := ⟨RX5, "combine", "([B[B)V"⟩
abbrev cX5_addPoint : ByteArray := prog_7_method_13_code
def yX5_addPoint : MethodName := ⟨RX5, "addPoint", "([[J[[J)V"⟩
abbrev cX5_doublePoint : ByteArray := prog_7_method_14_code
def yX5_doublePoint : MethodName := ⟨RX5, "doublePoint", "([[J)V"⟩
abbrev cX5_encode : ByteArray := prog_7_method_15_code
def yX5_encode : MethodName := ⟨RX5, "encode", "([B)V"⟩
abbrev cX5_decode : ByteArray := prog_7_method_16_code
def yX5_decode : MethodName := ⟨RX5, "decode", "([B)Z"⟩
abbrev cX5_isSame : ByteArray := prog_7_method_17_code
def yX5_isSame : MethodName := ⟨RX5, "isSame", "([J[J)Z"⟩
abbrev cX5_power : ByteArray := prog_7_method_18_code
def yX5_power : MethodName := ⟨RX5, "power", "([J[JZ)V"⟩
abbrev cX5_become : ByteArray := prog_7_method_19_code
def yX5_become : MethodName := ⟨RX5, "become", "([JJ)V"⟩
abbrev cX5_add : ByteArray := prog_7_method_20_code
def yX5_add : MethodName := ⟨RX5, "add", "([J[J[J)V"⟩
abbrev cX5_sub : ByteArray := prog_7_method_21_code
def yX5_sub : MethodName := ⟨RX5, "sub", "([J[J[J)V"⟩
abbrev cX5_negate : ByteArray := prog_7_method_22_code
def yX5_negate : MethodName := ⟨RX5, "negate", "([J)V"⟩
abbrev cX5_mul : ByteArray := prog_7_method_23_code
def yX5_mul : MethodName := ⟨RX5, "mul", "([J[J[J)V"⟩
abbrev cX5_unpack : ByteArray := prog_7_method_24_code
def yX5_unpack : MethodName := ⟨RX5, "unpack", "([J[B)V"⟩
abbrev cX5_pack : ByteArray := prog_7_method_25_code
def yX5_pack : MethodName := ⟨RX5, "pack", "([B[J)V"⟩
def RX6 : String := "ShellPair$End"
def TX6 : u_T := fun k => match k with
  | _ => ("", "", "", false)
def tyX6 : Nat → FieldType := fun k => match k with
  | _ => .int
abbrev wsX60 : List Cond := u_ws RX6 TX6 0
theorem nmX6 : ∀ a, a < 0 → ∀ b, b < 0 → a ≠ b → (TX6 a).2.1 ≠ (TX6 b).2.1 := by decide +kernel
theorem tyX6_ok : ∀ k, k < 0 → parseFieldDescriptor (TX6 k).2.2.1 = some (tyX6 k) := by decide +kernel
abbrev cX6_init : ByteArray := prog_8_method_1_code
def yX6_init : MethodName := ⟨RX6, "<init>", "(ZLShellPair$Bytes;LShellPair$Sha2;LShellPair$Curve;)V"⟩
abbrev cX6_works : ByteArray := prog_8_method_11_code
def yX6_works : MethodName := ⟨RX6, "works", "()V"⟩
abbrev cX6_begins : ByteArray := prog_8_method_12_code
def yX6_begins : MethodName := ⟨RX6, "begins", "()V"⟩
abbrev cX6_tells : ByteArray := prog_8_method_13_code
def yX6_tells : MethodName := ⟨RX6, "tells", "(I)I"⟩
abbrev cX6_channelsInUse : ByteArray := prog_8_method_15_code
def yX6_channelsInUse : MethodName := ⟨RX6, "channelsInUse", "()I"⟩
abbrev cX6_freeNumber : ByteArray := prog_8_method_16_code
def yX6_freeNumber : MethodName := ⟨RX6, "freeNumber", "()I"⟩
abbrev cX6_takes : ByteArray := prog_8_method_17_code
def yX6_takes : MethodName := ⟨RX6, "takes", "(I)I"⟩
abbrev cX6_takesLineByte : ByteArray := prog_8_method_18_code
def yX6_takesLineByte : MethodName := ⟨RX6, "takesLineByte", "(I)I"⟩
abbrev cX6_isVersion : ByteArray := prog_8_method_19_code
def yX6_isVersion : MethodName := ⟨RX6, "isVersion", "(LShellPair$Bytes;)Z"⟩
abbrev cX6_takesPacketByte : ByteArray := prog_8_method_20_code
def yX6_takesPacketByte : MethodName := ⟨RX6, "takesPacketByte", "()I"⟩
abbrev cX6_handles : ByteArray := prog_8_method_21_code
def yX6_handles : MethodName := ⟨RX6, "handles", "(I)I"⟩
abbrev cX6_isNamed : ByteArray := prog_8_method_22_code
def yX6_isNamed : MethodName := ⟨RX6, "isNamed", "(I)Z"⟩
abbrev cX6_takesPlain : ByteArray := prog_8_method_23_code
def yX6_takesPlain : MethodName := ⟨RX6, "takesPlain", "(I)I"⟩
abbrev cX6_takesInit : ByteArray := prog_8_method_24_code
def yX6_takesInit : MethodName := ⟨RX6, "takesInit", "()I"⟩
abbrev cX6_takesNewKeys : ByteArray := prog_8_method_25_code
def yX6_takesNewKeys : MethodName := ⟨RX6, "takesNewKeys", "()I"⟩
abbrev cX6_beginsExchange : ByteArray := prog_8_method_26_code
def yX6_beginsExchange : MethodName := ⟨RX6, "beginsExchange", "()V"⟩
abbrev cX6_limitIsReached : ByteArray := prog_8_method_27_code
def yX6_limitIsReached : MethodName := ⟨RX6, "limitIsReached", "()Z"⟩
abbrev cX6_sendsNewKeys : ByteArray := prog_8_method_28_code
def yX6_sendsNewKeys : MethodName := ⟨RX6, "sendsNewKeys", "()V"⟩
abbrev cX6_sends : ByteArray := prog_8_method_29_code
def yX6_sends : MethodName := ⟨RX6, "sends", "(LShellPair$Bytes;)Z"⟩
abbrev cX6_waits : ByteArray := prog_8_method_30_code
def yX6_waits : MethodName := ⟨RX6, "waits", "(LShellPair$Bytes;)Z"⟩
abbrev cX6_puts : ByteArray := prog_8_method_31_code
def yX6_puts : MethodName := ⟨RX6, "puts", "(LShellPair$Bytes;)Z"⟩
abbrev cX6_isLost : ByteArray := prog_8_method_32_code
def yX6_isLost : MethodName := ⟨RX6, "isLost", "()V"⟩
abbrev cX6_disconnects : ByteArray := prog_8_method_33_code
def yX6_disconnects : MethodName := ⟨RX6, "disconnects", "(I)V"⟩
abbrev cX6_quits : ByteArray := prog_8_method_34_code
def yX6_quits : MethodName := ⟨RX6, "quits", "()V"⟩
abbrev cX6_sendsLast : ByteArray := prog_8_method_35_code
def yX6_sendsLast : MethodName := ⟨RX6, "sendsLast", "(I)Z"⟩
abbrev cX6_answersChannels : ByteArray := prog_8_method_36_code
def yX6_answersChannels : MethodName := ⟨RX6, "answersChannels", "(I)I"⟩
abbrev cX6_channelThere : ByteArray := prog_8_method_37_code
def yX6_channelThere : MethodName := ⟨RX6, "channelThere", "(I)LShellPair$Channel;"⟩
abbrev cX6_takesGlobalRequest : ByteArray := prog_8_method_38_code
def yX6_takesGlobalRequest : MethodName := ⟨RX6, "takesGlobalRequest", "()I"⟩
abbrev cX6_takesData : ByteArray := prog_8_method_39_code
def yX6_takesData : MethodName := ⟨RX6, "takesData", "(LShellPair$Channel;I)I"⟩
abbrev cX6_takesWindow : ByteArray := prog_8_method_40_code
def yX6_takesWindow : MethodName := ⟨RX6, "takesWindow", "(LShellPair$Channel;J)I"⟩
abbrev cX6_takesClose : ByteArray := prog_8_method_41_code
def yX6_takesClose : MethodName := ⟨RX6, "takesClose", "(LShellPair$Channel;)I"⟩
abbrev cX6_takesAnswer : ByteArray := prog_8_method_42_code
def yX6_takesAnswer : MethodName := ⟨RX6, "takesAnswer", "(LShellPair$Channel;Z)I"⟩
abbrev cX6_putsNumber : ByteArray := prog_8_method_43_code
def yX6_putsNumber : MethodName := ⟨RX6, "putsNumber", "(ILShellPair$Channel;)V"⟩
abbrev cX6_looksAtWindow : ByteArray := prog_8_method_44_code
def yX6_looksAtWindow : MethodName := ⟨RX6, "looksAtWindow", "(LShellPair$Channel;)V"⟩
abbrev cX6_pours : ByteArray := prog_8_method_45_code
def yX6_pours : MethodName := ⟨RX6, "pours", "(LShellPair$Channel;LShellPair$Bytes;I)V"⟩
abbrev cX6_endsWriting : ByteArray := prog_8_method_46_code
def yX6_endsWriting : MethodName := ⟨RX6, "endsWriting", "(LShellPair$Channel;)V"⟩
def RX7 : String := "ShellPair$Exchange"
def TX7 : u_T := fun k => match k with
  | 0 => ("ShellPair$Exchange", "lists", "LShellPair$Bytes;", true)
  | 1 => ("ShellPair$Exchange", "own", "LShellPair$Bytes;", true)
  | 2 => ("ShellPair$Exchange", "other", "LShellPair$Bytes;", true)
  | 3 => ("ShellPair$Exchange", "ownLine", "LShellPair$Bytes;", true)
  | 4 => ("ShellPair$Exchange", "otherLine", "LShellPair$Bytes;", true)
  | 5 => ("ShellPair$Exchange", "session", "LShellPair$Bytes;", true)
  | 6 => ("ShellPair$Exchange", "waiting", "LShellPair$Bytes;", true)
  | 7 => ("ShellPair$Exchange", "text", "LShellPair$Bytes;", true)
  | 8 => ("ShellPair$Exchange", "secret", "[B", true)
  | 9 => ("ShellPair$Exchange", "ownPublic", "[B", true)
  | 10 => ("ShellPair$Exchange", "otherPublic", "[B", true)
  | 11 => ("ShellPair$Exchange", "shared", "[B", true)
  | 12 => ("ShellPair$Exchange", "hash", "[B", true)
  | 13 => ("ShellPair$Exchange", "chosen", "[I", true)
  | 14 => ("ShellPair$Exchange", "sentInit", "Z", false)
  | 15 => ("ShellPair$Exchange", "holding", "Z", false)
  | 16 => ("ShellPair$Exchange", "passesNext", "Z", false)
  | 17 => ("ShellPair$Exchange", "due", "I", false)
  | 18 => ("ShellPair$Exchange", "complete", "I", false)
  | _ => ("ShellPair$Exchange", "sha", "LShellPair$Sha2;", true)
def tyX7 : Nat → FieldType := fun k => match k with
  | 0 => .object "ShellPair$Bytes"
  | 1 => .object "ShellPair$Bytes"
  | 2 => .object "ShellPair$Bytes"
  | 3 => .object "ShellPair$Bytes"
  | 4 => .object "ShellPair$Bytes"
  | 5 => .object "ShellPair$Bytes"
  | 6 => .object "ShellPair$Bytes"
  | 7 => .object "ShellPair$Bytes"
  | 8 => .array .byte
  | 9 => .array .byte
  | 10 => .array .byte
  | 11 => .array .byte
  | 12 => .array .byte
  | 13 => .array .int
  | 14 => .boolean
  | 15 => .boolean
  | 16 => .boolean
  | 17 => .int
  | 18 => .int
  | _ => .object "ShellPair$Sha2"
abbrev wsX70 : List Cond := u_ws RX7 TX7 20
theorem nmX7 : ∀ a, a < 20 → ∀ b, b < 20 → a ≠ b → (TX7 a).2.1 ≠ (TX7 b).2.1 := by decide +kernel
theorem tyX7_ok : ∀ k, k < 20 → parseFieldDescriptor (TX7 k).2.2.1 = some (tyX7 k) := by decide +kernel
abbrev cX7_init : ByteArray := prog_9_method_1_code
def yX7_init : MethodName := ⟨RX7, "<init>", "(LShellPair$Sha2;Ljava/lang/String;)V"⟩
abbrev cX7_begins : ByteArray := prog_9_method_2_code
def yX7_begins : MethodName := ⟨RX7, "begins", "()V"⟩
abbrev cX7_listsBy : ByteArray := prog_9_method_3_code
def yX7_listsBy : MethodName := ⟨RX7, "listsBy", "(II)V"⟩
abbrev cX7_cipherNames : ByteArray := prog_9_method_4_code
def yX7_cipherNames : MethodName := ⟨RX7, "cipherNames", "(I)Ljava/lang/String;"⟩
abbrev cX7_macNames : ByteArray := prog_9_method_5_code
def yX7_macNames : MethodName := ⟨RX7, "macNames", "(I)Ljava/lang/String;"⟩
abbrev cX7_makesInit : ByteArray := prog_9_method_6_code
def yX7_makesInit : MethodName := ⟨RX7, "makesInit", "(LShellPair$Chance;)V"⟩
abbrev cX7_fits : ByteArray := prog_9_method_7_code
def yX7_fits : MethodName := ⟨RX7, "fits", "()Z"⟩
abbrev cX7_toLists : ByteArray := prog_9_method_8_code
def yX7_toLists : MethodName := ⟨RX7, "toLists", "(LShellPair$Bytes;)V"⟩
abbrev cX7_chooses : ByteArray := prog_9_method_9_code
def yX7_chooses : MethodName := ⟨RX7, "chooses", "(Z)Z"⟩
abbrev cX7_firstOfBoth : ByteArray := prog_9_method_10_code
def yX7_firstOfBoth : MethodName := ⟨RX7, "firstOfBoth", "(LShellPair$Bytes;IILShellPair$Bytes;I)I"⟩
abbrev cX7_guessedWrong : ByteArray := prog_9_method_11_code
def yX7_guessedWrong : MethodName := ⟨RX7, "guessedWrong", "()Z"⟩
abbrev cX7_takesSecret : ByteArray := prog_9_method_12_code
def yX7_takesSecret : MethodName := ⟨RX7, "takesSecret", "(LShellPair$Chance;LShellPair$Curve;)V"⟩
abbrev cX7_putShared : ByteArray := prog_9_method_13_code
def yX7_putShared : MethodName := ⟨RX7, "putShared", "()V"⟩
abbrev cX7_hashes : ByteArray := prog_9_method_14_code
def yX7_hashes : MethodName := ⟨RX7, "hashes", "(LShellPair$Bytes;Z)V"⟩
abbrev cX7_derives : ByteArray := prog_9_method_15_code
def yX7_derives : MethodName := ⟨RX7, "derives", "(LShellPair$Flow;Z)V"⟩
abbrev cX7_derive : ByteArray := prog_9_method_16_code
def yX7_derive : MethodName := ⟨RX7, "derive", "(I[B)V"⟩
abbrev cX7_sessionStart : ByteArray := prog_9_method_17_code
def yX7_sessionStart : MethodName := ⟨RX7, "sessionStart", "()I"⟩
def RX8 : String := "ShellPair$Flow"
def TX8 : u_T := fun k => match k with
  | 0 => ("ShellPair$Flow", "nextIv", "[B", true)
  | 1 => ("ShellPair$Flow", "nextKey", "[B", true)
  | 2 => ("ShellPair$Flow", "nextMacKey", "[B", true)
  | 3 => ("ShellPair$Flow", "nextCipher", "I", false)
  | 4 => ("ShellPair$Flow", "nextMac", "I", false)
  | 5 => ("ShellPair$Flow", "aes", "LShellPair$Aes;", true)
  | 6 => ("ShellPair$Flow", "tag", "[B", true)
  | 7 => ("ShellPair$Flow", "packets", "I", false)
  | 8 => ("ShellPair$Flow", "cipher", "I", false)
  | 9 => ("ShellPair$Flow", "mac", "I", false)
  | 10 => ("ShellPair$Flow", "bytes", "J", false)
  | 11 => ("ShellPair$Flow", "sha", "LShellPair$Sha2;", true)
  | 12 => ("ShellPair$Flow", "inner", "[B", true)
  | 13 => ("ShellPair$Flow", "outer", "[B", true)
  | _ => ("ShellPair$Flow", "half", "[B", true)
def tyX8 : Nat → FieldType := fun k => match k with
  | 0 => .array .byte
  | 1 => .array .byte
  | 2 => .array .byte
  | 3 => .int
  | 4 => .int
  | 5 => .object "ShellPair$Aes"
  | 6 => .array .byte
  | 7 => .int
  | 8 => .int
  | 9 => .int
  | 10 => .long
  | 11 => .object "ShellPair$Sha2"
  | 12 => .array .byte
  | 13 => .array .byte
  | _ => .array .byte
abbrev wsX80 : List Cond := u_ws RX8 TX8 15
theorem nmX8 : ∀ a, a < 15 → ∀ b, b < 15 → a ≠ b → (TX8 a).2.1 ≠ (TX8 b).2.1 := by decide +kernel
theorem tyX8_ok : ∀ k, k < 15 → parseFieldDescriptor (TX8 k).2.2.1 = some (tyX8 k) := by decide +kernel
abbrev cX8_init : ByteArray := prog_10_method_1_code
def yX8_init : MethodName := ⟨RX8, "<init>", "(LShellPair$Sha2;)V"⟩
abbrev cX8_begins : ByteArray := prog_10_method_2_code
def yX8_begins : MethodName := ⟨RX8, "begins", "()V"⟩
abbrev cX8_changesKeys : ByteArray := prog_10_method_3_code
def yX8_changesKeys : MethodName := ⟨RX8, "changesKeys", "()V"⟩
abbrev cX8_block : ByteArray := prog_10_method_4_code
def yX8_block : MethodName := ⟨RX8, "block", "()I"⟩
abbrev cX8_openBytes : ByteArray := prog_10_method_5_code
def yX8_openBytes : MethodName := ⟨RX8, "openBytes", "()I"⟩
abbrev cX8_headSize : ByteArray := prog_10_method_6_code
def yX8_headSize : MethodName := ⟨RX8, "headSize", "()I"⟩
abbrev cX8_tagSize : ByteArray := prog_10_method_7_code
def yX8_tagSize : MethodName := ⟨RX8, "tagSize", "()I"⟩
abbrev cX8_opensHead : ByteArray := prog_10_method_8_code
def yX8_opensHead : MethodName := ⟨RX8, "opensHead", "(LShellPair$Bytes;)V"⟩
abbrev cX8_opens : ByteArray := prog_10_method_9_code
def yX8_opens : MethodName := ⟨RX8, "opens", "(LShellPair$Bytes;I)Z"⟩
abbrev cX8_tags : ByteArray := prog_10_method_10_code
def yX8_tags : MethodName := ⟨RX8, "tags", "(LShellPair$Bytes;I)V"⟩
def RX9 : String := "ShellPair$Server"
def TX9 : u_T := fun k => match k with
  | 0 => ("ShellPair$End", "isClient", "Z", true)
  | 1 => ("ShellPair$End", "wire", "LShellPair$Bytes;", true)
  | 2 => ("ShellPair$End", "chance", "LShellPair$Chance;", true)
  | 3 => ("ShellPair$End", "curve", "LShellPair$Curve;", true)
  | 4 => ("ShellPair$End", "exchange", "LShellPair$Exchange;", true)
  | 5 => ("ShellPair$End", "outward", "LShellPair$Flow;", true)
  | 6 => ("ShellPair$End", "inward", "LShellPair$Flow;", true)
  | 7 => ("ShellPair$End", "settings", "[I", true)
  | 8 => ("ShellPair$End", "channels", "[LShellPair$Channel;", true)
  | 9 => ("ShellPair$End", "message", "LShellPair$Bytes;", true)
  | 10 => ("ShellPair$End", "body", "LShellPair$Bytes;", true)
  | 11 => ("ShellPair$End", "gathered", "LShellPair$Bytes;", true)
  | 12 => ("ShellPair$End", "packet", "LShellPair$Bytes;", true)
  | 13 => ("ShellPair$End", "state", "I", false)
  | 14 => ("ShellPair$End", "reason", "I", false)
  | 15 => ("ShellPair$End", "proven", "Z", false)
  | 16 => ("ShellPair$End", "linesPassed", "I", false)
  | 17 => ("ShellPair$End", "length", "I", false)
  | 18 => ("ShellPair$Server", "keys", "[LShellPair$Bytes;", true)
  | 19 => ("ShellPair$Server", "store", "LShellPair$Store;", true)
  | 20 => ("ShellPair$Server", "accounts", "I", false)
  | 21 => ("ShellPair$Server", "hostSecret", "[B", true)
  | 22 => ("ShellPair$Server", "hostPublic", "[B", true)
  | 23 => ("ShellPair$Server", "hostKey", "LShellPair$Bytes;", true)
  | 24 => ("ShellPair$Server", "names", "[LShellPair$Bytes;", true)
  | 25 => ("ShellPair$Server", "passwords", "[LShellPair$Bytes;", true)
  | 26 => ("ShellPair$Server", "ports", "[I", true)
  | 27 => ("ShellPair$Server", "sha", "LShellPair$Sha2;", true)
  | 28 => ("ShellPair$Server", "text", "LShellPair$Bytes;", true)
  | 29 => ("ShellPair$Server", "key", "[B", true)
  | 30 => ("ShellPair$Server", "signature", "[B", true)
  | 31 => ("ShellPair$Server", "sum", "[B", true)
  | 32 => ("ShellPair$Server", "serviceGiven", "Z", false)
  | _ => ("ShellPair$Server", "failures", "I", false)
def tyX9 : Nat → FieldType := fun k => match k with
  | 0 => .boolean
  | 1 => .object "ShellPair$Bytes"
  | 2 => .object "ShellPair$Chance"
  | 3 => .object "ShellPair$Curve"
  | 4 => .object "ShellPair$Exchange"
  | 5 => .object "ShellPair$Flow"
  | 6 => .object "ShellPair$Flow"
  | 7 => .array .int
  | 8 => .array (.object "ShellPair$Channel")
  | 9 => .object "ShellPair$Bytes"
  | 10 => .object "ShellPair$Bytes"
  | 11 => .object "ShellPair$Bytes"
  | 12 => .object "ShellPair$Bytes"
  | 13 => .int
  | 14 => .int
  | 15 => .boolean
  | 16 => .int
  | 17 => .int
  | 18 => .array (.object "ShellPair$Bytes")
  | 19 => .object "ShellPair$Store"
  | 20 => .int
  | 21 => .array .byte
  | 22 => .array .byte
  | 23 => .object "ShellPair$Bytes"
  | 24 => .array (.object "ShellPair$Bytes")
  | 25 => .array (.object "ShellPair$Bytes")
  | 26 => .array .int
  | 27 => .object "ShellPair$Sha2"
  | 28 => .object "ShellPair$Bytes"
  | 29 => .array .byte
  | 30 => .array .byte
  | 31 => .array .byte
  | 32 => .boolean
  | _ => .int
abbrev wsX90 : List Cond := u_ws RX9 TX9 34
theorem nmX9 : ∀ a, a < 34 → ∀ b, b < 34 → a ≠ b → (TX9 a).2.1 ≠ (TX9 b).2.1 := by decide +kernel
theorem tyX9_ok : ∀ k, k < 34 → parseFieldDescriptor (TX9 k).2.2.1 = some (tyX9 k) := by decide +kernel
abbrev cX9_init : ByteArray := prog_11_method_1_code
def yX9_init : MethodName := ⟨RX9, "<init>", "(LShellPair$Bytes;LShellPair$Sha2;LShellPair$Curve;)V"⟩
abbrev cX9_takesHostKey : ByteArray := prog_11_method_2_code
def yX9_takesHostKey : MethodName := ⟨RX9, "takesHostKey", "(LShellPair$Bytes;)V"⟩
abbrev cX9_hasHostKey : ByteArray := prog_11_method_3_code
def yX9_hasHostKey : MethodName := ⟨RX9, "hasHostKey", "()Z"⟩
abbrev cX9_accountOf : ByteArray := prog_11_method_4_code
def yX9_accountOf : MethodName := ⟨RX9, "accountOf", "(LShellPair$Bytes;II)I"⟩
abbrev cX9_addsAccount : ByteArray := prog_11_method_5_code
def yX9_addsAccount : MethodName := ⟨RX9, "addsAccount", "(LShellPair$Bytes;I)V"⟩
abbrev cX9_isPort : ByteArray := prog_11_method_6_code
def yX9_isPort : MethodName := ⟨RX9, "isPort", "(I)Z"⟩
abbrev cX9_opensPort : ByteArray := prog_11_method_7_code
def yX9_opensPort : MethodName := ⟨RX9, "opensPort", "(IZ)V"⟩
abbrev cX9_openPorts : ByteArray := prog_11_method_8_code
def yX9_openPorts : MethodName := ⟨RX9, "openPorts", "()I"⟩
abbrev cX9_connections : ByteArray := prog_11_method_9_code
def yX9_connections : MethodName := ⟨RX9, "connections", "()I"⟩
abbrev cX9_connectionAt : ByteArray := prog_11_method_10_code
def yX9_connectionAt : MethodName := ⟨RX9, "connectionAt", "(I)LShellPair$Channel;"⟩
abbrev cX9_forgetsAsking : ByteArray := prog_11_method_11_code
def yX9_forgetsAsking : MethodName := ⟨RX9, "forgetsAsking", "()V"⟩
abbrev cX9_asked : ByteArray := prog_11_method_12_code
def yX9_asked : MethodName := ⟨RX9, "asked", "()I"⟩
abbrev cX9_firstExchangeIsComplete : ByteArray := prog_11_method_13_code
def yX9_firstExchangeIsComplete : MethodName := ⟨RX9, "firstExchangeIsComplete", "()V"⟩
abbrev cX9_takesReply : ByteArray := prog_11_method_14_code
def yX9_takesReply : MethodName := ⟨RX9, "takesReply", "()I"⟩
abbrev cX9_answersAsking : ByteArray := prog_11_method_15_code
def yX9_answersAsking : MethodName := ⟨RX9, "answersAsking", "(I)I"⟩
abbrev cX9_givesService : ByteArray := prog_11_method_16_code
def yX9_givesService : MethodName := ⟨RX9, "givesService", "()I"⟩
abbrev cX9_judgesKey : ByteArray := prog_11_method_17_code
def yX9_judgesKey : MethodName := ⟨RX9, "judgesKey", "(I)I"⟩
abbrev cX9_judgesPassword : ByteArray := prog_11_method_18_code
def yX9_judgesPassword : MethodName := ⟨RX9, "judgesPassword", "(I)I"⟩
abbrev cX9_answersVerdict : ByteArray := prog_11_method_19_code
def yX9_answersVerdict : MethodName := ⟨RX9, "answersVerdict", "(I)I"⟩
abbrev cX9_takesOpen : ByteArray := prog_11_method_20_code
def yX9_takesOpen : MethodName := ⟨RX9, "takesOpen", "()I"⟩
abbrev cX9_mayConnect : ByteArray := prog_11_method_21_code
def yX9_mayConnect : MethodName := ⟨RX9, "mayConnect", "(I)Z"⟩
abbrev cX9_takesOpened : ByteArray := prog_11_method_22_code
def yX9_takesOpened : MethodName := ⟨RX9, "takesOpened", "()I"⟩
abbrev cX9_takesRefused : ByteArray := prog_11_method_23_code
def yX9_takesRefused : MethodName := ⟨RX9, "takesRefused", "()I"⟩
abbrev cX9_takesRequest : ByteArray := prog_11_method_24_code
def yX9_takesRequest : MethodName := ⟨RX9, "takesRequest", "(LShellPair$Channel;)I"⟩
abbrev cX9_worksOn : ByteArray := prog_11_method_25_code
def yX9_worksOn : MethodName := ⟨RX9, "worksOn", "(LShellPair$Channel;)V"⟩
abbrev cX9_endsChannel : ByteArray := prog_11_method_26_code
def yX9_endsChannel : MethodName := ⟨RX9, "endsChannel", "(LShellPair$Channel;)V"⟩
abbrev cX9_stageOf : ByteArray := prog_11_method_27_code
def yX9_stageOf : MethodName := ⟨RX9, "stageOf", "(LShellPair$Bytes;)I"⟩
abbrev cX9_takesInput : ByteArray := prog_11_method_28_code
def yX9_takesInput : MethodName := ⟨RX9, "takesInput", "(LShellPair$Channel;)V"⟩
abbrev cX9_fails : ByteArray := prog_11_method_29_code
def yX9_fails : MethodName := ⟨RX9, "fails", "(LShellPair$Channel;Ljava/lang/String;I)V"⟩
abbrev cX9_performs : ByteArray := prog_11_method_30_code
def yX9_performs : MethodName := ⟨RX9, "performs", "(LShellPair$Channel;)V"⟩
abbrev cX9_echoes : ByteArray := prog_11_method_31_code
def yX9_echoes : MethodName := ⟨RX9, "echoes", "(LShellPair$Channel;)V"⟩
abbrev cX9_exits : ByteArray := prog_11_method_32_code
def yX9_exits : MethodName := ⟨RX9, "exits", "(LShellPair$Channel;I)V"⟩
abbrev cX9_looksUp : ByteArray := prog_11_method_33_code
def yX9_looksUp : MethodName := ⟨RX9, "looksUp", "(LShellPair$Channel;I)V"⟩
abbrev cX9_putsDecimal : ByteArray := prog_11_method_34_code
def yX9_putsDecimal : MethodName := ⟨RX9, "putsDecimal", "(LShellPair$Bytes;I)V"⟩
abbrev cX9_wordsOf : ByteArray := prog_11_method_35_code
def yX9_wordsOf : MethodName := ⟨RX9, "wordsOf", "(LShellPair$Bytes;)I"⟩
abbrev cX9_wordAt : ByteArray := prog_11_method_36_code
def yX9_wordAt : MethodName := ⟨RX9, "wordAt", "(LShellPair$Bytes;I)I"⟩
abbrev cX9_wordSize : ByteArray := prog_11_method_37_code
def yX9_wordSize : MethodName := ⟨RX9, "wordSize", "(LShellPair$Bytes;I)I"⟩
abbrev cX9_isWord : ByteArray := prog_11_method_38_code
def yX9_isWord : MethodName := ⟨RX9, "isWord", "(LShellPair$Bytes;ILjava/lang/String;)Z"⟩
def RX10 : String := "ShellPair$Sha2"
def TX10 : u_T := fun k => match k with
  | 0 => ("ShellPair$Sha2", "words", "[I", true)
  | 1 => ("ShellPair$Sha2", "sums", "[I", true)
  | 2 => ("ShellPair$Sha2", "longWords", "[J", true)
  | _ => ("ShellPair$Sha2", "longSums", "[J", true)
def tyX10 : Nat → FieldType := fun k => match k with
  | 0 => .array .int
  | 1 => .array .int
  | 2 => .array .long
  | _ => .array .long
abbrev wsX100 : List Cond := u_ws RX10 TX10 4
theorem nmX10 : ∀ a, a < 4 → ∀ b, b < 4 → a ≠ b → (TX10 a).2.1 ≠ (TX10 b).2.1 := by decide +kernel
theorem tyX10_ok : ∀ k, k < 4 → parseFieldDescriptor (TX10 k).2.2.1 = some (tyX10 k) := by decide +kernel
abbrev cX10_init : ByteArray := prog_12_method_1_code
def yX10_init : MethodName := ⟨RX10, "<init>", "()V"⟩
abbrev cX10_digest256 : ByteArray := prog_12_method_2_code
def yX10_digest256 : MethodName := ⟨RX10, "digest256", "([BI[BII[B)V"⟩
abbrev cX10_digest512 : ByteArray := prog_12_method_3_code
def yX10_digest512 : MethodName := ⟨RX10, "digest512", "([BI[BII[B)V"⟩
abbrev cX10_compress512 : ByteArray := prog_12_method_4_code
def yX10_compress512 : MethodName := ⟨RX10, "compress512", "()V"⟩
def RX11 : String := "ShellPair$Store"
def TX11 : u_T := fun k => match k with
  | 0 => ("ShellPair$Store", "names", "[LShellPair$Bytes;", true)
  | 1 => ("ShellPair$Store", "contents", "[LShellPair$Bytes;", true)
  | 2 => ("ShellPair$Store", "size", "I", false)
  | _ => ("ShellPair$Store", "sought", "LShellPair$Bytes;", true)
def tyX11 : Nat → FieldType := fun k => match k with
  | 0 => .array (.object "ShellPair$Bytes")
  | 1 => .array (.object "ShellPair$Bytes")
  | 2 => .int
  | _ => .object "ShellPair$Bytes"
abbrev wsX110 : List Cond := u_ws RX11 TX11 4
theorem nmX11 : ∀ a, a < 4 → ∀ b, b < 4 → a ≠ b → (TX11 a).2.1 ≠ (TX11 b).2.1 := by decide +kernel
theorem tyX11_ok : ∀ k, k < 4 → parseFieldDescriptor (TX11 k).2.2.1 = some (tyX11 k) := by decide +kernel
abbrev cX11_init : ByteArray := prog_13_method_1_code
def yX11_init : MethodName := ⟨RX11, "<init>", "()V"⟩
abbrev cX11_total : ByteArray := prog_13_method_2_code
def yX11_total : MethodName := ⟨RX11, "total", "()I"⟩
abbrev cX11_placeOf : ByteArray := prog_13_method_3_code
def yX11_placeOf : MethodName := ⟨RX11, "placeOf", "(LShellPair$Bytes;II)I"⟩
abbrev cX11_keeps : ByteArray := prog_13_method_4_code
def yX11_keeps : MethodName := ⟨RX11, "keeps", "(LShellPair$Bytes;IILShellPair$Bytes;)Z"⟩
abbrev cX11_makesPlace : ByteArray := prog_13_method_5_code
def yX11_makesPlace : MethodName := ⟨RX11, "makesPlace", "()I"⟩
abbrev cX11_removes : ByteArray := prog_13_method_6_code
def yX11_removes : MethodName := ⟨RX11, "removes", "(I)V"⟩
abbrev cX11_lists : ByteArray := prog_13_method_7_code
def yX11_lists : MethodName := ⟨RX11, "lists", "(LShellPair$Bytes;)V"⟩
def RX12 : String := "ShellPair"
def TX12 : u_T := fun k => match k with
  | 0 => ("ShellPair", "tape", "LShellPair$Bytes;", true)
  | 1 => ("ShellPair", "wires", "[LShellPair$Bytes;", true)
  | 2 => ("ShellPair", "client", "LShellPair$Client;", true)
  | _ => ("ShellPair", "server", "LShellPair$Server;", true)
def tyX12 : Nat → FieldType := fun k => match k with
  | 0 => .object "ShellPair$Bytes"
  | 1 => .array (.object "ShellPair$Bytes")
  | 2 => .object "ShellPair$Client"
  | _ => .object "ShellPair$Server"
abbrev wsX120 : List Cond := u_ws RX12 TX12 4
theorem nmX12 : ∀ a, a < 4 → ∀ b, b < 4 → a ≠ b → (TX12 a).2.1 ≠ (TX12 b).2.1 := by decide +kernel
theorem tyX12_ok : ∀ k, k < 4 → parseFieldDescriptor (TX12 k).2.2.1 = some (tyX12 k) := by decide +kernel
abbrev cX12_init : ByteArray := prog_1_method_1_code
def yX12_init : MethodName := ⟨RX12, "<init>", "()V"⟩
abbrev cX12_feed : ByteArray := prog_1_method_2_code
def yX12_feed : MethodName := ⟨RX12, "feed", "(IIIII)I"⟩
abbrev cX12_end : ByteArray := prog_1_method_3_code
def yX12_end : MethodName := ⟨RX12, "end", "(I)I"⟩
abbrev cX12_secret : ByteArray := prog_1_method_4_code
def yX12_secret : MethodName := ⟨RX12, "secret", "(I)V"⟩
abbrev cX12_user : ByteArray := prog_1_method_5_code
def yX12_user : MethodName := ⟨RX12, "user", "(IZ)I"⟩
abbrev cX12_allow : ByteArray := prog_1_method_6_code
def yX12_allow : MethodName := ⟨RX12, "allow", "(I)V"⟩
abbrev cX12_set : ByteArray := prog_1_method_7_code
def yX12_set : MethodName := ⟨RX12, "set", "(III)I"⟩
abbrev cX12_port : ByteArray := prog_1_method_8_code
def yX12_port : MethodName := ⟨RX12, "port", "(IZ)V"⟩
abbrev cX12_start : ByteArray := prog_1_method_9_code
def yX12_start : MethodName := ⟨RX12, "start", "()V"⟩
abbrev cX12_move : ByteArray := prog_1_method_10_code
def yX12_move : MethodName := ⟨RX12, "move", "(II)I"⟩
abbrev cX12_flip : ByteArray := prog_1_method_11_code
def yX12_flip : MethodName := ⟨RX12, "flip", "(III)I"⟩
abbrev cX12_seen : ByteArray := prog_1_method_12_code
def yX12_seen : MethodName := ⟨RX12, "seen", "(II)I"⟩
abbrev cX12_inject : ByteArray := prog_1_method_13_code
def yX12_inject : MethodName := ⟨RX12, "inject", "(I)I"⟩
abbrev cX12_open : ByteArray := prog_1_method_14_code
def yX12_open : MethodName := ⟨RX12, "open", "(I)I"⟩
abbrev cX12_exec : ByteArray := prog_1_method_15_code
def yX12_exec : MethodName := ⟨RX12, "exec", "(I)V"⟩
abbrev cX12_write : ByteArray := prog_1_method_16_code
def yX12_write : MethodName := ⟨RX12, "write", "(IZ)I"⟩
abbrev cX12_read : ByteArray := prog_1_method_17_code
def yX12_read : MethodName := ⟨RX12, "read", "(III)J"⟩
abbrev cX12_finish : ByteArray := prog_1_method_18_code
def yX12_finish : MethodName := ⟨RX12, "finish", "(II)V"⟩
abbrev cX12_rekey : ByteArray := prog_1_method_19_code
def yX12_rekey : MethodName := ⟨RX12, "rekey", "(I)V"⟩
abbrev cX12_quit : ByteArray := prog_1_method_20_code
def yX12_quit : MethodName := ⟨RX12, "quit", "(I)V"⟩
abbrev cX12_about : ByteArray := prog_1_method_21_code
def yX12_about : MethodName := ⟨RX12, "about", "(II)I"⟩
abbrev cX12_channel : ByteArray := prog_1_method_22_code
def yX12_channel : MethodName := ⟨RX12, "channel", "(II)I"⟩
abbrev cX12_count : ByteArray := prog_1_method_23_code
def yX12_count : MethodName := ⟨RX12, "count", "(I)I"⟩
abbrev cX12_endOf : ByteArray := prog_1_method_24_code
def yX12_endOf : MethodName := ⟨RX12, "endOf", "(I)LShellPair$End;"⟩
abbrev cX12_isSetting : ByteArray := prog_1_method_25_code
def yX12_isSetting : MethodName := ⟨RX12, "isSetting", "(II)Z"⟩
def RX13 : String := "ShellPairModel$Cipher"
def TX13 : u_T := fun k => match k with
  | 0 => ("ShellPairModel$Cipher", "substitute", "[I", true)
  | 1 => ("ShellPairModel$Cipher", "round", "[I", true)
  | 2 => ("ShellPairModel$Cipher", "state", "[I", true)
  | 3 => ("ShellPairModel$Cipher", "moved", "[I", true)
  | 4 => ("ShellPairModel$Cipher", "four", "[I", true)
  | 5 => ("ShellPairModel$Cipher", "rounds", "I", false)
  | 6 => ("ShellPairModel$Cipher", "counter", "[I", true)
  | 7 => ("ShellPairModel$Cipher", "cipher", "I", false)
  | 8 => ("ShellPairModel$Cipher", "mac", "I", false)
  | _ => ("ShellPairModel$Cipher", "secret", "[B", true)
def tyX13 : Nat → FieldType := fun k => match k with
  | 0 => .array .int
  | 1 => .array .int
  | 2 => .array .int
  | 3 => .array .int
  | 4 => .array .int
  | 5 => .int
  | 6 => .array .int
  | 7 => .int
  | 8 => .int
  | _ => .array .byte
abbrev wsX130 : List Cond := u_ws RX13 TX13 10
theorem nmX13 : ∀ a, a < 10 → ∀ b, b < 10 → a ≠ b → (TX13 a).2.1 ≠ (TX13 b).2.1 := by decide +kernel
theorem tyX13_ok : ∀ k, k < 10 → parseFieldDescriptor (TX13 k).2.2.1 = some (tyX13 k) := by decide +kernel
abbrev cX13_init : ByteArray := prog_16_method_1_code
def yX13_init : MethodName := ⟨RX13, "<init>", "([I)V"⟩
abbrev cX13_box : ByteArray := prog_16_method_2_code
def yX13_box : MethodName := ⟨RX13, "box", "()[I"⟩
abbrev cX13_times : ByteArray := prog_16_method_3_code
def yX13_times : MethodName := ⟨RX13, "times", "(II)I"⟩
abbrev cX13_key : ByteArray := prog_16_method_4_code
def yX13_key : MethodName := ⟨RX13, "key", "([BI)V"⟩
abbrev cX13_turn : ByteArray := prog_16_method_5_code
def yX13_turn : MethodName := ⟨RX13, "turn", "()V"⟩
abbrev cX13_cover : ByteArray := prog_16_method_6_code
def yX13_cover : MethodName := ⟨RX13, "cover", "([BII)V"⟩
def RX14 : String := "ShellPairModel$Curve"
def TX14 : u_T := fun k => match k with
  | 0 => ("ShellPairModel$Numbers", "product", "[J", true)
  | 1 => ("ShellPairModel$Numbers", "sum", "[J", true)
  | 2 => ("ShellPairModel$Numbers", "u", "[J", true)
  | 3 => ("ShellPairModel$Numbers", "v", "[J", true)
  | 4 => ("ShellPairModel$Numbers", "x1", "[J", true)
  | 5 => ("ShellPairModel$Numbers", "x2", "[J", true)
  | 6 => ("ShellPairModel$Curve", "hasher", "LShellPairModel$Hash;", true)
  | 7 => ("ShellPairModel$Curve", "hashed", "[B", true)
  | 8 => ("ShellPairModel$Curve", "p", "[J", true)
  | 9 => ("ShellPairModel$Curve", "pt", "[J", true)
  | 10 => ("ShellPairModel$Curve", "order", "[J", true)
  | 11 => ("ShellPairModel$Curve", "ot", "[J", true)
  | 12 => ("ShellPairModel$Curve", "d", "[J", true)
  | 13 => ("ShellPairModel$Curve", "root", "[J", true)
  | 14 => ("ShellPairModel$Curve", "baseX", "[J", true)
  | 15 => ("ShellPairModel$Curve", "baseY", "[J", true)
  | 16 => ("ShellPairModel$Curve", "px", "[J", true)
  | 17 => ("ShellPairModel$Curve", "py", "[J", true)
  | 18 => ("ShellPairModel$Curve", "qx", "[J", true)
  | 19 => ("ShellPairModel$Curve", "qy", "[J", true)
  | 20 => ("ShellPairModel$Curve", "rx", "[J", true)
  | 21 => ("ShellPairModel$Curve", "ry", "[J", true)
  | 22 => ("ShellPairModel$Curve", "a", "[J", true)
  | 23 => ("ShellPairModel$Curve", "b", "[J", true)
  | 24 => ("ShellPairModel$Curve", "c", "[J", true)
  | 25 => ("ShellPairModel$Curve", "e", "[J", true)
  | 26 => ("ShellPairModel$Curve", "f", "[J", true)
  | 27 => ("ShellPairModel$Curve", "g", "[J", true)
  | 28 => ("ShellPairModel$Curve", "pz", "[J", true)
  | 29 => ("ShellPairModel$Curve", "sx", "[J", true)
  | 30 => ("ShellPairModel$Curve", "sy", "[J", true)
  | 31 => ("ShellPairModel$Curve", "sz", "[J", true)
  | 32 => ("ShellPairModel$Curve", "one", "[J", true)
  | 33 => ("ShellPairModel$Curve", "scalar", "[J", true)
  | 34 => ("ShellPairModel$Curve", "secret", "[J", true)
  | 35 => ("ShellPairModel$Curve", "number", "[J", true)
  | 36 => ("ShellPairModel$Curve", "ten", "[J", true)
  | 37 => ("ShellPairModel$Curve", "row", "[B", true)
  | 38 => ("ShellPairModel$Curve", "open", "[B", true)
  | 39 => ("ShellPairModel$Curve", "first", "[B", true)
  | 40 => ("ShellPairModel$Curve", "work", "[B", false)
  | _ => ("ShellPairModel$Curve", "low", "[I", true)
def tyX14 : Nat → FieldType := fun k => match k with
  | 0 => .array .long
  | 1 => .array .long
  | 2 => .array .long
  | 3 => .array .long
  | 4 => .array .long
  | 5 => .array .long
  | 6 => .object "ShellPairModel$Hash"
  | 7 => .array .byte
  | 8 => .array .long
  | 9 => .array .long
  | 10 => .array .long
  | 11 => .array .long
  | 12 => .array .long
  | 13 => .array .long
  | 14 => .array .long
  | 15 => .array .long
  | 16 => .array .long
  | 17 => .array .long
  | 18 => .array .long
  | 19 => .array .long
  | 20 => .array .long
  | 21 => .array .long
  | 22 => .array .long
  | 23 => .array .long
  | 24 => .array .long
  | 25 => .array .long
  | 26 => .array .long
  | 27 => .array .long
  | 28 => .array .long
  | 29 => .array .long
  | 30 => .array .long
  | 31 => .array .long
  | 32 => .array .long
  | 33 => .array .long
  | 34 => .array .long
  | 35 => .array .long
  | 36 => .array .long
  | 37 => .array .byte
  | 38 => .array .byte
  | 39 => .array .byte
  | 40 => .array .byte
  | _ => .array .int
abbrev wsX140 : List Cond := u_ws RX14 TX14 42
theorem nmX14 : ∀ a, a < 42 → ∀ b, b < 42 → a ≠ b → (TX14 a).2.1 ≠ (TX14 b).2.1 := by decide +kernel
theorem tyX14_ok : ∀ k, k < 42 → parseFieldDescriptor (TX14 k).2.2.1 = some (tyX14 k) := by decide +kernel
abbrev cX14_init : ByteArray := prog_17_method_1_code
def yX14_init : MethodName := ⟨RX14, "<init>", "(LShellPairModel$Hash;)V"⟩
abbrev cX14_power : ByteArray := prog_17_method_2_code
def yX14_power : MethodName := ⟨RX14, "power", "([J[J[J)V"⟩
abbrev cX14_decode : ByteArray := prog_17_method_3_code
def yX14_decode : MethodName := ⟨RX14, "decode", "()Z"⟩
abbrev cX14_encode : ByteArray := prog_17_method_4_code
def yX14_encode : MethodName := ⟨RX14, "encode", "([B[J[J)V"⟩
abbrev cX14_join : ByteArray := prog_17_method_5_code
def yX14_join : MethodName := ⟨RX14, "join", "([J[J[J[J[J[J)V"⟩
abbrev cX14_add : ByteArray := prog_17_method_6_code
def yX14_add : MethodName := ⟨RX14, "add", "([J[J[J[J)V"⟩
abbrev cX14_divide : ByteArray := prog_17_method_7_code
def yX14_divide : MethodName := ⟨RX14, "divide", "()V"⟩
abbrev cX14_multiply : ByteArray := prog_17_method_8_code
def yX14_multiply : MethodName := ⟨RX14, "multiply", "([J)V"⟩
abbrev cX14_fromBase : ByteArray := prog_17_method_9_code
def yX14_fromBase : MethodName := ⟨RX14, "fromBase", "([J)V"⟩
abbrev cX14_hashNumber : ByteArray := prog_17_method_10_code
def yX14_hashNumber : MethodName := ⟨RX14, "hashNumber", "([J)V"⟩
abbrev cX14_clamped : ByteArray := prog_17_method_11_code
def yX14_clamped : MethodName := ⟨RX14, "clamped", "([J[BI)V"⟩
abbrev cX14_hash : ByteArray := prog_17_method_12_code
def yX14_hash : MethodName := ⟨RX14, "hash", "([BI)V"⟩
abbrev cX14_opened : ByteArray := prog_17_method_13_code
def yX14_opened : MethodName := ⟨RX14, "opened", "([BI)V"⟩
abbrev cX14_hashMessage : ByteArray := prog_17_method_14_code
def yX14_hashMessage : MethodName := ⟨RX14, "hashMessage", "(I[BII)V"⟩
abbrev cX14_publicSigning : ByteArray := prog_17_method_15_code
def yX14_publicSigning : MethodName := ⟨RX14, "publicSigning", "([BI[B)V"⟩
abbrev cX14_sign : ByteArray := prog_17_method_16_code
def yX14_sign : MethodName := ⟨RX14, "sign", "([BI[BII[B)V"⟩
abbrev cX14_good : ByteArray := prog_17_method_17_code
def yX14_good : MethodName := ⟨RX14, "good", "([BI[BII[BII)Z"⟩
abbrev cX14_ladder : ByteArray := prog_17_method_18_code
def yX14_ladder : MethodName := ⟨RX14, "ladder", "()V"⟩
abbrev cX14_step : ByteArray := prog_17_method_19_code
def yX14_step : MethodName := ⟨RX14, "step", "([J[J[J[J)V"⟩
abbrev cX14_agree : ByteArray := prog_17_method_20_code
def yX14_agree : MethodName := ⟨RX14, "agree", "([BI[BI[B)Z"⟩
def RX15 : String := "ShellPairModel$End"
def TX15 : u_T := fun k => match k with
  | 0 => ("ShellPairModel$End", "e", "I", true)
  | 1 => ("ShellPairModel$End", "set", "[I", true)
  | 2 => ("ShellPairModel$End", "seed", "[B", true)
  | 3 => ("ShellPairModel$End", "blocks", "J", false)
  | 4 => ("ShellPairModel$End", "block", "[B", true)
  | 5 => ("ShellPairModel$End", "left", "I", false)
  | 6 => ("ShellPairModel$End", "state", "I", false)
  | 7 => ("ShellPairModel$End", "reason", "I", false)
  | 8 => ("ShellPairModel$End", "sent", "I", false)
  | 9 => ("ShellPairModel$End", "taken", "I", false)
  | 10 => ("ShellPairModel$End", "sequenceOut", "J", false)
  | 11 => ("ShellPairModel$End", "sequenceIn", "J", false)
  | 12 => ("ShellPairModel$End", "bytesSent", "J", false)
  | 13 => ("ShellPairModel$End", "line", "LShellPairModel$Row;", true)
  | 14 => ("ShellPairModel$End", "lineDone", "Z", false)
  | 15 => ("ShellPairModel$End", "passed", "I", false)
  | 16 => ("ShellPairModel$End", "version", "[B", false)
  | 17 => ("ShellPairModel$End", "out", "LShellPairModel$Cipher;", true)
  | 18 => ("ShellPairModel$End", "in", "LShellPairModel$Cipher;", true)
  | 19 => ("ShellPairModel$End", "packet", "[B", true)
  | 20 => ("ShellPairModel$End", "have", "I", false)
  | 21 => ("ShellPairModel$End", "whole", "I", false)
  | 22 => ("ShellPairModel$End", "initSent", "Z", false)
  | 23 => ("ShellPairModel$End", "initCame", "Z", false)
  | 24 => ("ShellPairModel$End", "newSent", "Z", false)
  | 25 => ("ShellPairModel$End", "newCame", "Z", false)
  | 26 => ("ShellPairModel$End", "skips", "Z", false)
  | 27 => ("ShellPairModel$End", "step", "I", false)
  | 28 => ("ShellPairModel$End", "exchanges", "I", false)
  | 29 => ("ShellPairModel$End", "own", "[B", false)
  | 30 => ("ShellPairModel$End", "others", "[B", false)
  | 31 => ("ShellPairModel$End", "chosen", "[I", true)
  | 32 => ("ShellPairModel$End", "secret", "[B", false)
  | 33 => ("ShellPairModel$End", "open", "[B", false)
  | 34 => ("ShellPairModel$End", "shared", "[B", false)
  | 35 => ("ShellPairModel$End", "hash", "[B", false)
  | 36 => ("ShellPairModel$End", "held", "LShellPairModel$Row;", false)
  | 37 => ("ShellPairModel$End", "spare", "LShellPairModel$Row;", false)
  | 38 => ("ShellPairModel$End", "failures", "I", false)
  | 39 => ("ShellPairModel$End", "serviceAsked", "Z", false)
  | 40 => ("ShellPairModel$End", "served", "Z", false)
  | 41 => ("ShellPairModel$End", "proven", "Z", false)
  | 42 => ("ShellPairModel$End", "triedKey", "Z", false)
  | 43 => ("ShellPairModel$End", "triedWord", "Z", false)
  | 44 => ("ShellPairModel$End", "answerDue", "Z", false)
  | 45 => ("ShellPairModel$End", "queryDue", "Z", false)
  | _ => ("ShellPairModel$End", "sides", "[LShellPairModel$Side;", true)
def tyX15 : Nat → FieldType := fun k => match k with
  | 0 => .int
  | 1 => .array .int
  | 2 => .array .byte
  | 3 => .long
  | 4 => .array .byte
  | 5 => .int
  | 6 => .int
  | 7 => .int
  | 8 => .int
  | 9 => .int
  | 10 => .long
  | 11 => .long
  | 12 => .long
  | 13 => .object "ShellPairModel$Row"
  | 14 => .boolean
  | 15 => .int
  | 16 => .array .byte
  | 17 => .object "ShellPairModel$Cipher"
  | 18 => .object "ShellPairModel$Cipher"
  | 19 => .array .byte
  | 20 => .int
  | 21 => .int
  | 22 => .boolean
  | 23 => .boolean
  | 24 => .boolean
  | 25 => .boolean
  | 26 => .boolean
  | 27 => .int
  | 28 => .int
  | 29 => .array .byte
  | 30 => .array .byte
  | 31 => .array .int
  | 32 => .array .byte
  | 33 => .array .byte
  | 34 => .array .byte
  | 35 => .array .byte
  | 36 => .object "ShellPairModel$Row"
  | 37 => .object "ShellPairModel$Row"
  | 38 => .int
  | 39 => .boolean
  | 40 => .boolean
  | 41 => .boolean
  | 42 => .boolean
  | 43 => .boolean
  | 44 => .boolean
  | 45 => .boolean
  | _ => .array (.object "ShellPairModel$Side")
abbrev wsX150 : List Cond := u_ws RX15 TX15 47
theorem nmX15 : ∀ a, a < 47 → ∀ b, b < 47 → a ≠ b → (TX15 a).2.1 ≠ (TX15 b).2.1 := by decide +kernel
theorem tyX15_ok : ∀ k, k < 47 → parseFieldDescriptor (TX15 k).2.2.1 = some (tyX15 k) := by decide +kernel
abbrev cX15_init : ByteArray := prog_18_method_1_code
def yX15_init : MethodName := ⟨RX15, "<init>", "(I[I)V"⟩
def RX16 : String := "ShellPairModel$Fields"
def TX16 : u_T := fun k => match k with
  | 0 => ("ShellPairModel$Fields", "b", "[B", false)
  | 1 => ("ShellPairModel$Fields", "at", "I", false)
  | 2 => ("ShellPairModel$Fields", "end", "I", false)
  | 3 => ("ShellPairModel$Fields", "bad", "Z", false)
  | 4 => ("ShellPairModel$Fields", "from", "I", false)
  | _ => ("ShellPairModel$Fields", "size", "I", false)
def tyX16 : Nat → FieldType := fun k => match k with
  | 0 => .array .byte
  | 1 => .int
  | 2 => .int
  | 3 => .boolean
  | 4 => .int
  | _ => .int
abbrev wsX160 : List Cond := u_ws RX16 TX16 6
theorem nmX16 : ∀ a, a < 6 → ∀ b, b < 6 → a ≠ b → (TX16 a).2.1 ≠ (TX16 b).2.1 := by decide +kernel
theorem tyX16_ok : ∀ k, k < 6 → parseFieldDescriptor (TX16 k).2.2.1 = some (tyX16 k) := by decide +kernel
abbrev cX16_init : ByteArray := prog_19_method_1_code
def yX16_init : MethodName := ⟨RX16, "<init>", "()V"⟩
abbrev cX16_on : ByteArray := prog_19_method_2_code
def yX16_on : MethodName := ⟨RX16, "on", "([BII)LShellPairModel$Fields;"⟩
abbrev cX16_four : ByteArray := prog_19_method_3_code
def yX16_four : MethodName := ⟨RX16, "four", "()J"⟩
abbrev cX16_one : ByteArray := prog_19_method_4_code
def yX16_one : MethodName := ⟨RX16, "one", "()I"⟩
abbrev cX16_pass : ByteArray := prog_19_method_5_code
def yX16_pass : MethodName := ⟨RX16, "pass", "(I)V"⟩
abbrev cX16_text : ByteArray := prog_19_method_6_code
def yX16_text : MethodName := ⟨RX16, "text", "()LShellPairModel$Fields;"⟩
abbrev cX16_is : ByteArray := prog_19_method_7_code
def yX16_is : MethodName := ⟨RX16, "is", "(Ljava/lang/String;)Z"⟩
abbrev cX16_is_ : ByteArray := prog_19_method_8_code
def yX16_is_ : MethodName := ⟨RX16, "is", "([B)Z"⟩
abbrev cX16_bytes : ByteArray := prog_19_method_9_code
def yX16_bytes : MethodName := ⟨RX16, "bytes", "()[B"⟩
abbrev cX16_done : ByteArray := prog_19_method_10_code
def yX16_done : MethodName := ⟨RX16, "done", "()Z"⟩
def RX17 : String := "ShellPairModel$Hash"
def TX17 : u_T := fun k => match k with
  | 0 => ("ShellPairModel$Hash", "roots", "[J", true)
  | 1 => ("ShellPairModel$Hash", "starts", "[J", true)
  | 2 => ("ShellPairModel$Hash", "words", "[J", true)
  | 3 => ("ShellPairModel$Hash", "state", "[J", true)
  | 4 => ("ShellPairModel$Hash", "left", "[J", true)
  | 5 => ("ShellPairModel$Hash", "cube", "[J", true)
  | 6 => ("ShellPairModel$Hash", "wide", "Z", false)
  | 7 => ("ShellPairModel$Hash", "out", "[B", true)
  | 8 => ("ShellPairModel$Hash", "pad", "[B", true)
  | 9 => ("ShellPairModel$Hash", "work", "[B", true)
  | 10 => ("ShellPairModel$Hash", "info", "[B", true)
  | 11 => ("ShellPairModel$Hash", "last", "[B", true)
  | 12 => ("ShellPairModel$Hash", "name", "[B", true)
  | _ => ("ShellPairModel$Hash", "empties", "[[B", true)
def tyX17 : Nat → FieldType := fun k => match k with
  | 0 => .array .long
  | 1 => .array .long
  | 2 => .array .long
  | 3 => .array .long
  | 4 => .array .long
  | 5 => .array .long
  | 6 => .boolean
  | 7 => .array .byte
  | 8 => .array .byte
  | 9 => .array .byte
  | 10 => .array .byte
  | 11 => .array .byte
  | 12 => .array .byte
  | _ => .array (.array .byte)
abbrev wsX170 : List Cond := u_ws RX17 TX17 14
theorem nmX17 : ∀ a, a < 14 → ∀ b, b < 14 → a ≠ b → (TX17 a).2.1 ≠ (TX17 b).2.1 := by decide +kernel
theorem tyX17_ok : ∀ k, k < 14 → parseFieldDescriptor (TX17 k).2.2.1 = some (tyX17 k) := by decide +kernel
abbrev cX17_init : ByteArray := prog_20_method_1_code
def yX17_init : MethodName := ⟨RX17, "<init>", "()V"⟩
abbrev cX17_prime : ByteArray := prog_20_method_2_code
def yX17_prime : MethodName := ⟨RX17, "prime", "(I)I"⟩
abbrev cX17_root : ByteArray := prog_20_method_3_code
def yX17_root : MethodName := ⟨RX17, "root", "(II)J"⟩
abbrev cX17_fits : ByteArray := prog_20_method_4_code
def yX17_fits : MethodName := ⟨RX17, "fits", "(JJII)Z"⟩
abbrev cX17_times : ByteArray := prog_20_method_5_code
def yX17_times : MethodName := ⟨RX17, "times", "(JJ)V"⟩
abbrev cX17_size : ByteArray := prog_20_method_6_code
def yX17_size : MethodName := ⟨RX17, "size", "(I)I"⟩
abbrev cX17_block : ByteArray := prog_20_method_7_code
def yX17_block : MethodName := ⟨RX17, "block", "(I)I"⟩
abbrev cX17_blocksOf : ByteArray := prog_20_method_8_code
def yX17_blocksOf : MethodName := ⟨RX17, "blocksOf", "(II)I"⟩
abbrev cX17_turned : ByteArray := prog_20_method_9_code
def yX17_turned : MethodName := ⟨RX17, "turned", "(JI)J"⟩
abbrev cX17_mixed : ByteArray := prog_20_method_10_code
def yX17_mixed : MethodName := ⟨RX17, "mixed", "(JIII)J"⟩
abbrev cX17_shifted : ByteArray := prog_20_method_11_code
def yX17_shifted : MethodName := ⟨RX17, "shifted", "(JIII)J"⟩
abbrev cX17_fit : ByteArray := prog_20_method_12_code
def yX17_fit : MethodName := ⟨RX17, "fit", "(J)J"⟩
abbrev cX17_padded : ByteArray := prog_20_method_13_code
def yX17_padded : MethodName := ⟨RX17, "padded", "([BIIII)I"⟩
abbrev cX17_hash : ByteArray := prog_20_method_14_code
def yX17_hash : MethodName := ⟨RX17, "hash", "(I[BII)V"⟩
abbrev cX17_over : ByteArray := prog_20_method_15_code
def yX17_over : MethodName := ⟨RX17, "over", "()V"⟩
abbrev cX17_hash_ : ByteArray := prog_20_method_16_code
def yX17_hash_ : MethodName := ⟨RX17, "hash", "(I[BII[BI)V"⟩
abbrev cX17_keyed : ByteArray := prog_20_method_17_code
def yX17_keyed : MethodName := ⟨RX17, "keyed", "(I[BII[BI[BI)V"⟩
def RX18 : String := "ShellPairModel$Numbers"
def TX18 : u_T := fun k => match k with
  | _ => ("", "", "", false)
def tyX18 : Nat → FieldType := fun k => match k with
  | _ => .int
abbrev wsX180 : List Cond := u_ws RX18 TX18 0
theorem nmX18 : ∀ a, a < 0 → ∀ b, b < 0 → a ≠ b → (TX18 a).2.1 ≠ (TX18 b).2.1 := by decide +kernel
theorem tyX18_ok : ∀ k, k < 0 → parseFieldDescriptor (TX18 k).2.2.1 = some (tyX18 k) := by decide +kernel
abbrev cX18_init : ByteArray := prog_21_method_1_code
def yX18_init : MethodName := ⟨RX18, "<init>", "()V"⟩
abbrev cX18_copy : ByteArray := prog_21_method_2_code
def yX18_copy : MethodName := ⟨RX18, "copy", "([J[J)V"⟩
abbrev cX18_set : ByteArray := prog_21_method_3_code
def yX18_set : MethodName := ⟨RX18, "set", "([JI)V"⟩
abbrev cX18_zero : ByteArray := prog_21_method_4_code
def yX18_zero : MethodName := ⟨RX18, "zero", "([J)Z"⟩
abbrev cX18_below : ByteArray := prog_21_method_5_code
def yX18_below : MethodName := ⟨RX18, "below", "([J[J)Z"⟩
abbrev cX18_alike : ByteArray := prog_21_method_6_code
def yX18_alike : MethodName := ⟨RX18, "alike", "([J[J)Z"⟩
abbrev cX18_less : ByteArray := prog_21_method_7_code
def yX18_less : MethodName := ⟨RX18, "less", "([J[J[J)V"⟩
abbrev cX18_plus : ByteArray := prog_21_method_8_code
def yX18_plus : MethodName := ⟨RX18, "plus", "([J[J[J[J)V"⟩
abbrev cX18_minus : ByteArray := prog_21_method_9_code
def yX18_minus : MethodName := ⟨RX18, "minus", "([J[J[J[J)V"⟩
abbrev cX18_remainders : ByteArray := prog_21_method_10_code
def yX18_remainders : MethodName := ⟨RX18, "remainders", "([J[J[J)V"⟩
abbrev cX18_reduce : ByteArray := prog_21_method_11_code
def yX18_reduce : MethodName := ⟨RX18, "reduce", "([J[J[J)V"⟩
abbrev cX18_times : ByteArray := prog_21_method_12_code
def yX18_times : MethodName := ⟨RX18, "times", "([J[J[J[J[J)V"⟩
abbrev cX18_half : ByteArray := prog_21_method_13_code
def yX18_half : MethodName := ⟨RX18, "half", "([J[J)V"⟩
abbrev cX18_halve : ByteArray := prog_21_method_14_code
def yX18_halve : MethodName := ⟨RX18, "halve", "([J)V"⟩
abbrev cX18_one : ByteArray := prog_21_method_15_code
def yX18_one : MethodName := ⟨RX18, "one", "([J)Z"⟩
abbrev cX18_inverse : ByteArray := prog_21_method_16_code
def yX18_inverse : MethodName := ⟨RX18, "inverse", "([J[J[J)V"⟩
abbrev cX18_bit : ByteArray := prog_21_method_17_code
def yX18_bit : MethodName := ⟨RX18, "bit", "([JI)I"⟩
def RX19 : String := "ShellPairModel$Row"
def TX19 : u_T := fun k => match k with
  | 0 => ("ShellPairModel$Row", "b", "[B", false)
  | 1 => ("ShellPairModel$Row", "n", "I", false)
  | _ => ("ShellPairModel$Row", "from", "I", false)
def tyX19 : Nat → FieldType := fun k => match k with
  | 0 => .array .byte
  | 1 => .int
  | _ => .int
abbrev wsX190 : List Cond := u_ws RX19 TX19 3
theorem nmX19 : ∀ a, a < 3 → ∀ b, b < 3 → a ≠ b → (TX19 a).2.1 ≠ (TX19 b).2.1 := by decide +kernel
theorem tyX19_ok : ∀ k, k < 3 → parseFieldDescriptor (TX19 k).2.2.1 = some (tyX19 k) := by decide +kernel
abbrev cX19_init : ByteArray := prog_22_method_1_code
def yX19_init : MethodName := ⟨RX19, "<init>", "()V"⟩
abbrev cX19_init_ : ByteArray := prog_22_method_2_code
def yX19_init_ : MethodName := ⟨RX19, "<init>", "(I)V"⟩
abbrev cX19_size : ByteArray := prog_22_method_3_code
def yX19_size : MethodName := ⟨RX19, "size", "()I"⟩
abbrev cX19_clear : ByteArray := prog_22_method_4_code
def yX19_clear : MethodName := ⟨RX19, "clear", "()V"⟩
abbrev cX19_add : ByteArray := prog_22_method_5_code
def yX19_add : MethodName := ⟨RX19, "add", "(I)V"⟩
abbrev cX19_four : ByteArray := prog_22_method_6_code
def yX19_four : MethodName := ⟨RX19, "four", "(J)V"⟩
abbrev cX19_add_ : ByteArray := prog_22_method_7_code
def yX19_add_ : MethodName := ⟨RX19, "add", "([BII)V"⟩
abbrev cX19_text : ByteArray := prog_22_method_8_code
def yX19_text : MethodName := ⟨RX19, "text", "([BII)V"⟩
abbrev cX19_text_ : ByteArray := prog_22_method_9_code
def yX19_text_ : MethodName := ⟨RX19, "text", "(Ljava/lang/String;)V"⟩
abbrev cX19_open : ByteArray := prog_22_method_10_code
def yX19_open : MethodName := ⟨RX19, "open", "()I"⟩
abbrev cX19_close : ByteArray := prog_22_method_11_code
def yX19_close : MethodName := ⟨RX19, "close", "(I)V"⟩
abbrev cX19_take : ByteArray := prog_22_method_12_code
def yX19_take : MethodName := ⟨RX19, "take", "()I"⟩
abbrev cX19_drop : ByteArray := prog_22_method_13_code
def yX19_drop : MethodName := ⟨RX19, "drop", "(I)V"⟩
abbrev cX19_into : ByteArray := prog_22_method_14_code
def yX19_into : MethodName := ⟨RX19, "into", "([B)[B"⟩
abbrev cX19_bytes : ByteArray := prog_22_method_15_code
def yX19_bytes : MethodName := ⟨RX19, "bytes", "()[B"⟩
def RX20 : String := "ShellPairModel$Side"
def TX20 : u_T := fun k => match k with
  | 0 => ("ShellPairModel$Side", "number", "I", false)
  | 1 => ("ShellPairModel$Side", "other", "I", false)
  | 2 => ("ShellPairModel$Side", "state", "I", false)
  | 3 => ("ShellPairModel$Side", "window", "J", false)
  | 4 => ("ShellPairModel$Side", "packet", "J", false)
  | 5 => ("ShellPairModel$Side", "granted", "J", false)
  | 6 => ("ShellPairModel$Side", "most", "J", false)
  | 7 => ("ShellPairModel$Side", "out", "LShellPairModel$Row;", true)
  | 8 => ("ShellPairModel$Side", "errors", "LShellPairModel$Row;", true)
  | 9 => ("ShellPairModel$Side", "in", "LShellPairModel$Row;", true)
  | 10 => ("ShellPairModel$Side", "inErrors", "LShellPairModel$Row;", true)
  | 11 => ("ShellPairModel$Side", "ends", "Z", false)
  | 12 => ("ShellPairModel$Side", "endSent", "Z", false)
  | 13 => ("ShellPairModel$Side", "endCame", "Z", false)
  | 14 => ("ShellPairModel$Side", "closeSent", "Z", false)
  | 15 => ("ShellPairModel$Side", "closeCame", "Z", false)
  | 16 => ("ShellPairModel$Side", "done", "Z", false)
  | 17 => ("ShellPairModel$Side", "reason", "I", false)
  | 18 => ("ShellPairModel$Side", "status", "I", false)
  | 19 => ("ShellPairModel$Side", "answered", "I", false)
  | 20 => ("ShellPairModel$Side", "denied", "I", false)
  | 21 => ("ShellPairModel$Side", "waits", "I", false)
  | 22 => ("ShellPairModel$Side", "session", "Z", false)
  | 23 => ("ShellPairModel$Side", "runs", "I", false)
  | 24 => ("ShellPairModel$Side", "port", "I", false)
  | 25 => ("ShellPairModel$Side", "name", "[B", false)
  | _ => ("ShellPairModel$Side", "kept", "LShellPairModel$Row;", true)
def tyX20 : Nat → FieldType := fun k => match k with
  | 0 => .int
  | 1 => .int
  | 2 => .int
  | 3 => .long
  | 4 => .long
  | 5 => .long
  | 6 => .long
  | 7 => .object "ShellPairModel$Row"
  | 8 => .object "ShellPairModel$Row"
  | 9 => .object "ShellPairModel$Row"
  | 10 => .object "ShellPairModel$Row"
  | 11 => .boolean
  | 12 => .boolean
  | 13 => .boolean
  | 14 => .boolean
  | 15 => .boolean
  | 16 => .boolean
  | 17 => .int
  | 18 => .int
  | 19 => .int
  | 20 => .int
  | 21 => .int
  | 22 => .boolean
  | 23 => .int
  | 24 => .int
  | 25 => .array .byte
  | _ => .object "ShellPairModel$Row"
abbrev wsX200 : List Cond := u_ws RX20 TX20 27
theorem nmX20 : ∀ a, a < 27 → ∀ b, b < 27 → a ≠ b → (TX20 a).2.1 ≠ (TX20 b).2.1 := by decide +kernel
theorem tyX20_ok : ∀ k, k < 27 → parseFieldDescriptor (TX20 k).2.2.1 = some (tyX20 k) := by decide +kernel
abbrev cX20_init : ByteArray := prog_23_method_1_code
def yX20_init : MethodName := ⟨RX20, "<init>", "()V"⟩
abbrev cX20_fresh : ByteArray := prog_23_method_2_code
def yX20_fresh : MethodName := ⟨RX20, "fresh", "(I)V"⟩
def RX21 : String := "ShellPairModel"
def TX21 : u_T := fun k => match k with
  | 0 => ("ShellPairModel", "thrown", "I", false)
  | 1 => ("ShellPairModel", "tape", "[B", true)
  | 2 => ("ShellPairModel", "tapes", "I", false)
  | 3 => ("ShellPairModel", "hash", "LShellPairModel$Hash;", true)
  | 4 => ("ShellPairModel", "curve", "LShellPairModel$Curve;", true)
  | 5 => ("ShellPairModel", "substitute", "[I", true)
  | 6 => ("ShellPairModel", "ends", "[LShellPairModel$End;", true)
  | 7 => ("ShellPairModel", "wire", "[LShellPairModel$Row;", true)
  | 8 => ("ShellPairModel", "hostKey", "[B", false)
  | 9 => ("ShellPairModel", "identity", "[B", false)
  | 10 => ("ShellPairModel", "knownKey", "[B", false)
  | 11 => ("ShellPairModel", "user", "[B", false)
  | 12 => ("ShellPairModel", "word", "[B", false)
  | 13 => ("ShellPairModel", "names", "[[B", true)
  | 14 => ("ShellPairModel", "words", "[[B", true)
  | 15 => ("ShellPairModel", "accountKeys", "[[B", true)
  | 16 => ("ShellPairModel", "accounts", "I", false)
  | 17 => ("ShellPairModel", "ports", "[Z", true)
  | 18 => ("ShellPairModel", "portCount", "I", false)
  | 19 => ("ShellPairModel", "storeNames", "[[B", true)
  | 20 => ("ShellPairModel", "store", "[[B", true)
  | 21 => ("ShellPairModel", "stored", "I", false)
  | 22 => ("ShellPairModel", "session", "[B", false)
  | 23 => ("ShellPairModel", "fields0", "LShellPairModel$Fields;", true)
  | 24 => ("ShellPairModel", "fields2", "LShellPairModel$Fields;", true)
  | 25 => ("ShellPairModel", "fields3", "LShellPairModel$Fields;", true)
  | 26 => ("ShellPairModel", "fields4", "LShellPairModel$Fields;", true)
  | 27 => ("ShellPairModel", "fields5", "LShellPairModel$Fields;", true)
  | 28 => ("ShellPairModel", "body", "LShellPairModel$Row;", true)
  | 29 => ("ShellPairModel", "packet", "LShellPairModel$Row;", true)
  | 30 => ("ShellPairModel", "work", "LShellPairModel$Row;", true)
  | 31 => ("ShellPairModel", "mac", "[B", true)
  | 32 => ("ShellPairModel", "mark", "[B", true)
  | 33 => ("ShellPairModel", "in", "[B", true)
  | 34 => ("ShellPairModel", "listAt", "I", false)
  | 35 => ("ShellPairModel", "listEnd", "I", false)
  | 36 => ("ShellPairModel", "choiceSize", "I", false)
  | 37 => ("ShellPairModel", "lines", "[[B", true)
  | 38 => ("ShellPairModel", "clientSession", "[B", false)
  | 39 => ("ShellPairModel", "heldOne", "LShellPairModel$Row;", true)
  | 40 => ("ShellPairModel", "current", "[B", true)
  | 41 => ("ShellPairModel", "tried", "[B", false)
  | _ => ("ShellPairModel", "triedUser", "[B", false)
def tyX21 : Nat → FieldType := fun k => match k with
  | 0 => .int
  | 1 => .array .byte
  | 2 => .int
  | 3 => .object "ShellPairModel$Hash"
  | 4 => .object "ShellPairModel$Curve"
  | 5 => .array .int
  | 6 => .array (.object "ShellPairModel$End")
  | 7 => .array (.object "ShellPairModel$Row")
  | 8 => .array .byte
  | 9 => .array .byte
  | 10 => .array .byte
  | 11 => .array .byte
  | 12 => .array .byte
  | 13 => .array (.array .byte)
  | 14 => .array (.array .byte)
  | 15 => .array (.array .byte)
  | 16 => .int
  | 17 => .array .boolean
  | 18 => .int
  | 19 => .array (.array .byte)
  | 20 => .array (.array .byte)
  | 21 => .int
  | 22 => .array .byte
  | 23 => .object "ShellPairModel$Fields"
  | 24 => .object "ShellPairModel$Fields"
  | 25 => .object "ShellPairModel$Fields"
  | 26 => .object "ShellPairModel$Fields"
  | 27 => .object "ShellPairModel$Fields"
  | 28 => .object "ShellPairModel$Row"
  | 29 => .object "ShellPairModel$Row"
  | 30 => .object "ShellPairModel$Row"
  | 31 => .array .byte
  | 32 => .array .byte
  | 33 => .array .byte
  | 34 => .int
  | 35 => .int
  | 36 => .int
  | 37 => .array (.array .byte)
  | 38 => .array .byte
  | 39 => .object "ShellPairModel$Row"
  | 40 => .array .byte
  | 41 => .array .byte
  | _ => .array .byte
abbrev wsX210 : List Cond := u_ws RX21 TX21 43
theorem nmX21 : ∀ a, a < 43 → ∀ b, b < 43 → a ≠ b → (TX21 a).2.1 ≠ (TX21 b).2.1 := by decide +kernel
theorem tyX21_ok : ∀ k, k < 43 → parseFieldDescriptor (TX21 k).2.2.1 = some (tyX21 k) := by decide +kernel
abbrev cX21_init : ByteArray := prog_15_method_1_code
def yX21_init : MethodName := ⟨RX21, "<init>", "()V"⟩
abbrev cX21_thrown : ByteArray := prog_15_method_2_code
def yX21_thrown : MethodName := ⟨RX21, "thrown", "()I"⟩
abbrev cX21_fail : ByteArray := prog_15_method_3_code
def yX21_fail : MethodName := ⟨RX21, "fail", "(I)I"⟩
abbrev cX21_take : ByteArray := prog_15_method_4_code
def yX21_take : MethodName := ⟨RX21, "take", "(LShellPairModel$End;)I"⟩
abbrev cX21_take_ : ByteArray := prog_15_method_5_code
def yX21_take_ : MethodName := ⟨RX21, "take", "(LShellPairModel$End;I)[B"⟩
abbrev cX21_etm : ByteArray := prog_15_method_6_code
def yX21_etm : MethodName := ⟨RX21, "etm", "(LShellPairModel$Cipher;)Z"⟩
abbrev cX21_vouch : ByteArray := prog_15_method_7_code
def yX21_vouch : MethodName := ⟨RX21, "vouch", "(LShellPairModel$Cipher;J[BII)V"⟩
abbrev cX21_send : ByteArray := prog_15_method_8_code
def yX21_send : MethodName := ⟨RX21, "send", "(LShellPairModel$End;[BI)V"⟩
abbrev cX21_waits : ByteArray := prog_15_method_9_code
def yX21_waits : MethodName := ⟨RX21, "waits", "(LShellPairModel$End;I)Z"⟩
abbrev cX21_say : ByteArray := prog_15_method_10_code
def yX21_say : MethodName := ⟨RX21, "say", "(LShellPairModel$End;LShellPairModel$Row;)V"⟩
abbrev cX21_limit : ByteArray := prog_15_method_11_code
def yX21_limit : MethodName := ⟨RX21, "limit", "(LShellPairModel$End;)V"⟩
abbrev cX21_complete : ByteArray := prog_15_method_12_code
def yX21_complete : MethodName := ⟨RX21, "complete", "(LShellPairModel$End;)Z"⟩
abbrev cX21_fresh : ByteArray := prog_15_method_13_code
def yX21_fresh : MethodName := ⟨RX21, "fresh", "(I)LShellPairModel$Row;"⟩
abbrev cX21_disconnect : ByteArray := prog_15_method_14_code
def yX21_disconnect : MethodName := ⟨RX21, "disconnect", "(LShellPairModel$End;II)V"⟩
abbrev cX21_fault : ByteArray := prog_15_method_15_code
def yX21_fault : MethodName := ⟨RX21, "fault", "(LShellPairModel$End;I)V"⟩
abbrev cX21_ciphers : ByteArray := prog_15_method_16_code
def yX21_ciphers : MethodName := ⟨RX21, "ciphers", "(I)Ljava/lang/String;"⟩
abbrev cX21_macs : ByteArray := prog_15_method_17_code
def yX21_macs : MethodName := ⟨RX21, "macs", "(I)Ljava/lang/String;"⟩
abbrev cX21_init_ : ByteArray := prog_15_method_18_code
def yX21_init_ : MethodName := ⟨RX21, "init", "(LShellPairModel$End;)V"⟩
abbrev cX21_same : ByteArray := prog_15_method_19_code
def yX21_same : MethodName := ⟨RX21, "same", "([B[B)Z"⟩
abbrev cX21_list : ByteArray := prog_15_method_20_code
def yX21_list : MethodName := ⟨RX21, "list", "([BI)V"⟩
abbrev cX21_nameEnd : ByteArray := prog_15_method_21_code
def yX21_nameEnd : MethodName := ⟨RX21, "nameEnd", "([BII)I"⟩
abbrev cX21_alike : ByteArray := prog_15_method_22_code
def yX21_alike : MethodName := ⟨RX21, "alike", "([BII[BII)Z"⟩
abbrev cX21_choice : ByteArray := prog_15_method_23_code
def yX21_choice : MethodName := ⟨RX21, "choice", "([B[BI)I"⟩
abbrev cX21_firstAlike : ByteArray := prog_15_method_24_code
def yX21_firstAlike : MethodName := ⟨RX21, "firstAlike", "([B[BI)Z"⟩
abbrev cX21_initCame : ByteArray := prog_15_method_25_code
def yX21_initCame : MethodName := ⟨RX21, "initCame", "(LShellPairModel$End;[BI)V"⟩
abbrev cX21_big : ByteArray := prog_15_method_26_code
def yX21_big : MethodName := ⟨RX21, "big", "(LShellPairModel$Row;[B)V"⟩
abbrev cX21_agreed : ByteArray := prog_15_method_27_code
def yX21_agreed : MethodName := ⟨RX21, "agreed", "(LShellPairModel$End;[B[B[B[B)[B"⟩
abbrev cX21_line : ByteArray := prog_15_method_28_code
def yX21_line : MethodName := ⟨RX21, "line", "(I)[B"⟩
abbrev cX21_blob : ByteArray := prog_15_method_29_code
def yX21_blob : MethodName := ⟨RX21, "blob", "([B)[B"⟩
abbrev cX21_inside : ByteArray := prog_15_method_30_code
def yX21_inside : MethodName := ⟨RX21, "inside", "([BI)[B"⟩
abbrev cX21_publicOf : ByteArray := prog_15_method_31_code
def yX21_publicOf : MethodName := ⟨RX21, "publicOf", "([B)[B"⟩
abbrev cX21_exchangeServer : ByteArray := prog_15_method_32_code
def yX21_exchangeServer : MethodName := ⟨RX21, "exchangeServer", "(LShellPairModel$End;[BI)V"⟩
abbrev cX21_sessionOf : ByteArray := prog_15_method_33_code
def yX21_sessionOf : MethodName := ⟨RX21, "sessionOf", "(LShellPairModel$End;)[B"⟩
abbrev cX21_exchangeClient : ByteArray := prog_15_method_34_code
def yX21_exchangeClient : MethodName := ⟨RX21, "exchangeClient", "(LShellPairModel$End;[BI)V"⟩
abbrev cX21_derived : ByteArray := prog_15_method_35_code
def yX21_derived : MethodName := ⟨RX21, "derived", "(LShellPairModel$End;I)[B"⟩
abbrev cX21_keyed : ByteArray := prog_15_method_36_code
def yX21_keyed : MethodName := ⟨RX21, "keyed", "(LShellPairModel$End;LShellPairModel$Cipher;I)V"⟩
abbrev cX21_renewed : ByteArray := prog_15_method_37_code
def yX21_renewed : MethodName := ⟨RX21, "renewed", "(LShellPairModel$End;)V"⟩
abbrev cX21_newCame : ByteArray := prog_15_method_38_code
def yX21_newCame : MethodName := ⟨RX21, "newCame", "(LShellPairModel$End;I)V"⟩
abbrev cX21_finished : ByteArray := prog_15_method_39_code
def yX21_finished : MethodName := ⟨RX21, "finished", "(LShellPairModel$End;)V"⟩
abbrev cX21_byteCame : ByteArray := prog_15_method_40_code
def yX21_byteCame : MethodName := ⟨RX21, "byteCame", "(LShellPairModel$End;I)V"⟩
abbrev cX21_lineByte : ByteArray := prog_15_method_41_code
def yX21_lineByte : MethodName := ⟨RX21, "lineByte", "(LShellPairModel$End;I)V"⟩
abbrev cX21_begins : ByteArray := prog_15_method_42_code
def yX21_begins : MethodName := ⟨RX21, "begins", "([BILjava/lang/String;)Z"⟩
abbrev cX21_headCame : ByteArray := prog_15_method_43_code
def yX21_headCame : MethodName := ⟨RX21, "headCame", "(LShellPairModel$End;I)V"⟩
abbrev cX21_packetCame : ByteArray := prog_15_method_44_code
def yX21_packetCame : MethodName := ⟨RX21, "packetCame", "(LShellPairModel$End;I)V"⟩
abbrev cX21_message : ByteArray := prog_15_method_45_code
def yX21_message : MethodName := ⟨RX21, "message", "(LShellPairModel$End;[BIJ)V"⟩
abbrev cX21_named : ByteArray := prog_15_method_46_code
def yX21_named : MethodName := ⟨RX21, "named", "(I)Z"⟩
abbrev cX21_due : ByteArray := prog_15_method_47_code
def yX21_due : MethodName := ⟨RX21, "due", "(LShellPairModel$End;I)Z"⟩
abbrev cX21_worked : ByteArray := prog_15_method_48_code
def yX21_worked : MethodName := ⟨RX21, "worked", "(LShellPairModel$End;I[BILShellPairModel$Fields;)V"⟩
abbrev cX21_service : ByteArray := prog_15_method_49_code
def yX21_service : MethodName := ⟨RX21, "service", "(LShellPairModel$End;LShellPairModel$Fields;)V"⟩
abbrev cX21_served : ByteArray := prog_15_method_50_code
def yX21_served : MethodName := ⟨RX21, "served", "(LShellPairModel$End;LShellPairModel$Fields;)V"⟩
abbrev cX21_ask : ByteArray := prog_15_method_51_code
def yX21_ask : MethodName := ⟨RX21, "ask", "(LShellPairModel$End;[BLjava/lang/String;)LShellPairModel$Row;"⟩
abbrev cX21_failed : ByteArray := prog_15_method_52_code
def yX21_failed : MethodName := ⟨RX21, "failed", "(LShellPairModel$End;LShellPairModel$Fields;)V"⟩
abbrev cX21_has : ByteArray := prog_15_method_53_code
def yX21_has : MethodName := ⟨RX21, "has", "([BLjava/lang/String;)Z"⟩
abbrev cX21_wouldDo : ByteArray := prog_15_method_54_code
def yX21_wouldDo : MethodName := ⟨RX21, "wouldDo", "(LShellPairModel$End;LShellPairModel$Fields;)V"⟩
abbrev cX21_proof : ByteArray := prog_15_method_55_code
def yX21_proof : MethodName := ⟨RX21, "proof", "([B[B[B)[B"⟩
abbrev cX21_asked : ByteArray := prog_15_method_56_code
def yX21_asked : MethodName := ⟨RX21, "asked", "(LShellPairModel$End;LShellPairModel$Fields;)V"⟩
abbrev cX21_byKey : ByteArray := prog_15_method_57_code
def yX21_byKey : MethodName := ⟨RX21, "byKey", "(LShellPairModel$End;LShellPairModel$Fields;[BI)V"⟩
abbrev cX21_byWord : ByteArray := prog_15_method_58_code
def yX21_byWord : MethodName := ⟨RX21, "byWord", "(LShellPairModel$End;LShellPairModel$Fields;I)V"⟩
abbrev cX21_answer : ByteArray := prog_15_method_59_code
def yX21_answer : MethodName := ⟨RX21, "answer", "(LShellPairModel$End;ZZ)V"⟩
abbrev cX21_side : ByteArray := prog_15_method_60_code
def yX21_side : MethodName := ⟨RX21, "side", "(LShellPairModel$End;J)LShellPairModel$Side;"⟩
abbrev cX21_used : ByteArray := prog_15_method_61_code
def yX21_used : MethodName := ⟨RX21, "used", "(LShellPairModel$Side;)Z"⟩
abbrev cX21_opened : ByteArray := prog_15_method_62_code
def yX21_opened : MethodName := ⟨RX21, "opened", "(LShellPairModel$End;LShellPairModel$Fields;)V"⟩
abbrev cX21_refuse : ByteArray := prog_15_method_63_code
def yX21_refuse : MethodName := ⟨RX21, "refuse", "(LShellPairModel$End;JI)V"⟩
abbrev cX21_farSide : ByteArray := prog_15_method_64_code
def yX21_farSide : MethodName := ⟨RX21, "farSide", "(I)LShellPairModel$Side;"⟩
abbrev cX21_channelMessage : ByteArray := prog_15_method_65_code
def yX21_channelMessage : MethodName := ⟨RX21, "channelMessage", "(LShellPairModel$End;ILShellPairModel$Fields;)V"⟩
abbrev cX21_granted : ByteArray := prog_15_method_66_code
def yX21_granted : MethodName := ⟨RX21, "granted", "(LShellPairModel$End;LShellPairModel$Side;LShellPairModel$Fields;)V"⟩
abbrev cX21_refused : ByteArray := prog_15_method_67_code
def yX21_refused : MethodName := ⟨RX21, "refused", "(LShellPairModel$End;LShellPairModel$Side;LShellPairModel$Fields;)V"⟩
abbrev cX21_to : ByteArray := prog_15_method_68_code
def yX21_to : MethodName := ⟨RX21, "to", "(LShellPairModel$Side;I)LShellPairModel$Row;"⟩
abbrev cX21_pump : ByteArray := prog_15_method_69_code
def yX21_pump : MethodName := ⟨RX21, "pump", "(LShellPairModel$End;LShellPairModel$Side;)V"⟩
abbrev cX21_close : ByteArray := prog_15_method_70_code
def yX21_close : MethodName := ⟨RX21, "close", "(LShellPairModel$End;LShellPairModel$Side;)V"⟩
abbrev cX21_gone : ByteArray := prog_15_method_71_code
def yX21_gone : MethodName := ⟨RX21, "gone", "(LShellPairModel$Side;)V"⟩
abbrev cX21_wasRead : ByteArray := prog_15_method_72_code
def yX21_wasRead : MethodName := ⟨RX21, "wasRead", "(LShellPairModel$End;LShellPairModel$Side;)V"⟩
abbrev cX21_data : ByteArray := prog_15_method_73_code
def yX21_data : MethodName := ⟨RX21, "data", "(LShellPairModel$End;LShellPairModel$Side;ILShellPairModel$Fields;)V"⟩
abbrev cX21_inputEnds : ByteArray := prog_15_method_74_code
def yX21_inputEnds : MethodName := ⟨RX21, "inputEnds", "(LShellPairModel$End;LShellPairModel$Side;)V"⟩
abbrev cX21_requested : ByteArray := prog_15_method_75_code
def yX21_requested : MethodName := ⟨RX21, "requested", "(LShellPairModel$End;LShellPairModel$Side;LShellPairModel$Fields;)V"⟩
abbrev cX21_ended : ByteArray := prog_15_method_76_code
def yX21_ended : MethodName := ⟨RX21, "ended", "(LShellPairModel$Side;I)V"⟩
abbrev cX21_line_ : ByteArray := prog_15_method_77_code
def yX21_line_ : MethodName := ⟨RX21, "line", "(LShellPairModel$Row;Ljava/lang/String;)V"⟩
abbrev cX21_error : ByteArray := prog_15_method_78_code
def yX21_error : MethodName := ⟨RX21, "error", "(LShellPairModel$Side;Ljava/lang/String;I)V"⟩
abbrev cX21_wordCount : ByteArray := prog_15_method_79_code
def yX21_wordCount : MethodName := ⟨RX21, "wordCount", "([B)I"⟩
abbrev cX21_word : ByteArray := prog_15_method_80_code
def yX21_word : MethodName := ⟨RX21, "word", "([BI)[B"⟩
abbrev cX21_spelled : ByteArray := prog_15_method_81_code
def yX21_spelled : MethodName := ⟨RX21, "spelled", "([BLjava/lang/String;)Z"⟩
abbrev cX21_find : ByteArray := prog_15_method_82_code
def yX21_find : MethodName := ⟨RX21, "find", "([B)I"⟩
abbrev cX21_bytesStored : ByteArray := prog_15_method_83_code
def yX21_bytesStored : MethodName := ⟨RX21, "bytesStored", "()I"⟩
abbrev cX21_begin : ByteArray := prog_15_method_84_code
def yX21_begin : MethodName := ⟨RX21, "begin", "(LShellPairModel$End;LShellPairModel$Side;[B)V"⟩
abbrev cX21_second : ByteArray := prog_15_method_85_code
def yX21_second : MethodName := ⟨RX21, "second", "(LShellPairModel$Side;[B[B)V"⟩
abbrev cX21_order : ByteArray := prog_15_method_86_code
def yX21_order : MethodName := ⟨RX21, "order", "([B[B)I"⟩
abbrev cX21_list_ : ByteArray := prog_15_method_87_code
def yX21_list_ : MethodName := ⟨RX21, "list", "(LShellPairModel$Side;)V"⟩
abbrev cX21_put : ByteArray := prog_15_method_88_code
def yX21_put : MethodName := ⟨RX21, "put", "(LShellPairModel$Side;)V"⟩
abbrev cX21_feed : ByteArray := prog_15_method_89_code
def yX21_feed : MethodName := ⟨RX21, "feed", "(IIIII)I"⟩
abbrev cX21_end : ByteArray := prog_15_method_90_code
def yX21_end : MethodName := ⟨RX21, "end", "(I)I"⟩
abbrev cX21_cut : ByteArray := prog_15_method_91_code
def yX21_cut : MethodName := ⟨RX21, "cut", "(II)[B"⟩
abbrev cX21_secret : ByteArray := prog_15_method_92_code
def yX21_secret : MethodName := ⟨RX21, "secret", "(I)V"⟩
abbrev cX21_user : ByteArray := prog_15_method_93_code
def yX21_user : MethodName := ⟨RX21, "user", "(IZ)I"⟩
abbrev cX21_allow : ByteArray := prog_15_method_94_code
def yX21_allow : MethodName := ⟨RX21, "allow", "(I)V"⟩
abbrev cX21_none : ByteArray := prog_15_method_95_code
def yX21_none : MethodName := ⟨RX21, "none", "(I)Z"⟩
abbrev cX21_set : ByteArray := prog_15_method_96_code
def yX21_set : MethodName := ⟨RX21, "set", "(III)I"⟩
abbrev cX21_port : ByteArray := prog_15_method_97_code
def yX21_port : MethodName := ⟨RX21, "port", "(IZ)V"⟩
abbrev cX21_begin_ : ByteArray := prog_15_method_98_code
def yX21_begin_ : MethodName := ⟨RX21, "begin", "(LShellPairModel$End;)V"⟩
abbrev cX21_start : ByteArray := prog_15_method_99_code
def yX21_start : MethodName := ⟨RX21, "start", "()V"⟩
abbrev cX21_move : ByteArray := prog_15_method_100_code
def yX21_move : MethodName := ⟨RX21, "move", "(II)I"⟩
abbrev cX21_flip : ByteArray := prog_15_method_101_code
def yX21_flip : MethodName := ⟨RX21, "flip", "(III)I"⟩
abbrev cX21_seen : ByteArray := prog_15_method_102_code
def yX21_seen : MethodName := ⟨RX21, "seen", "(II)I"⟩
abbrev cX21_inject : ByteArray := prog_15_method_103_code
def yX21_inject : MethodName := ⟨RX21, "inject", "(I)I"⟩
abbrev cX21_open : ByteArray := prog_15_method_104_code
def yX21_open : MethodName := ⟨RX21, "open", "(I)I"⟩
abbrev cX21_live : ByteArray := prog_15_method_105_code
def yX21_live : MethodName := ⟨RX21, "live", "(I)LShellPairModel$Side;"⟩
abbrev cX21_exec : ByteArray := prog_15_method_106_code
def yX21_exec : MethodName := ⟨RX21, "exec", "(I)V"⟩
abbrev cX21_write : ByteArray := prog_15_method_107_code
def yX21_write : MethodName := ⟨RX21, "write", "(IZ)I"⟩
abbrev cX21_read : ByteArray := prog_15_method_108_code
def yX21_read : MethodName := ⟨RX21, "read", "(III)J"⟩
abbrev cX21_finish : ByteArray := prog_15_method_109_code
def yX21_finish : MethodName := ⟨RX21, "finish", "(II)V"⟩
abbrev cX21_rekey : ByteArray := prog_15_method_110_code
def yX21_rekey : MethodName := ⟨RX21, "rekey", "(I)V"⟩
abbrev cX21_quit : ByteArray := prog_15_method_111_code
def yX21_quit : MethodName := ⟨RX21, "quit", "(I)V"⟩
abbrev cX21_about : ByteArray := prog_15_method_112_code
def yX21_about : MethodName := ⟨RX21, "about", "(II)I"⟩
abbrev cX21_channel : ByteArray := prog_15_method_113_code
def yX21_channel : MethodName := ⟨RX21, "channel", "(II)I"⟩
abbrev cX21_count : ByteArray := prog_15_method_114_code
def yX21_count : MethodName := ⟨RX21, "count", "(I)I"⟩
def RJx145de : String := "java/io/Serializable"
def TJx145de : u_T := fun k => match k with
  | _ => ("", "", "", false)
def tyJx145de : Nat → FieldType := fun k => match k with
  | _ => .int
abbrev wsJx145de0 : List Cond := u_ws RJx145de TJx145de 0
theorem nmJx145de : ∀ a, a < 0 → ∀ b, b < 0 → a ≠ b → (TJx145de a).2.1 ≠ (TJx145de b).2.1 := by decide +kernel
theorem tyJx145de_ok : ∀ k, k < 0 → parseFieldDescriptor (TJx145de k).2.2.1 = some (tyJx145de k) := by decide +kernel
def RJ5 : String := "java/lang/AbstractStringBuilder"
def TJ5 : u_T := fun k => match k with
  | _ => ("", "", "", false)
def tyJ5 : Nat → FieldType := fun k => match k with
  | _ => .int
abbrev wsJ50 : List Cond := u_ws RJ5 TJ5 0
theorem nmJ5 : ∀ a, a < 0 → ∀ b, b < 0 → a ≠ b → (TJ5 a).2.1 ≠ (TJ5 b).2.1 := by decide +kernel
theorem tyJ5_ok : ∀ k, k < 0 → parseFieldDescriptor (TJ5 k).2.2.1 = some (tyJ5 k) := by decide +kernel
abbrev cJ5_init_d00df : ByteArray := prog_25_method_2_code
def yJ5_init_d00df : MethodName := ⟨RJ5, "<init>", "(I)V"⟩
abbrev cJ5_length_8abf5 : ByteArray := prog_25_method_6_code
def yJ5_length_8abf5 : MethodName := ⟨RJ5, "length", "()I"⟩
abbrev cJ5_ensureCapacityInternal_d00df : ByteArray := prog_25_method_9_code
def yJ5_ensureCapacityInternal_d00df : MethodName := ⟨RJ5, "ensureCapacityInternal", "(I)V"⟩
abbrev cJ5_newCapacity_0f7a4 : ByteArray := prog_25_method_10_code
def yJ5_newCapacity_0f7a4 : MethodName := ⟨RJ5, "newCapacity", "(I)I"⟩
abbrev cJ5_inflate_da8c8 : ByteArray := prog_25_method_11_code
def yJ5_inflate_da8c8 : MethodName := ⟨RJ5, "inflate", "()V"⟩
abbrev cJ5_append_cf1ce : ByteArray := prog_25_method_22_code
def yJ5_append_cf1ce : MethodName := ⟨RJ5, "append", "(Ljava/lang/String;)Ljava/lang/AbstractStringBuilder;"⟩
abbrev cJ5_appendNull_278bc : ByteArray := prog_25_method_26_code
def yJ5_appendNull_278bc : MethodName := ⟨RJ5, "appendNull", "()Ljava/lang/AbstractStringBuilder;"⟩
abbrev cJ5_append_c97b9 : ByteArray := prog_25_method_32_code
def yJ5_append_c97b9 : MethodName := ⟨RJ5, "append", "(I)Ljava/lang/AbstractStringBuilder;"⟩
abbrev cJ5_getValue_6d5f1 : ByteArray := prog_25_method_64_code
def yJ5_getValue_6d5f1 : MethodName := ⟨RJ5, "getValue", "()[B"⟩
abbrev cJ5_isLatin1_aae02 : ByteArray := prog_25_method_68_code
def yJ5_isLatin1_aae02 : MethodName := ⟨RJ5, "isLatin1", "()Z"⟩
abbrev cJ5_inflateIfNeededFor_a7421 : ByteArray := prog_25_method_71_code
def yJ5_inflateIfNeededFor_a7421 : MethodName := ⟨RJ5, "inflateIfNeededFor", "(Ljava/lang/String;)V"⟩
abbrev cJ5_putStringAt_47b60 : ByteArray := prog_25_method_73_code
def yJ5_putStringAt_47b60 : MethodName := ⟨RJ5, "putStringAt", "(ILjava/lang/String;)V"⟩
def RJx2cfe8 : String := "java/lang/Appendable"
def TJx2cfe8 : u_T := fun k => match k with
  | _ => ("", "", "", false)
def tyJx2cfe8 : Nat → FieldType := fun k => match k with
  | _ => .int
abbrev wsJx2cfe80 : List Cond := u_ws RJx2cfe8 TJx2cfe8 0
theorem nmJx2cfe8 : ∀ a, a < 0 → ∀ b, b < 0 → a ≠ b → (TJx2cfe8 a).2.1 ≠ (TJx2cfe8 b).2.1 := by decide +kernel
theorem tyJx2cfe8_ok : ∀ k, k < 0 → parseFieldDescriptor (TJx2cfe8 k).2.2.1 = some (tyJx2cfe8 k) := by decide +kernel
def RJx9f9b0 : String := "java/lang/CharSequence"
def TJx9f9b0 : u_T := fun k => match k with
  | _ => ("", "", "", false)
def tyJx9f9b0 : Nat → FieldType := fun k => match k with
  | _ => .int
abbrev wsJx9f9b00 : List Cond := u_ws RJx9f9b0 TJx9f9b0 0
theorem nmJx9f9b0 : ∀ a, a < 0 → ∀ b, b < 0 → a ≠ b → (TJx9f9b0 a).2.1 ≠ (TJx9f9b0 b).2.1 := by decide +kernel
theorem tyJx9f9b0_ok : ∀ k, k < 0 → parseFieldDescriptor (TJx9f9b0 k).2.2.1 = some (tyJx9f9b0 k) := by decide +kernel
def RJx8e188 : String := "java/lang/Cloneable"
def TJx8e188 : u_T := fun k => match k with
  | _ => ("", "", "", false)
def tyJx8e188 : Nat → FieldType := fun k => match k with
  | _ => .int
abbrev wsJx8e1880 : List Cond := u_ws RJx8e188 TJx8e188 0
theorem nmJx8e188 : ∀ a, a < 0 → ∀ b, b < 0 → a ≠ b → (TJx8e188 a).2.1 ≠ (TJx8e188 b).2.1 := by decide +kernel
theorem tyJx8e188_ok : ∀ k, k < 0 → parseFieldDescriptor (TJx8e188 k).2.2.1 = some (tyJx8e188 k) := by decide +kernel
def RJxb160c : String := "java/lang/Comparable"
def TJxb160c : u_T := fun k => match k with
  | _ => ("", "", "", false)
def tyJxb160c : Nat → FieldType := fun k => match k with
  | _ => .int
abbrev wsJxb160c0 : List Cond := u_ws RJxb160c TJxb160c 0
theorem nmJxb160c : ∀ a, a < 0 → ∀ b, b < 0 → a ≠ b → (TJxb160c a).2.1 ≠ (TJxb160c b).2.1 := by decide +kernel
theorem tyJxb160c_ok : ∀ k, k < 0 → parseFieldDescriptor (TJxb160c k).2.2.1 = some (tyJxb160c k) := by decide +kernel
def RJ6 : String := "java/lang/Integer"
def TJ6 : u_T := fun k => match k with
  | _ => ("", "", "", false)
def tyJ6 : Nat → FieldType := fun k => match k with
  | _ => .int
abbrev wsJ60 : List Cond := u_ws RJ6 TJ6 0
theorem nmJ6 : ∀ a, a < 0 → ∀ b, b < 0 → a ≠ b → (TJ6 a).2.1 ≠ (TJ6 b).2.1 := by decide +kernel
theorem tyJ6_ok : ∀ k, k < 0 → parseFieldDescriptor (TJ6 k).2.2.1 = some (tyJ6 k) := by decide +kernel
abbrev cJ6_getChars_ba4f3 : ByteArray := prog_34_method_12_code
def yJ6_getChars_ba4f3 : MethodName := ⟨RJ6, "getChars", "(II[B)I"⟩
abbrev cJ6_stringSize_0f7a4 : ByteArray := prog_34_method_13_code
def yJ6_stringSize_0f7a4 : MethodName := ⟨RJ6, "stringSize", "(I)I"⟩
abbrev cJ6_bitCount_0f7a4 : ByteArray := prog_34_method_49_code
def yJ6_bitCount_0f7a4 : MethodName := ⟨RJ6, "bitCount", "(I)I"⟩
def RJ9 : String := "java/lang/Math"
def TJ9 : u_T := fun k => match k with
  | _ => ("", "", "", false)
def tyJ9 : Nat → FieldType := fun k => match k with
  | _ => .int
abbrev wsJ90 : List Cond := u_ws RJ9 TJ9 0
theorem nmJ9 : ∀ a, a < 0 → ∀ b, b < 0 → a ≠ b → (TJ9 a).2.1 ≠ (TJ9 b).2.1 := by decide +kernel
theorem tyJ9_ok : ∀ k, k < 0 → parseFieldDescriptor (TJ9 k).2.2.1 = some (tyJ9 k) := by decide +kernel
abbrev cJ9_max_7cf53 : ByteArray := prog_35_method_65_code
def yJ9_max_7cf53 : MethodName := ⟨RJ9, "max", "(II)I"⟩
abbrev cJ9_min_7cf53 : ByteArray := prog_35_method_69_code
def yJ9_min_7cf53 : MethodName := ⟨RJ9, "min", "(II)I"⟩
abbrev cJ9_min_f86c9 : ByteArray := prog_35_method_70_code
def yJ9_min_f86c9 : MethodName := ⟨RJ9, "min", "(JJ)J"⟩
def RJxd2413 : String := "java/lang/Number"
def TJxd2413 : u_T := fun k => match k with
  | _ => ("", "", "", false)
def tyJxd2413 : Nat → FieldType := fun k => match k with
  | _ => .int
abbrev wsJxd24130 : List Cond := u_ws RJxd2413 TJxd2413 0
theorem nmJxd2413 : ∀ a, a < 0 → ∀ b, b < 0 → a ≠ b → (TJxd2413 a).2.1 ≠ (TJxd2413 b).2.1 := by decide +kernel
theorem tyJxd2413_ok : ∀ k, k < 0 → parseFieldDescriptor (TJxd2413 k).2.2.1 = some (tyJxd2413 k) := by decide +kernel
def RJ0 : String := "java/lang/String"
def TJ0 : u_T := fun k => match k with
  | 0 => ("java/lang/String", "value", "[B", true)
  | 1 => ("java/lang/String", "coder", "B", true)
  | 2 => ("java/lang/String", "hash", "I", false)
  | _ => ("java/lang/String", "hashIsZero", "Z", false)
def tyJ0 : Nat → FieldType := fun k => match k with
  | 0 => .array .byte
  | 1 => .byte
  | 2 => .int
  | _ => .boolean
abbrev wsJ00 : List Cond := u_ws RJ0 TJ0 4
theorem nmJ0 : ∀ a, a < 4 → ∀ b, b < 4 → a ≠ b → (TJ0 a).2.1 ≠ (TJ0 b).2.1 := by decide +kernel
theorem tyJ0_ok : ∀ k, k < 4 → parseFieldDescriptor (TJ0 k).2.2.1 = some (tyJ0 k) := by decide +kernel
abbrev cJ0_init_81219 : ByteArray := prog_38_method_53_code
def yJ0_init_81219 : MethodName := ⟨RJ0, "<init>", "(Ljava/lang/StringBuilder;)V"⟩
abbrev cJ0_length_8abf5 : ByteArray := prog_38_method_54_code
def yJ0_length_8abf5 : MethodName := ⟨RJ0, "length", "()I"⟩
abbrev cJ0_charAt_5068e : ByteArray := prog_38_method_56_code
def yJ0_charAt_5068e : MethodName := ⟨RJ0, "charAt", "(I)C"⟩
abbrev cJ0_getBytes_840e7 : ByteArray := prog_38_method_147_code
def yJ0_getBytes_840e7 : MethodName := ⟨RJ0, "getBytes", "([BIB)V"⟩
abbrev cJ0_init_db425 : ByteArray := prog_38_method_150_code
def yJ0_init_db425 : MethodName := ⟨RJ0, "<init>", "(Ljava/lang/AbstractStringBuilder;Ljava/lang/Void;)V"⟩
abbrev cJ0_coder_7d493 : ByteArray := prog_38_method_152_code
def yJ0_coder_7d493 : MethodName := ⟨RJ0, "coder", "()B"⟩
abbrev cJ0_isLatin1_aae02 : ByteArray := prog_38_method_154_code
def yJ0_isLatin1_aae02 : MethodName := ⟨RJ0, "isLatin1", "()Z"⟩
abbrev cJ0_checkIndex_df160 : ByteArray := prog_38_method_155_code
def yJ0_checkIndex_df160 : MethodName := ⟨RJ0, "checkIndex", "(II)V"⟩
abbrev cJ0_checkBoundsOffCount_cabcc : ByteArray := prog_38_method_157_code
def yJ0_checkBoundsOffCount_cabcc : MethodName := ⟨RJ0, "checkBoundsOffCount", "(III)I"⟩
abbrev cJ0_checkBoundsBeginEnd_23922 : ByteArray := prog_38_method_158_code
def yJ0_checkBoundsBeginEnd_23922 : MethodName := ⟨RJ0, "checkBoundsBeginEnd", "(III)V"⟩
def RJ4 : String := "java/lang/StringBuilder"
def TJ4 : u_T := fun k => match k with
  | 0 => ("java/lang/AbstractStringBuilder", "value", "[B", false)
  | 1 => ("java/lang/AbstractStringBuilder", "coder", "B", false)
  | 2 => ("java/lang/AbstractStringBuilder", "maybeLatin1", "Z", false)
  | _ => ("java/lang/AbstractStringBuilder", "count", "I", false)
def tyJ4 : Nat → FieldType := fun k => match k with
  | 0 => .array .byte
  | 1 => .byte
  | 2 => .boolean
  | _ => .int
abbrev wsJ40 : List Cond := u_ws RJ4 TJ4 4
theorem nmJ4 : ∀ a, a < 4 → ∀ b, b < 4 → a ≠ b → (TJ4 a).2.1 ≠ (TJ4 b).2.1 := by decide +kernel
theorem tyJ4_ok : ∀ k, k < 4 → parseFieldDescriptor (TJ4 k).2.2.1 = some (tyJ4 k) := by decide +kernel
abbrev cJ4_init_da8c8 : ByteArray := prog_39_method_1_code
def yJ4_init_da8c8 : MethodName := ⟨RJ4, "<init>", "()V"⟩
abbrev cJ4_append_15ec4 : ByteArray := prog_39_method_7_code
def yJ4_append_15ec4 : MethodName := ⟨RJ4, "append", "(Ljava/lang/String;)Ljava/lang/StringBuilder;"⟩
abbrev cJ4_append_bf812 : ByteArray := prog_39_method_15_code
def yJ4_append_bf812 : MethodName := ⟨RJ4, "append", "(I)Ljava/lang/StringBuilder;"⟩
abbrev cJ4_toString_0e30d : ByteArray := prog_39_method_42_code
def yJ4_toString_0e30d : MethodName := ⟨RJ4, "toString", "()Ljava/lang/String;"⟩
abbrev cJ4_length_8abf5 : ByteArray := prog_39_method_93_code
def yJ4_length_8abf5 : MethodName := ⟨RJ4, "length", "()I"⟩
def RJ1 : String := "java/lang/StringLatin1"
def TJ1 : u_T := fun k => match k with
  | _ => ("", "", "", false)
def tyJ1 : Nat → FieldType := fun k => match k with
  | _ => .int
abbrev wsJ10 : List Cond := u_ws RJ1 TJ1 0
theorem nmJ1 : ∀ a, a < 0 → ∀ b, b < 0 → a ≠ b → (TJ1 a).2.1 ≠ (TJ1 b).2.1 := by decide +kernel
theorem tyJ1_ok : ∀ k, k < 0 → parseFieldDescriptor (TJ1 k).2.2.1 = some (tyJ1 k) := by decide +kernel
abbrev cJ1_charAt_3b067 : ByteArray := prog_40_method_2_code
def yJ1_charAt_3b067 : MethodName := ⟨RJ1, "charAt", "([BI)C"⟩
abbrev cJ1_inflate_0e8fd : ByteArray := prog_40_method_50_code
def yJ1_inflate_0e8fd : MethodName := ⟨RJ1, "inflate", "([BI[BII)V"⟩
def RJ2 : String := "java/lang/StringUTF16"
def TJ2 : u_T := fun k => match k with
  | _ => ("", "", "", false)
def tyJ2 : Nat → FieldType := fun k => match k with
  | _ => .int
abbrev wsJ20 : List Cond := u_ws RJ2 TJ2 0
theorem nmJ2 : ∀ a, a < 0 → ∀ b, b < 0 → a ≠ b → (TJ2 a).2.1 ≠ (TJ2 b).2.1 := by decide +kernel
theorem tyJ2_ok : ∀ k, k < 0 → parseFieldDescriptor (TJ2 k).2.2.1 = some (tyJ2 k) := by decide +kernel
abbrev cJ2_newBytesFor_77867 : ByteArray := prog_41_method_2_code
def yJ2_newBytesFor_77867 : MethodName := ⟨RJ2, "newBytesFor", "(I)[B"⟩
abbrev cJ2_newBytesLength_0f7a4 : ByteArray := prog_41_method_3_code
def yJ2_newBytesLength_0f7a4 : MethodName := ⟨RJ2, "newBytesLength", "(I)I"⟩
abbrev cJ2_putChar_b72d1 : ByteArray := prog_41_method_4_code
def yJ2_putChar_b72d1 : MethodName := ⟨RJ2, "putChar", "([BII)V"⟩
abbrev cJ2_getChar_3b067 : ByteArray := prog_41_method_5_code
def yJ2_getChar_3b067 : MethodName := ⟨RJ2, "getChar", "([BI)C"⟩
abbrev cJ2_length_9d52b : ByteArray := prog_41_method_6_code
def yJ2_length_9d52b : MethodName := ⟨RJ2, "length", "([B)I"⟩
abbrev cJ2_coderFromArrayLen_85cad : ByteArray := prog_41_method_15_code
def yJ2_coderFromArrayLen_85cad : MethodName := ⟨RJ2, "coderFromArrayLen", "([BI)B"⟩
abbrev cJ2_compress_39247 : ByteArray := prog_41_method_17_code
def yJ2_compress_39247 : MethodName := ⟨RJ2, "compress", "([BII)[B"⟩
abbrev cJ2_compress_5af95 : ByteArray := prog_41_method_22_code
def yJ2_compress_5af95 : MethodName := ⟨RJ2, "compress", "([BI[BII)I"⟩
abbrev cJ2_getChars_46870 : ByteArray := prog_41_method_77_code
def yJ2_getChars_46870 : MethodName := ⟨RJ2, "getChars", "(III[B)I"⟩
abbrev cJ2_putCharsAt_cd4e5 : ByteArray := prog_41_method_81_code
def yJ2_putCharsAt_cd4e5 : MethodName := ⟨RJ2, "putCharsAt", "([BICCCC)I"⟩
abbrev cJ2_charAt_3b067 : ByteArray := prog_41_method_83_code
def yJ2_charAt_3b067 : MethodName := ⟨RJ2, "charAt", "([BI)C"⟩
abbrev cJ2_inflate_0e8fd : ByteArray := prog_41_method_86_code
def yJ2_inflate_0e8fd : MethodName := ⟨RJ2, "inflate", "([BI[BII)V"⟩
abbrev cJ2_getChars_ba4f3 : ByteArray := prog_41_method_89_code
def yJ2_getChars_ba4f3 : MethodName := ⟨RJ2, "getChars", "(II[B)I"⟩
abbrev cJ2_checkIndex_2214a : ByteArray := prog_41_method_91_code
def yJ2_checkIndex_2214a : MethodName := ⟨RJ2, "checkIndex", "(I[B)V"⟩
abbrev cJ2_checkBoundsBeginEnd_d044e : ByteArray := prog_41_method_93_code
def yJ2_checkBoundsBeginEnd_d044e : MethodName := ⟨RJ2, "checkBoundsBeginEnd", "(II[B)V"⟩
abbrev cJ2_checkBoundsOffCount_d044e : ByteArray := prog_41_method_94_code
def yJ2_checkBoundsOffCount_d044e : MethodName := ⟨RJ2, "checkBoundsOffCount", "(II[B)V"⟩
def RJ10 : String := "java/lang/System"
def TJ10 : u_T := fun k => match k with
  | _ => ("", "", "", false)
def tyJ10 : Nat → FieldType := fun k => match k with
  | _ => .int
abbrev wsJ100 : List Cond := u_ws RJ10 TJ10 0
theorem nmJ10 : ∀ a, a < 0 → ∀ b, b < 0 → a ≠ b → (TJ10 a).2.1 ≠ (TJ10 b).2.1 := by decide +kernel
theorem tyJ10_ok : ∀ k, k < 0 → parseFieldDescriptor (TJ10 k).2.2.1 = some (tyJ10 k) := by decide +kernel
def RJxfd54e : String := "java/lang/constant/Constable"
def TJxfd54e : u_T := fun k => match k with
  | _ => ("", "", "", false)
def tyJxfd54e : Nat → FieldType := fun k => match k with
  | _ => .int
abbrev wsJxfd54e0 : List Cond := u_ws RJxfd54e TJxfd54e 0
theorem nmJxfd54e : ∀ a, a < 0 → ∀ b, b < 0 → a ≠ b → (TJxfd54e a).2.1 ≠ (TJxfd54e b).2.1 := by decide +kernel
theorem tyJxfd54e_ok : ∀ k, k < 0 → parseFieldDescriptor (TJxfd54e k).2.2.1 = some (tyJxfd54e k) := by decide +kernel
def RJx3cf43 : String := "java/lang/constant/ConstantDesc"
def TJx3cf43 : u_T := fun k => match k with
  | _ => ("", "", "", false)
def tyJx3cf43 : Nat → FieldType := fun k => match k with
  | _ => .int
abbrev wsJx3cf430 : List Cond := u_ws RJx3cf43 TJx3cf43 0
theorem nmJx3cf43 : ∀ a, a < 0 → ∀ b, b < 0 → a ≠ b → (TJx3cf43 a).2.1 ≠ (TJx3cf43 b).2.1 := by decide +kernel
theorem tyJx3cf43_ok : ∀ k, k < 0 → parseFieldDescriptor (TJx3cf43 k).2.2.1 = some (tyJx3cf43 k) := by decide +kernel
def RJ7 : String := "java/util/Arrays"
def TJ7 : u_T := fun k => match k with
  | _ => ("", "", "", false)
def tyJ7 : Nat → FieldType := fun k => match k with
  | _ => .int
abbrev wsJ70 : List Cond := u_ws RJ7 TJ7 0
theorem nmJ7 : ∀ a, a < 0 → ∀ b, b < 0 → a ≠ b → (TJ7 a).2.1 ≠ (TJ7 b).2.1 := by decide +kernel
theorem tyJ7_ok : ∀ k, k < 0 → parseFieldDescriptor (TJ7 k).2.2.1 = some (tyJ7 k) := by decide +kernel
abbrev cJ7_fill_d0a16 : ByteArray := prog_46_method_101_code
def yJ7_fill_d0a16 : MethodName := ⟨RJ7, "fill", "([JJ)V"⟩
abbrev cJ7_fill_031fb : ByteArray := prog_46_method_109_code
def yJ7_fill_031fb : MethodName := ⟨RJ7, "fill", "([BB)V"⟩
abbrev cJ7_copyOf_9075b : ByteArray := prog_46_method_121_code
def yJ7_copyOf_9075b : MethodName := ⟨RJ7, "copyOf", "([BI)[B"⟩
abbrev cJ7_checkLength_df160 : ByteArray := prog_46_method_131_code
def yJ7_checkLength_df160 : MethodName := ⟨RJ7, "checkLength", "(II)V"⟩
abbrev cJ7_copyOfRange_39247 : ByteArray := prog_46_method_132_code
def yJ7_copyOfRange_39247 : MethodName := ⟨RJ7, "copyOfRange", "([BII)[B"⟩
abbrev cJ7_copyOfRangeByte_39247 : ByteArray := prog_46_method_133_code
def yJ7_copyOfRangeByte_39247 : MethodName := ⟨RJ7, "copyOfRangeByte", "([BII)[B"⟩
def RJ8 : String := "jdk/internal/util/ArraysSupport"
def TJ8 : u_T := fun k => match k with
  | _ => ("", "", "", false)
def tyJ8 : Nat → FieldType := fun k => match k with
  | _ => .int
abbrev wsJ80 : List Cond := u_ws RJ8 TJ8 0
theorem nmJ8 : ∀ a, a < 0 → ∀ b, b < 0 → a ≠ b → (TJ8 a).2.1 ≠ (TJ8 b).2.1 := by decide +kernel
theorem tyJ8_ok : ∀ k, k < 0 → parseFieldDescriptor (TJ8 k).2.2.1 = some (tyJ8 k) := by decide +kernel
abbrev cJ8_newLength_cabcc : ByteArray := prog_48_method_27_code
def yJ8_newLength_cabcc : MethodName := ⟨RJ8, "newLength", "(III)I"⟩
abbrev cJ8_hugeLength_7cf53 : ByteArray := prog_48_method_28_code
def yJ8_hugeLength_7cf53 : MethodName := ⟨RJ8, "hugeLength", "(II)I"⟩
def RJ3 : String := "jdk/internal/util/Preconditions"
def TJ3 : u_T := fun k => match k with
  | _ => ("", "", "", false)
def tyJ3 : Nat → FieldType := fun k => match k with
  | _ => .int
abbrev wsJ30 : List Cond := u_ws RJ3 TJ3 0
theorem nmJ3 : ∀ a, a < 0 → ∀ b, b < 0 → a ≠ b → (TJ3 a).2.1 ≠ (TJ3 b).2.1 := by decide +kernel
theorem tyJ3_ok : ∀ k, k < 0 → parseFieldDescriptor (TJ3 k).2.2.1 = some (tyJ3 k) := by decide +kernel
abbrev cJ3_checkIndex_8e157 : ByteArray := prog_49_method_11_code
def yJ3_checkIndex_8e157 : MethodName := ⟨RJ3, "checkIndex", "(IILjava/util/function/BiFunction;)I"⟩
abbrev cJ3_checkFromToIndex_8c36e : ByteArray := prog_49_method_12_code
def yJ3_checkFromToIndex_8c36e : MethodName := ⟨RJ3, "checkFromToIndex", "(IIILjava/util/function/BiFunction;)I"⟩
abbrev cJ3_checkFromIndexSize_8c36e : ByteArray := prog_49_method_13_code
def yJ3_checkFromIndexSize_8c36e : MethodName := ⟨RJ3, "checkFromIndexSize", "(IIILjava/util/function/BiFunction;)I"⟩
def RL : String := "ShellPairLaw"
abbrev cL_feed : ByteArray := method_3_code
def yL_feed : MethodName := ⟨RL, "feed", "(LShellPair;IIIII[J)I"⟩
abbrev cL_end : ByteArray := method_4_code
def yL_end : MethodName := ⟨RL, "end", "(LShellPair;I[J)I"⟩
abbrev cL_secret : ByteArray := method_5_code
def yL_secret : MethodName := ⟨RL, "secret", "(LShellPair;I)I"⟩
abbrev cL_user : ByteArray := method_6_code
def yL_user : MethodName := ⟨RL, "user", "(LShellPair;IZ[J)I"⟩
abbrev cL_allow : ByteArray := method_7_code
def yL_allow : MethodName := ⟨RL, "allow", "(LShellPair;I)I"⟩
abbrev cL_set : ByteArray := method_8_code
def yL_set : MethodName := ⟨RL, "set", "(LShellPair;III[J)I"⟩
abbrev cL_port : ByteArray := method_9_code
def yL_port : MethodName := ⟨RL, "port", "(LShellPair;IZ)I"⟩
abbrev cL_start : ByteArray := method_10_code
def yL_start : MethodName := ⟨RL, "start", "(LShellPair;)I"⟩
abbrev cL_move : ByteArray := method_11_code
def yL_move : MethodName := ⟨RL, "move", "(LShellPair;II[J)I"⟩
abbrev cL_flip : ByteArray := method_12_code
def yL_flip : MethodName := ⟨RL, "flip", "(LShellPair;III[J)I"⟩
abbrev cL_seen : ByteArray := method_13_code
def yL_seen : MethodName := ⟨RL, "seen", "(LShellPair;II[J)I"⟩
abbrev cL_inject : ByteArray := method_14_code
def yL_inject : MethodName := ⟨RL, "inject", "(LShellPair;I[J)I"⟩
abbrev cL_open : ByteArray := method_15_code
def yL_open : MethodName := ⟨RL, "open", "(LShellPair;I[J)I"⟩
abbrev cL_exec : ByteArray := method_16_code
def yL_exec : MethodName := ⟨RL, "exec", "(LShellPair;I)I"⟩
abbrev cL_write : ByteArray := method_17_code
def yL_write : MethodName := ⟨RL, "write", "(LShellPair;IZ[J)I"⟩
abbrev cL_read : ByteArray := method_18_code
def yL_read : MethodName := ⟨RL, "read", "(LShellPair;III[J)I"⟩
abbrev cL_finish : ByteArray := method_19_code
def yL_finish : MethodName := ⟨RL, "finish", "(LShellPair;II)I"⟩
abbrev cL_rekey : ByteArray := method_20_code
def yL_rekey : MethodName := ⟨RL, "rekey", "(LShellPair;I)I"⟩
abbrev cL_quit : ByteArray := method_21_code
def yL_quit : MethodName := ⟨RL, "quit", "(LShellPair;I)I"⟩
abbrev cL_about : ByteArray := method_22_code
def yL_about : MethodName := ⟨RL, "about", "(LShellPair;II[J)I"⟩
abbrev cL_channel : ByteArray := method_23_code
def yL_channel : MethodName := ⟨RL, "channel", "(LShellPair;II[J)I"⟩
abbrev cL_law : ByteArray := code
def yL_law : MethodName := ⟨RL, "law", "([I)Z"⟩
theorem dX0_init_0 : decode cX0_init 0 = .ok (.aload_n 0, 1) := by decide +kernel
theorem dX0_init_1 : decode cX0_init 1 = .ok (.invokespecial 1, 3) := by decide +kernel
theorem dX0_init_4 : decode cX0_init 4 = .ok (.aload_n 0, 1) := by decide +kernel
theorem dX0_init_5 : decode cX0_init 5 = .ok (.sipush 1024, 3) := by decide +kernel
theorem dX0_init_8 : decode cX0_init 8 = .ok (.newarray .int, 2) := by decide +kernel
theorem dX0_init_10 : decode cX0_init 10 = .ok (.putfield 7, 3) := by decide +kernel
theorem dX0_init_13 : decode cX0_init 13 = .ok (.aload_n 0, 1) := by decide +kernel
theorem dX0_init_14 : decode cX0_init 14 = .ok (.bipush 60, 2) := by decide +kernel
theorem dX0_init_16 : decode cX0_init 16 = .ok (.newarray .int, 2) := by decide +kernel
theorem dX0_init_18 : decode cX0_init 18 = .ok (.putfield 13, 3) := by decide +kernel
theorem dX0_init_21 : decode cX0_init 21 = .ok (.aload_n 0, 1) := by decide +kernel
theorem dX0_init_22 : decode cX0_init 22 = .ok (.iconst 4, 1) := by decide +kernel
theorem dX0_init_23 : decode cX0_init 23 = .ok (.newarray .int, 2) := by decide +kernel
theorem dX0_init_25 : decode cX0_init 25 = .ok (.putfield 16, 3) := by decide +kernel
theorem dX0_init_28 : decode cX0_init 28 = .ok (.aload_n 0, 1) := by decide +kernel
theorem dX0_init_29 : decode cX0_init 29 = .ok (.iconst 4, 1) := by decide +kernel
theorem dX0_init_30 : decode cX0_init 30 = .ok (.newarray .int, 2) := by decide +kernel
theorem dX0_init_32 : decode cX0_init 32 = .ok (.putfield 19, 3) := by decide +kernel
theorem dX0_init_35 : decode cX0_init 35 = .ok (.iconst 0, 1) := by decide +kernel
theorem dX0_init_36 : decode cX0_init 36 = .ok (.istore_n 1, 1) := by decide +kernel
theorem dX0_init_37 : decode cX0_init 37 = .ok (.iload_n 1, 1) := by decide +kernel
theorem dX0_init_38 : decode cX0_init 38 = .ok (.sipush 256, 3) := by decide +kernel
theorem dX0_init_41 : decode cX0_init 41 = .ok (.if_icmp .ge 126, 3) := by decide +kernel
theorem dX0_init_44 : decode cX0_init 44 = .ok (.getstatic 22, 3) := by decide +kernel
theorem dX0_init_47 : decode cX0_init 47 = .ok (.iload_n 1, 1) := by decide +kernel
theorem dX0_init_48 : decode cX0_init 48 = .ok (.iaload, 1) := by decide +kernel
theorem dX0_init_49 : decode cX0_init 49 = .ok (.istore_n 2, 1) := by decide +kernel
theorem dX0_init_50 : decode cX0_init 50 = .ok (.iload_n 2, 1) := by decide +kernel
theorem dX0_init_51 : decode cX0_init 51 = .ok (.iconst 1, 1) := by decide +kernel
theorem dX0_init_52 : decode cX0_init 52 = .ok (.ishl, 1) := by decide +kernel
theorem dX0_init_53 : decode cX0_init 53 = .ok (.iload_n 2, 1) := by decide +kernel
theorem dX0_init_54 : decode cX0_init 54 = .ok (.sipush 128, 3) := by decide +kernel
theorem dX0_init_57 : decode cX0_init 57 = .ok (.iand, 1) := by decide +kernel
theorem dX0_init_58 : decode cX0_init 58 = .ok (.ifCond .ne 7, 3) := by decide +kernel
theorem dX0_init_61 : decode cX0_init 61 = .ok (.iconst 0, 1) := by decide +kernel
theorem dX0_init_62 : decode cX0_init 62 = .ok (.goto 6, 3) := by decide +kernel
theorem dX0_init_65 : decode cX0_init 65 = .ok (.sipush 283, 3) := by decide +kernel
theorem dX0_init_68 : decode cX0_init 68 = .ok (.ixor, 1) := by decide +kernel
theorem dX0_init_69 : decode cX0_init 69 = .ok (.istore_n 3, 1) := by decide +kernel
theorem dX0_init_70 : decode cX0_init 70 = .ok (.iload_n 3, 1) := by decide +kernel
theorem dX0_init_71 : decode cX0_init 71 = .ok (.bipush 24, 2) := by decide +kernel
theorem dX0_init_73 : decode cX0_init 73 = .ok (.ishl, 1) := by decide +kernel
theorem dX0_init_74 : decode cX0_init 74 = .ok (.iload_n 2, 1) := by decide +kernel
theorem dX0_init_75 : decode cX0_init 75 = .ok (.bipush 16, 2) := by decide +kernel
theorem dX0_init_77 : decode cX0_init 77 = .ok (.ishl, 1) := by decide +kernel
theorem dX0_init_78 : decode cX0_init 78 = .ok (.ior, 1) := by decide +kernel
theorem dX0_init_79 : decode cX0_init 79 = .ok (.iload_n 2, 1) := by decide +kernel
theorem dX0_init_80 : decode cX0_init 80 = .ok (.bipush 8, 2) := by decide +kernel
theorem dX0_init_82 : decode cX0_init 82 = .ok (.ishl, 1) := by decide +kernel
theorem dX0_init_83 : decode cX0_init 83 = .ok (.ior, 1) := by decide +kernel
theorem dX0_init_84 : decode cX0_init 84 = .ok (.iload_n 3, 1) := by decide +kernel
theorem dX0_init_85 : decode cX0_init 85 = .ok (.iload_n 2, 1) := by decide +kernel
theorem dX0_init_86 : decode cX0_init 86 = .ok (.ixor, 1) := by decide +kernel
theorem dX0_init_87 : decode cX0_init 87 = .ok (.ior, 1) := by decide +kernel
theorem dX0_init_88 : decode cX0_init 88 = .ok (.istore 4, 2) := by decide +kernel
theorem dX0_init_90 : decode cX0_init 90 = .ok (.aload_n 0, 1) := by decide +kernel
theorem dX0_init_91 : decode cX0_init 91 = .ok (.getfield 7, 3) := by decide +kernel
theorem dX0_init_94 : decode cX0_init 94 = .ok (.iload_n 1, 1) := by decide +kernel
theorem dX0_init_95 : decode cX0_init 95 = .ok (.iload 4, 2) := by decide +kernel
theorem dX0_init_97 : decode cX0_init 97 = .ok (.iastore, 1) := by decide +kernel
theorem dX0_init_98 : decode cX0_init 98 = .ok (.aload_n 0, 1) := by decide +kernel
theorem dX0_init_99 : decode cX0_init 99 = .ok (.getfield 7, 3) := by decide +kernel
theorem dX0_init_102 : decode cX0_init 102 = .ok (.sipush 256, 3) := by decide +kernel
theorem dX0_init_105 : decode cX0_init 105 = .ok (.iload_n 1, 1) := by decide +kernel
theorem dX0_init_106 : decode cX0_init 106 = .ok (.iadd, 1) := by decide +kernel
theorem dX0_init_107 : decode cX0_init 107 = .ok (.iload 4, 2) := by decide +kernel
theorem dX0_init_109 : decode cX0_init 109 = .ok (.bipush 8, 2) := by decide +kernel
theorem dX0_init_111 : decode cX0_init 111 = .ok (.iushr, 1) := by decide +kernel
theorem dX0_init_112 : decode cX0_init 112 = .ok (.iload 4, 2) := by decide +kernel
theorem dX0_init_114 : decode cX0_init 114 = .ok (.bipush 24, 2) := by decide +kernel
theorem dX0_init_116 : decode cX0_init 116 = .ok (.ishl, 1) := by decide +kernel
theorem dX0_init_117 : decode cX0_init 117 = .ok (.ior, 1) := by decide +kernel
theorem dX0_init_118 : decode cX0_init 118 = .ok (.iastore, 1) := by decide +kernel
theorem dX0_init_119 : decode cX0_init 119 = .ok (.aload_n 0, 1) := by decide +kernel
theorem dX0_init_120 : decode cX0_init 120 = .ok (.getfield 7, 3) := by decide +kernel
theorem dX0_init_123 : decode cX0_init 123 = .ok (.sipush 512, 3) := by decide +kernel
theorem dX0_init_126 : decode cX0_init 126 = .ok (.iload_n 1, 1) := by decide +kernel
theorem dX0_init_127 : decode cX0_init 127 = .ok (.iadd, 1) := by decide +kernel
theorem dX0_init_128 : decode cX0_init 128 = .ok (.iload 4, 2) := by decide +kernel
theorem dX0_init_130 : decode cX0_init 130 = .ok (.bipush 16, 2) := by decide +kernel
theorem dX0_init_132 : decode cX0_init 132 = .ok (.iushr, 1) := by decide +kernel
theorem dX0_init_133 : decode cX0_init 133 = .ok (.iload 4, 2) := by decide +kernel
theorem dX0_init_135 : decode cX0_init 135 = .ok (.bipush 16, 2) := by decide +kernel
theorem dX0_init_137 : decode cX0_init 137 = .ok (.ishl, 1) := by decide +kernel
theorem dX0_init_138 : decode cX0_init 138 = .ok (.ior, 1) := by decide +kernel
theorem dX0_init_139 : decode cX0_init 139 = .ok (.iastore, 1) := by decide +kernel
theorem dX0_init_140 : decode cX0_init 140 = .ok (.aload_n 0, 1) := by decide +kernel
theorem dX0_init_141 : decode cX0_init 141 = .ok (.getfield 7, 3) := by decide +kernel
theorem dX0_init_144 : decode cX0_init 144 = .ok (.sipush 768, 3) := by decide +kernel
theorem dX0_init_147 : decode cX0_init 147 = .ok (.iload_n 1, 1) := by decide +kernel
theorem dX0_init_148 : decode cX0_init 148 = .ok (.iadd, 1) := by decide +kernel
theorem dX0_init_149 : decode cX0_init 149 = .ok (.iload 4, 2) := by decide +kernel
theorem dX0_init_151 : decode cX0_init 151 = .ok (.bipush 24, 2) := by decide +kernel
theorem dX0_init_153 : decode cX0_init 153 = .ok (.iushr, 1) := by decide +kernel
theorem dX0_init_154 : decode cX0_init 154 = .ok (.iload 4, 2) := by decide +kernel
theorem dX0_init_156 : decode cX0_init 156 = .ok (.bipush 8, 2) := by decide +kernel
theorem dX0_init_158 : decode cX0_init 158 = .ok (.ishl, 1) := by decide +kernel
theorem dX0_init_159 : decode cX0_init 159 = .ok (.ior, 1) := by decide +kernel
theorem dX0_init_160 : decode cX0_init 160 = .ok (.iastore, 1) := by decide +kernel
theorem dX0_init_161 : decode cX0_init 161 = .ok (.iinc 1 1, 3) := by decide +kernel
theorem dX0_init_164 : decode cX0_init 164 = .ok (.goto (-127), 3) := by decide +kernel
theorem dX0_init_167 : decode cX0_init 167 = .ok (.return_, 1) := by decide +kernel
theorem dX1_init_0 : decode cX1_init 0 = .ok (.aload_n 0, 1) := by decide +kernel
theorem dX1_init_1 : decode cX1_init 1 = .ok (.invokespecial 3, 3) := by decide +kernel
theorem dX1_init_4 : decode cX1_init 4 = .ok (.aload_n 0, 1) := by decide +kernel
theorem dX1_init_5 : decode cX1_init 5 = .ok (.iload_n 1, 1) := by decide +kernel
theorem dX1_init_6 : decode cX1_init 6 = .ok (.iconst 1, 1) := by decide +kernel
theorem dX1_init_7 : decode cX1_init 7 = .ok (.invokestatic 9, 3) := by decide +kernel
theorem dX1_init_10 : decode cX1_init 10 = .ok (.newarray .byte, 2) := by decide +kernel
theorem dX1_init_12 : decode cX1_init 12 = .ok (.putfield 15, 3) := by decide +kernel
theorem dX1_init_15 : decode cX1_init 15 = .ok (.return_, 1) := by decide +kernel
theorem dX1_clear_0 : decode cX1_clear 0 = .ok (.aload_n 0, 1) := by decide +kernel
theorem dX1_clear_1 : decode cX1_clear 1 = .ok (.iconst 0, 1) := by decide +kernel
theorem dX1_clear_2 : decode cX1_clear 2 = .ok (.putfield 21, 3) := by decide +kernel
theorem dX1_clear_5 : decode cX1_clear 5 = .ok (.aload_n 0, 1) := by decide +kernel
theorem dX1_clear_6 : decode cX1_clear 6 = .ok (.iconst 0, 1) := by decide +kernel
theorem dX1_clear_7 : decode cX1_clear 7 = .ok (.putfield 25, 3) := by decide +kernel
theorem dX1_clear_10 : decode cX1_clear 10 = .ok (.aload_n 0, 1) := by decide +kernel
theorem dX1_clear_11 : decode cX1_clear 11 = .ok (.iconst 0, 1) := by decide +kernel
theorem dX1_clear_12 : decode cX1_clear 12 = .ok (.putfield 28, 3) := by decide +kernel
theorem dX1_clear_15 : decode cX1_clear 15 = .ok (.aload_n 0, 1) := by decide +kernel
theorem dX1_clear_16 : decode cX1_clear 16 = .ok (.iconst 0, 1) := by decide +kernel
theorem dX1_clear_17 : decode cX1_clear 17 = .ok (.putfield 31, 3) := by decide +kernel
theorem dX1_clear_20 : decode cX1_clear 20 = .ok (.aload_n 0, 1) := by decide +kernel
theorem dX1_clear_21 : decode cX1_clear 21 = .ok (.iconst 0, 1) := by decide +kernel
theorem dX1_clear_22 : decode cX1_clear 22 = .ok (.putfield 35, 3) := by decide +kernel
theorem dX1_clear_25 : decode cX1_clear 25 = .ok (.return_, 1) := by decide +kernel
theorem dX1_cut_0 : decode cX1_cut 0 = .ok (.iload_n 1, 1) := by decide +kernel
theorem dX1_cut_1 : decode cX1_cut 1 = .ok (.ifCond .lt 16, 3) := by decide +kernel
theorem dX1_cut_4 : decode cX1_cut 4 = .ok (.iload_n 1, 1) := by decide +kernel
theorem dX1_cut_5 : decode cX1_cut 5 = .ok (.aload_n 0, 1) := by decide +kernel
theorem dX1_cut_6 : decode cX1_cut 6 = .ok (.getfield 25, 3) := by decide +kernel
theorem dX1_cut_9 : decode cX1_cut 9 = .ok (.if_icmp .ge 8, 3) := by decide +kernel
theorem dX1_cut_12 : decode cX1_cut 12 = .ok (.aload_n 0, 1) := by decide +kernel
theorem dX1_cut_13 : decode cX1_cut 13 = .ok (.iload_n 1, 1) := by decide +kernel
theorem dX1_cut_14 : decode cX1_cut 14 = .ok (.putfield 25, 3) := by decide +kernel
theorem dX1_cut_17 : decode cX1_cut 17 = .ok (.return_, 1) := by decide +kernel
theorem dX1_makeRoom_0 : decode cX1_makeRoom 0 = .ok (.iload_n 1, 1) := by decide +kernel
theorem dX1_makeRoom_1 : decode cX1_makeRoom 1 = .ok (.ifCond .lt 22, 3) := by decide +kernel
theorem dX1_makeRoom_4 : decode cX1_makeRoom 4 = .ok (.aload_n 0, 1) := by decide +kernel
theorem dX1_makeRoom_5 : decode cX1_makeRoom 5 = .ok (.getfield 21, 3) := by decide +kernel
theorem dX1_makeRoom_8 : decode cX1_makeRoom 8 = .ok (.aload_n 0, 1) := by decide +kernel
theorem dX1_makeRoom_9 : decode cX1_makeRoom 9 = .ok (.getfield 25, 3) := by decide +kernel
theorem dX1_makeRoom_12 : decode cX1_makeRoom 12 = .ok (.iadd, 1) := by decide +kernel
theorem dX1_makeRoom_13 : decode cX1_makeRoom 13 = .ok (.iload_n 1, 1) := by decide +kernel
theorem dX1_makeRoom_14 : decode cX1_makeRoom 14 = .ok (.iadd, 1) := by decide +kernel
theorem dX1_makeRoom_15 : decode cX1_makeRoom 15 = .ok (.aload_n 0, 1) := by decide +kernel
theorem dX1_makeRoom_16 : decode cX1_makeRoom 16 = .ok (.getfield 15, 3) := by decide +kernel
theorem dX1_makeRoom_19 : decode cX1_makeRoom 19 = .ok (.arraylength, 1) := by decide +kernel
theorem dX1_makeRoom_20 : decode cX1_makeRoom 20 = .ok (.if_icmp .gt 4, 3) := by decide +kernel
theorem dX1_makeRoom_23 : decode cX1_makeRoom 23 = .ok (.return_, 1) := by decide +kernel
theorem dX1_makeRoom_24 : decode cX1_makeRoom 24 = .ok (.aload_n 0, 1) := by decide +kernel
theorem dX1_makeRoom_25 : decode cX1_makeRoom 25 = .ok (.getfield 15, 3) := by decide +kernel
theorem dX1_makeRoom_28 : decode cX1_makeRoom 28 = .ok (.astore_n 2, 1) := by decide +kernel
theorem dX1_makeRoom_29 : decode cX1_makeRoom 29 = .ok (.aload_n 0, 1) := by decide +kernel
theorem dX1_makeRoom_30 : decode cX1_makeRoom 30 = .ok (.getfield 25, 3) := by decide +kernel
theorem dX1_makeRoom_33 : decode cX1_makeRoom 33 = .ok (.iload_n 1, 1) := by decide +kernel
theorem dX1_makeRoom_34 : decode cX1_makeRoom 34 = .ok (.iadd, 1) := by decide +kernel
theorem dX1_makeRoom_35 : decode cX1_makeRoom 35 = .ok (.aload_n 0, 1) := by decide +kernel
theorem dX1_makeRoom_36 : decode cX1_makeRoom 36 = .ok (.getfield 15, 3) := by decide +kernel
theorem dX1_makeRoom_39 : decode cX1_makeRoom 39 = .ok (.arraylength, 1) := by decide +kernel
theorem dX1_makeRoom_40 : decode cX1_makeRoom 40 = .ok (.if_icmp .le 25, 3) := by decide +kernel
theorem dX1_makeRoom_43 : decode cX1_makeRoom 43 = .ok (.aload_n 0, 1) := by decide +kernel
theorem dX1_makeRoom_44 : decode cX1_makeRoom 44 = .ok (.iconst 2, 1) := by decide +kernel
theorem dX1_makeRoom_45 : decode cX1_makeRoom 45 = .ok (.aload_n 0, 1) := by decide +kernel
theorem dX1_makeRoom_46 : decode cX1_makeRoom 46 = .ok (.getfield 15, 3) := by decide +kernel
theorem dX1_makeRoom_49 : decode cX1_makeRoom 49 = .ok (.arraylength, 1) := by decide +kernel
theorem dX1_makeRoom_50 : decode cX1_makeRoom 50 = .ok (.imul, 1) := by decide +kernel
theorem dX1_makeRoom_51 : decode cX1_makeRoom 51 = .ok (.aload_n 0, 1) := by decide +kernel
theorem dX1_makeRoom_52 : decode cX1_makeRoom 52 = .ok (.getfield 25, 3) := by decide +kernel
theorem dX1_makeRoom_55 : decode cX1_makeRoom 55 = .ok (.iload_n 1, 1) := by decide +kernel
theorem dX1_makeRoom_56 : decode cX1_makeRoom 56 = .ok (.iadd, 1) := by decide +kernel
theorem dX1_makeRoom_57 : decode cX1_makeRoom 57 = .ok (.invokestatic 9, 3) := by decide +kernel
theorem dX1_makeRoom_60 : decode cX1_makeRoom 60 = .ok (.newarray .byte, 2) := by decide +kernel
theorem dX1_makeRoom_62 : decode cX1_makeRoom 62 = .ok (.putfield 15, 3) := by decide +kernel
theorem dX1_makeRoom_65 : decode cX1_makeRoom 65 = .ok (.aload_n 2, 1) := by decide +kernel
theorem dX1_makeRoom_66 : decode cX1_makeRoom 66 = .ok (.aload_n 0, 1) := by decide +kernel
theorem dX1_makeRoom_67 : decode cX1_makeRoom 67 = .ok (.getfield 21, 3) := by decide +kernel
theorem dX1_makeRoom_70 : decode cX1_makeRoom 70 = .ok (.aload_n 0, 1) := by decide +kernel
theorem dX1_makeRoom_71 : decode cX1_makeRoom 71 = .ok (.getfield 15, 3) := by decide +kernel
theorem dX1_makeRoom_74 : decode cX1_makeRoom 74 = .ok (.iconst 0, 1) := by decide +kernel
theorem dX1_makeRoom_75 : decode cX1_makeRoom 75 = .ok (.aload_n 0, 1) := by decide +kernel
theorem dX1_makeRoom_76 : decode cX1_makeRoom 76 = .ok (.getfield 25, 3) := by decide +kernel
theorem dX1_makeRoom_79 : decode cX1_makeRoom 79 = .ok (.invokestatic 56, 3) := by decide +kernel
theorem dX1_makeRoom_82 : decode cX1_makeRoom 82 = .ok (.aload_n 0, 1) := by decide +kernel
theorem dX1_makeRoom_83 : decode cX1_makeRoom 83 = .ok (.iconst 0, 1) := by decide +kernel
theorem dX1_makeRoom_84 : decode cX1_makeRoom 84 = .ok (.putfield 21, 3) := by decide +kernel
theorem dX1_makeRoom_87 : decode cX1_makeRoom 87 = .ok (.return_, 1) := by decide +kernel
theorem dX1_put_0 : decode cX1_put 0 = .ok (.aload_n 0, 1) := by decide +kernel
theorem dX1_put_1 : decode cX1_put 1 = .ok (.iconst 1, 1) := by decide +kernel
theorem dX1_put_2 : decode cX1_put 2 = .ok (.invokevirtual 62, 3) := by decide +kernel
theorem dX1_put_5 : decode cX1_put 5 = .ok (.aload_n 0, 1) := by decide +kernel
theorem dX1_put_6 : decode cX1_put 6 = .ok (.getfield 15, 3) := by decide +kernel
theorem dX1_put_9 : decode cX1_put 9 = .ok (.aload_n 0, 1) := by decide +kernel
theorem dX1_put_10 : decode cX1_put 10 = .ok (.getfield 21, 3) := by decide +kernel
theorem dX1_put_13 : decode cX1_put 13 = .ok (.aload_n 0, 1) := by decide +kernel
theorem dX1_put_14 : decode cX1_put 14 = .ok (.getfield 25, 3) := by decide +kernel
theorem dX1_put_17 : decode cX1_put 17 = .ok (.iadd, 1) := by decide +kernel
theorem dX1_put_18 : decode cX1_put 18 = .ok (.iload_n 1, 1) := by decide +kernel
theorem dX1_put_19 : decode cX1_put 19 = .ok (.i2b, 1) := by decide +kernel
theorem dX1_put_20 : decode cX1_put 20 = .ok (.bastore, 1) := by decide +kernel
theorem dX1_put_21 : decode cX1_put 21 = .ok (.aload_n 0, 1) := by decide +kernel
theorem dX1_put_22 : decode cX1_put 22 = .ok (.dup, 1) := by decide +kernel
theorem dX1_put_23 : decode cX1_put 23 = .ok (.getfield 25, 3) := by decide +kernel
theorem dX1_put_26 : decode cX1_put 26 = .ok (.iconst 1, 1) := by decide +kernel
theorem dX1_put_27 : decode cX1_put 27 = .ok (.iadd, 1) := by decide +kernel
theorem dX1_put_28 : decode cX1_put 28 = .ok (.putfield 25, 3) := by decide +kernel
theorem dX1_put_31 : decode cX1_put 31 = .ok (.return_, 1) := by decide +kernel
theorem dX1_putInt_0 : decode cX1_putInt 0 = .ok (.aload_n 0, 1) := by decide +kernel
theorem dX1_putInt_1 : decode cX1_putInt 1 = .ok (.iconst 4, 1) := by decide +kernel
theorem dX1_putInt_2 : decode cX1_putInt 2 = .ok (.invokevirtual 62, 3) := by decide +kernel
theorem dX1_putInt_5 : decode cX1_putInt 5 = .ok (.bipush 24, 2) := by decide +kernel
theorem dX1_putInt_7 : decode cX1_putInt 7 = .ok (.istore_n 2, 1) := by decide +kernel
theorem dX1_putInt_8 : decode cX1_putInt 8 = .ok (.iload_n 2, 1) := by decide +kernel
theorem dX1_putInt_9 : decode cX1_putInt 9 = .ok (.ifCond .lt 37, 3) := by decide +kernel
theorem dX1_putInt_12 : decode cX1_putInt 12 = .ok (.aload_n 0, 1) := by decide +kernel
theorem dX1_putInt_13 : decode cX1_putInt 13 = .ok (.getfield 15, 3) := by decide +kernel
theorem dX1_putInt_16 : decode cX1_putInt 16 = .ok (.aload_n 0, 1) := by decide +kernel
theorem dX1_putInt_17 : decode cX1_putInt 17 = .ok (.getfield 21, 3) := by decide +kernel
theorem dX1_putInt_20 : decode cX1_putInt 20 = .ok (.aload_n 0, 1) := by decide +kernel
theorem dX1_putInt_21 : decode cX1_putInt 21 = .ok (.getfield 25, 3) := by decide +kernel
theorem dX1_putInt_24 : decode cX1_putInt 24 = .ok (.iadd, 1) := by decide +kernel
theorem dX1_putInt_25 : decode cX1_putInt 25 = .ok (.iload_n 1, 1) := by decide +kernel
theorem dX1_putInt_26 : decode cX1_putInt 26 = .ok (.iload_n 2, 1) := by decide +kernel
theorem dX1_putInt_27 : decode cX1_putInt 27 = .ok (.iushr, 1) := by decide +kernel
theorem dX1_putInt_28 : decode cX1_putInt 28 = .ok (.i2b, 1) := by decide +kernel
theorem dX1_putInt_29 : decode cX1_putInt 29 = .ok (.bastore, 1) := by decide +kernel
theorem dX1_putInt_30 : decode cX1_putInt 30 = .ok (.aload_n 0, 1) := by decide +kernel
theorem dX1_putInt_31 : decode cX1_putInt 31 = .ok (.dup, 1) := by decide +kernel
theorem dX1_putInt_32 : decode cX1_putInt 32 = .ok (.getfield 25, 3) := by decide +kernel
theorem dX1_putInt_35 : decode cX1_putInt 35 = .ok (.iconst 1, 1) := by decide +kernel
theorem dX1_putInt_36 : decode cX1_putInt 36 = .ok (.iadd, 1) := by decide +kernel
theorem dX1_putInt_37 : decode cX1_putInt 37 = .ok (.putfield 25, 3) := by decide +kernel
theorem dX1_putInt_40 : decode cX1_putInt 40 = .ok (.iinc 2 (-8), 3) := by decide +kernel
theorem dX1_putInt_43 : decode cX1_putInt 43 = .ok (.goto (-35), 3) := by decide +kernel
theorem dX1_putInt_46 : decode cX1_putInt 46 = .ok (.return_, 1) := by decide +kernel
theorem dX1_putText_0 : decode cX1_putText 0 = .ok (.aload_n 0, 1) := by decide +kernel
theorem dX1_putText_1 : decode cX1_putText 1 = .ok (.aload_n 1, 1) := by decide +kernel
theorem dX1_putText_2 : decode cX1_putText 2 = .ok (.invokevirtual 65, 3) := by decide +kernel
theorem dX1_putText_5 : decode cX1_putText 5 = .ok (.invokevirtual 62, 3) := by decide +kernel
theorem dX1_putText_8 : decode cX1_putText 8 = .ok (.iconst 0, 1) := by decide +kernel
theorem dX1_putText_9 : decode cX1_putText 9 = .ok (.istore_n 2, 1) := by decide +kernel
theorem dX1_putText_10 : decode cX1_putText 10 = .ok (.iload_n 2, 1) := by decide +kernel
theorem dX1_putText_11 : decode cX1_putText 11 = .ok (.aload_n 1, 1) := by decide +kernel
theorem dX1_putText_12 : decode cX1_putText 12 = .ok (.invokevirtual 65, 3) := by decide +kernel
theorem dX1_putText_15 : decode cX1_putText 15 = .ok (.if_icmp .ge 39, 3) := by decide +kernel
theorem dX1_putText_18 : decode cX1_putText 18 = .ok (.aload_n 0, 1) := by decide +kernel
theorem dX1_putText_19 : decode cX1_putText 19 = .ok (.getfield 15, 3) := by decide +kernel
theorem dX1_putText_22 : decode cX1_putText 22 = .ok (.aload_n 0, 1) := by decide +kernel
theorem dX1_putText_23 : decode cX1_putText 23 = .ok (.getfield 21, 3) := by decide +kernel
theorem dX1_putText_26 : decode cX1_putText 26 = .ok (.aload_n 0, 1) := by decide +kernel
theorem dX1_putText_27 : decode cX1_putText 27 = .ok (.getfield 25, 3) := by decide +kernel
theorem dX1_putText_30 : decode cX1_putText 30 = .ok (.iadd, 1) := by decide +kernel
theorem dX1_putText_31 : decode cX1_putText 31 = .ok (.aload_n 1, 1) := by decide +kernel
theorem dX1_putText_32 : decode cX1_putText 32 = .ok (.iload_n 2, 1) := by decide +kernel
theorem dX1_putText_33 : decode cX1_putText 33 = .ok (.invokevirtual 71, 3) := by decide +kernel
theorem dX1_putText_36 : decode cX1_putText 36 = .ok (.i2b, 1) := by decide +kernel
theorem dX1_putText_37 : decode cX1_putText 37 = .ok (.bastore, 1) := by decide +kernel
theorem dX1_putText_38 : decode cX1_putText 38 = .ok (.aload_n 0, 1) := by decide +kernel
theorem dX1_putText_39 : decode cX1_putText 39 = .ok (.dup, 1) := by decide +kernel
theorem dX1_putText_40 : decode cX1_putText 40 = .ok (.getfield 25, 3) := by decide +kernel
theorem dX1_putText_43 : decode cX1_putText 43 = .ok (.iconst 1, 1) := by decide +kernel
theorem dX1_putText_44 : decode cX1_putText 44 = .ok (.iadd, 1) := by decide +kernel
theorem dX1_putText_45 : decode cX1_putText 45 = .ok (.putfield 25, 3) := by decide +kernel
theorem dX1_putText_48 : decode cX1_putText 48 = .ok (.iinc 2 1, 3) := by decide +kernel
theorem dX1_putText_51 : decode cX1_putText 51 = .ok (.goto (-41), 3) := by decide +kernel
theorem dX1_putText_54 : decode cX1_putText 54 = .ok (.return_, 1) := by decide +kernel
theorem dX1_putName_0 : decode cX1_putName 0 = .ok (.aload_n 0, 1) := by decide +kernel
theorem dX1_putName_1 : decode cX1_putName 1 = .ok (.aload_n 1, 1) := by decide +kernel
theorem dX1_putName_2 : decode cX1_putName 2 = .ok (.invokevirtual 65, 3) := by decide +kernel
theorem dX1_putName_5 : decode cX1_putName 5 = .ok (.invokevirtual 75, 3) := by decide +kernel
theorem dX1_putName_8 : decode cX1_putName 8 = .ok (.aload_n 0, 1) := by decide +kernel
theorem dX1_putName_9 : decode cX1_putName 9 = .ok (.aload_n 1, 1) := by decide +kernel
theorem dX1_putName_10 : decode cX1_putName 10 = .ok (.invokevirtual 78, 3) := by decide +kernel
theorem dX1_putName_13 : decode cX1_putName 13 = .ok (.return_, 1) := by decide +kernel
theorem dX1_putAll_0 : decode cX1_putAll 0 = .ok (.aload_n 0, 1) := by decide +kernel
theorem dX1_putAll_1 : decode cX1_putAll 1 = .ok (.aload_n 1, 1) := by decide +kernel
theorem dX1_putAll_2 : decode cX1_putAll 2 = .ok (.getfield 25, 3) := by decide +kernel
theorem dX1_putAll_5 : decode cX1_putAll 5 = .ok (.invokevirtual 62, 3) := by decide +kernel
theorem dX1_putAll_8 : decode cX1_putAll 8 = .ok (.aload_n 1, 1) := by decide +kernel
theorem dX1_putAll_9 : decode cX1_putAll 9 = .ok (.getfield 15, 3) := by decide +kernel
theorem dX1_putAll_12 : decode cX1_putAll 12 = .ok (.aload_n 1, 1) := by decide +kernel
theorem dX1_putAll_13 : decode cX1_putAll 13 = .ok (.getfield 21, 3) := by decide +kernel
theorem dX1_putAll_16 : decode cX1_putAll 16 = .ok (.aload_n 0, 1) := by decide +kernel
theorem dX1_putAll_17 : decode cX1_putAll 17 = .ok (.getfield 15, 3) := by decide +kernel
theorem dX1_putAll_20 : decode cX1_putAll 20 = .ok (.aload_n 0, 1) := by decide +kernel
theorem dX1_putAll_21 : decode cX1_putAll 21 = .ok (.getfield 21, 3) := by decide +kernel
theorem dX1_putAll_24 : decode cX1_putAll 24 = .ok (.aload_n 0, 1) := by decide +kernel
theorem dX1_putAll_25 : decode cX1_putAll 25 = .ok (.getfield 25, 3) := by decide +kernel
theorem dX1_putAll_28 : decode cX1_putAll 28 = .ok (.iadd, 1) := by decide +kernel
theorem dX1_putAll_29 : decode cX1_putAll 29 = .ok (.aload_n 1, 1) := by decide +kernel
theorem dX1_putAll_30 : decode cX1_putAll 30 = .ok (.getfield 25, 3) := by decide +kernel
theorem dX1_putAll_33 : decode cX1_putAll 33 = .ok (.invokestatic 56, 3) := by decide +kernel
theorem dX1_putAll_36 : decode cX1_putAll 36 = .ok (.aload_n 0, 1) := by decide +kernel
theorem dX1_putAll_37 : decode cX1_putAll 37 = .ok (.dup, 1) := by decide +kernel
theorem dX1_putAll_38 : decode cX1_putAll 38 = .ok (.getfield 25, 3) := by decide +kernel
theorem dX1_putAll_41 : decode cX1_putAll 41 = .ok (.aload_n 1, 1) := by decide +kernel
theorem dX1_putAll_42 : decode cX1_putAll 42 = .ok (.getfield 25, 3) := by decide +kernel
theorem dX1_putAll_45 : decode cX1_putAll 45 = .ok (.iadd, 1) := by decide +kernel
theorem dX1_putAll_46 : decode cX1_putAll 46 = .ok (.putfield 25, 3) := by decide +kernel
theorem dX1_putAll_49 : decode cX1_putAll 49 = .ok (.return_, 1) := by decide +kernel
theorem dX1_at_0 : decode cX1_at 0 = .ok (.iload_n 1, 1) := by decide +kernel
theorem dX1_at_1 : decode cX1_at 1 = .ok (.ifCond .lt 29, 3) := by decide +kernel
theorem dX1_at_4 : decode cX1_at 4 = .ok (.iload_n 1, 1) := by decide +kernel
theorem dX1_at_5 : decode cX1_at 5 = .ok (.aload_n 0, 1) := by decide +kernel
theorem dX1_at_6 : decode cX1_at 6 = .ok (.getfield 25, 3) := by decide +kernel
theorem dX1_at_9 : decode cX1_at 9 = .ok (.if_icmp .ge 21, 3) := by decide +kernel
theorem dX1_at_12 : decode cX1_at 12 = .ok (.aload_n 0, 1) := by decide +kernel
theorem dX1_at_13 : decode cX1_at 13 = .ok (.getfield 15, 3) := by decide +kernel
theorem dX1_at_16 : decode cX1_at 16 = .ok (.aload_n 0, 1) := by decide +kernel
theorem dX1_at_17 : decode cX1_at 17 = .ok (.getfield 21, 3) := by decide +kernel
theorem dX1_at_20 : decode cX1_at 20 = .ok (.iload_n 1, 1) := by decide +kernel
theorem dX1_at_21 : decode cX1_at 21 = .ok (.iadd, 1) := by decide +kernel
theorem dX1_at_22 : decode cX1_at 22 = .ok (.baload, 1) := by decide +kernel
theorem dX1_at_23 : decode cX1_at 23 = .ok (.sipush 255, 3) := by decide +kernel
theorem dX1_at_26 : decode cX1_at 26 = .ok (.iand, 1) := by decide +kernel
theorem dX1_at_27 : decode cX1_at 27 = .ok (.goto 4, 3) := by decide +kernel
theorem dX1_at_30 : decode cX1_at 30 = .ok (.iconst 0, 1) := by decide +kernel
theorem dX1_at_31 : decode cX1_at 31 = .ok (.ireturn, 1) := by decide +kernel
theorem dX1_intAt_0 : decode cX1_intAt 0 = .ok (.aload_n 0, 1) := by decide +kernel
theorem dX1_intAt_1 : decode cX1_intAt 1 = .ok (.iload_n 1, 1) := by decide +kernel
theorem dX1_intAt_2 : decode cX1_intAt 2 = .ok (.invokevirtual 48, 3) := by decide +kernel
theorem dX1_intAt_5 : decode cX1_intAt 5 = .ok (.bipush 24, 2) := by decide +kernel
theorem dX1_intAt_7 : decode cX1_intAt 7 = .ok (.ishl, 1) := by decide +kernel
theorem dX1_intAt_8 : decode cX1_intAt 8 = .ok (.aload_n 0, 1) := by decide +kernel
theorem dX1_intAt_9 : decode cX1_intAt 9 = .ok (.iload_n 1, 1) := by decide +kernel
theorem dX1_intAt_10 : decode cX1_intAt 10 = .ok (.iconst 1, 1) := by decide +kernel
theorem dX1_intAt_11 : decode cX1_intAt 11 = .ok (.iadd, 1) := by decide +kernel
theorem dX1_intAt_12 : decode cX1_intAt 12 = .ok (.invokevirtual 48, 3) := by decide +kernel
theorem dX1_intAt_15 : decode cX1_intAt 15 = .ok (.bipush 16, 2) := by decide +kernel
theorem dX1_intAt_17 : decode cX1_intAt 17 = .ok (.ishl, 1) := by decide +kernel
theorem dX1_intAt_18 : decode cX1_intAt 18 = .ok (.ior, 1) := by decide +kernel
theorem dX1_intAt_19 : decode cX1_intAt 19 = .ok (.aload_n 0, 1) := by decide +kernel
theorem dX1_intAt_20 : decode cX1_intAt 20 = .ok (.iload_n 1, 1) := by decide +kernel
theorem dX1_intAt_21 : decode cX1_intAt 21 = .ok (.iconst 2, 1) := by decide +kernel
theorem dX1_intAt_22 : decode cX1_intAt 22 = .ok (.iadd, 1) := by decide +kernel
theorem dX1_intAt_23 : decode cX1_intAt 23 = .ok (.invokevirtual 48, 3) := by decide +kernel
theorem dX1_intAt_26 : decode cX1_intAt 26 = .ok (.bipush 8, 2) := by decide +kernel
theorem dX1_intAt_28 : decode cX1_intAt 28 = .ok (.ishl, 1) := by decide +kernel
theorem dX1_intAt_29 : decode cX1_intAt 29 = .ok (.ior, 1) := by decide +kernel
theorem dX1_intAt_30 : decode cX1_intAt 30 = .ok (.aload_n 0, 1) := by decide +kernel
theorem dX1_intAt_31 : decode cX1_intAt 31 = .ok (.iload_n 1, 1) := by decide +kernel
theorem dX1_intAt_32 : decode cX1_intAt 32 = .ok (.iconst 3, 1) := by decide +kernel
theorem dX1_intAt_33 : decode cX1_intAt 33 = .ok (.iadd, 1) := by decide +kernel
theorem dX1_intAt_34 : decode cX1_intAt 34 = .ok (.invokevirtual 48, 3) := by decide +kernel
theorem dX1_intAt_37 : decode cX1_intAt 37 = .ok (.ior, 1) := by decide +kernel
theorem dX1_intAt_38 : decode cX1_intAt 38 = .ok (.ireturn, 1) := by decide +kernel
theorem dX2_init_0 : decode cX2_init 0 = .ok (.aload_n 0, 1) := by decide +kernel
theorem dX2_init_1 : decode cX2_init 1 = .ok (.invokespecial 1, 3) := by decide +kernel
theorem dX2_init_4 : decode cX2_init 4 = .ok (.aload_n 0, 1) := by decide +kernel
theorem dX2_init_5 : decode cX2_init 5 = .ok (.bipush 40, 2) := by decide +kernel
theorem dX2_init_7 : decode cX2_init 7 = .ok (.newarray .byte, 2) := by decide +kernel
theorem dX2_init_9 : decode cX2_init 9 = .ok (.putfield 7, 3) := by decide +kernel
theorem dX2_init_12 : decode cX2_init 12 = .ok (.aload_n 0, 1) := by decide +kernel
theorem dX2_init_13 : decode cX2_init 13 = .ok (.bipush 32, 2) := by decide +kernel
theorem dX2_init_15 : decode cX2_init 15 = .ok (.newarray .byte, 2) := by decide +kernel
theorem dX2_init_17 : decode cX2_init 17 = .ok (.putfield 13, 3) := by decide +kernel
theorem dX2_init_20 : decode cX2_init 20 = .ok (.aload_n 0, 1) := by decide +kernel
theorem dX2_init_21 : decode cX2_init 21 = .ok (.bipush 32, 2) := by decide +kernel
theorem dX2_init_23 : decode cX2_init 23 = .ok (.putfield 16, 3) := by decide +kernel
theorem dX2_init_26 : decode cX2_init 26 = .ok (.aload_n 0, 1) := by decide +kernel
theorem dX2_init_27 : decode cX2_init 27 = .ok (.aload_n 1, 1) := by decide +kernel
theorem dX2_init_28 : decode cX2_init 28 = .ok (.putfield 20, 3) := by decide +kernel
theorem dX2_init_31 : decode cX2_init 31 = .ok (.return_, 1) := by decide +kernel
theorem dX3_init_0 : decode cX3_init 0 = .ok (.aload_n 0, 1) := by decide +kernel
theorem dX3_init_1 : decode cX3_init 1 = .ok (.invokespecial 3, 3) := by decide +kernel
theorem dX3_init_4 : decode cX3_init 4 = .ok (.aload_n 0, 1) := by decide +kernel
theorem dX3_init_5 : decode cX3_init 5 = .ok (.new 9, 3) := by decide +kernel
theorem dX3_init_8 : decode cX3_init 8 = .ok (.dup, 1) := by decide +kernel
theorem dX3_init_9 : decode cX3_init 9 = .ok (.bipush 64, 2) := by decide +kernel
theorem dX3_init_11 : decode cX3_init 11 = .ok (.invokespecial 11, 3) := by decide +kernel
theorem dX3_init_14 : decode cX3_init 14 = .ok (.putfield 14, 3) := by decide +kernel
theorem dX3_init_17 : decode cX3_init 17 = .ok (.aload_n 0, 1) := by decide +kernel
theorem dX3_init_18 : decode cX3_init 18 = .ok (.new 9, 3) := by decide +kernel
theorem dX3_init_21 : decode cX3_init 21 = .ok (.dup, 1) := by decide +kernel
theorem dX3_init_22 : decode cX3_init 22 = .ok (.bipush 16, 2) := by decide +kernel
theorem dX3_init_24 : decode cX3_init 24 = .ok (.invokespecial 11, 3) := by decide +kernel
theorem dX3_init_27 : decode cX3_init 27 = .ok (.putfield 20, 3) := by decide +kernel
theorem dX3_init_30 : decode cX3_init 30 = .ok (.aload_n 0, 1) := by decide +kernel
theorem dX3_init_31 : decode cX3_init 31 = .ok (.new 9, 3) := by decide +kernel
theorem dX3_init_34 : decode cX3_init 34 = .ok (.dup, 1) := by decide +kernel
theorem dX3_init_35 : decode cX3_init 35 = .ok (.bipush 64, 2) := by decide +kernel
theorem dX3_init_37 : decode cX3_init 37 = .ok (.invokespecial 11, 3) := by decide +kernel
theorem dX3_init_40 : decode cX3_init 40 = .ok (.putfield 23, 3) := by decide +kernel
theorem dX3_init_43 : decode cX3_init 43 = .ok (.aload_n 0, 1) := by decide +kernel
theorem dX3_init_44 : decode cX3_init 44 = .ok (.new 9, 3) := by decide +kernel
theorem dX3_init_47 : decode cX3_init 47 = .ok (.dup, 1) := by decide +kernel
theorem dX3_init_48 : decode cX3_init 48 = .ok (.bipush 32, 2) := by decide +kernel
theorem dX3_init_50 : decode cX3_init 50 = .ok (.invokespecial 11, 3) := by decide +kernel
theorem dX3_init_53 : decode cX3_init 53 = .ok (.putfield 26, 3) := by decide +kernel
theorem dX3_init_56 : decode cX3_init 56 = .ok (.aload_n 0, 1) := by decide +kernel
theorem dX3_init_57 : decode cX3_init 57 = .ok (.iconst (-1), 1) := by decide +kernel
theorem dX3_init_58 : decode cX3_init 58 = .ok (.putfield 29, 3) := by decide +kernel
theorem dX3_init_61 : decode cX3_init 61 = .ok (.return_, 1) := by decide +kernel
theorem dX3_inUse_0 : decode cX3_inUse 0 = .ok (.aload_n 0, 1) := by decide +kernel
theorem dX3_inUse_1 : decode cX3_inUse 1 = .ok (.getfield 29, 3) := by decide +kernel
theorem dX3_inUse_4 : decode cX3_inUse 4 = .ok (.ifCond .eq 11, 3) := by decide +kernel
theorem dX3_inUse_7 : decode cX3_inUse 7 = .ok (.aload_n 0, 1) := by decide +kernel
theorem dX3_inUse_8 : decode cX3_inUse 8 = .ok (.getfield 29, 3) := by decide +kernel
theorem dX3_inUse_11 : decode cX3_inUse 11 = .ok (.iconst 1, 1) := by decide +kernel
theorem dX3_inUse_12 : decode cX3_inUse 12 = .ok (.if_icmp .ne 7, 3) := by decide +kernel
theorem dX3_inUse_15 : decode cX3_inUse 15 = .ok (.iconst 1, 1) := by decide +kernel
theorem dX3_inUse_16 : decode cX3_inUse 16 = .ok (.goto 4, 3) := by decide +kernel
theorem dX3_inUse_19 : decode cX3_inUse 19 = .ok (.iconst 0, 1) := by decide +kernel
theorem dX3_inUse_20 : decode cX3_inUse 20 = .ok (.ireturn, 1) := by decide +kernel
theorem dX3_tells_0 : decode cX3_tells 0 = .ok (.iload_n 1, 1) := by decide +kernel
theorem dX3_tells_1 : decode cX3_tells 1 = .ok (.tableswitch 117 0 8 #[51, 56, 61, 66, 74, 82, 90, 96, 101], 51) := by decide +kernel
theorem dX3_tells_52 : decode cX3_tells 52 = .ok (.aload_n 0, 1) := by decide +kernel
theorem dX3_tells_53 : decode cX3_tells 53 = .ok (.getfield 29, 3) := by decide +kernel
theorem dX3_tells_56 : decode cX3_tells 56 = .ok (.ireturn, 1) := by decide +kernel
theorem dX3_tells_57 : decode cX3_tells 57 = .ok (.aload_n 0, 1) := by decide +kernel
theorem dX3_tells_58 : decode cX3_tells 58 = .ok (.getfield 61, 3) := by decide +kernel
theorem dX3_tells_61 : decode cX3_tells 61 = .ok (.ireturn, 1) := by decide +kernel
theorem dX3_tells_62 : decode cX3_tells 62 = .ok (.aload_n 0, 1) := by decide +kernel
theorem dX3_tells_63 : decode cX3_tells 63 = .ok (.getfield 58, 3) := by decide +kernel
theorem dX3_tells_66 : decode cX3_tells 66 = .ok (.ireturn, 1) := by decide +kernel
theorem dX3_tells_67 : decode cX3_tells 67 = .ok (.aload_n 0, 1) := by decide +kernel
theorem dX3_tells_68 : decode cX3_tells 68 = .ok (.getfield 14, 3) := by decide +kernel
theorem dX3_tells_71 : decode cX3_tells 71 = .ok (.getfield 79, 3) := by decide +kernel
theorem dX3_tells_74 : decode cX3_tells 74 = .ok (.ireturn, 1) := by decide +kernel
theorem dX3_tells_75 : decode cX3_tells 75 = .ok (.aload_n 0, 1) := by decide +kernel
theorem dX3_tells_76 : decode cX3_tells 76 = .ok (.getfield 20, 3) := by decide +kernel
theorem dX3_tells_79 : decode cX3_tells 79 = .ok (.getfield 79, 3) := by decide +kernel
theorem dX3_tells_82 : decode cX3_tells 82 = .ok (.ireturn, 1) := by decide +kernel
theorem dX3_tells_83 : decode cX3_tells 83 = .ok (.aload_n 0, 1) := by decide +kernel
theorem dX3_tells_84 : decode cX3_tells 84 = .ok (.getfield 23, 3) := by decide +kernel
theorem dX3_tells_87 : decode cX3_tells 87 = .ok (.getfield 79, 3) := by decide +kernel
theorem dX3_tells_90 : decode cX3_tells 90 = .ok (.ireturn, 1) := by decide +kernel
theorem dX3_tells_91 : decode cX3_tells 91 = .ok (.aload_n 0, 1) := by decide +kernel
theorem dX3_tells_92 : decode cX3_tells 92 = .ok (.getfield 42, 3) := by decide +kernel
theorem dX3_tells_95 : decode cX3_tells 95 = .ok (.l2i, 1) := by decide +kernel
theorem dX3_tells_96 : decode cX3_tells 96 = .ok (.ireturn, 1) := by decide +kernel
theorem dX3_tells_97 : decode cX3_tells 97 = .ok (.aload_n 0, 1) := by decide +kernel
theorem dX3_tells_98 : decode cX3_tells 98 = .ok (.getfield 49, 3) := by decide +kernel
theorem dX3_tells_101 : decode cX3_tells 101 = .ok (.ireturn, 1) := by decide +kernel
theorem dX3_tells_102 : decode cX3_tells 102 = .ok (.aload_n 0, 1) := by decide +kernel
theorem dX3_tells_103 : decode cX3_tells 103 = .ok (.sipush 192, 3) := by decide +kernel
theorem dX3_tells_106 : decode cX3_tells 106 = .ok (.invokevirtual 82, 3) := by decide +kernel
theorem dX3_tells_109 : decode cX3_tells 109 = .ok (.ifCond .eq 7, 3) := by decide +kernel
theorem dX3_tells_112 : decode cX3_tells 112 = .ok (.iconst 1, 1) := by decide +kernel
theorem dX3_tells_113 : decode cX3_tells 113 = .ok (.goto 4, 3) := by decide +kernel
theorem dX3_tells_116 : decode cX3_tells 116 = .ok (.iconst 0, 1) := by decide +kernel
theorem dX3_tells_117 : decode cX3_tells 117 = .ok (.ireturn, 1) := by decide +kernel
theorem dX3_tells_118 : decode cX3_tells 118 = .ok (.iload_n 1, 1) := by decide +kernel
theorem dX3_tells_119 : decode cX3_tells 119 = .ok (.bipush 9, 2) := by decide +kernel
theorem dX3_tells_121 : decode cX3_tells 121 = .ok (.if_icmp .ne 10, 3) := by decide +kernel
theorem dX3_tells_124 : decode cX3_tells 124 = .ok (.aload_n 0, 1) := by decide +kernel
theorem dX3_tells_125 : decode cX3_tells 125 = .ok (.getfield 67, 3) := by decide +kernel
theorem dX3_tells_128 : decode cX3_tells 128 = .ok (.goto 7, 3) := by decide +kernel
theorem dX3_tells_131 : decode cX3_tells 131 = .ok (.aload_n 0, 1) := by decide +kernel
theorem dX3_tells_132 : decode cX3_tells 132 = .ok (.getfield 70, 3) := by decide +kernel
theorem dX3_tells_135 : decode cX3_tells 135 = .ok (.ireturn, 1) := by decide +kernel
theorem dX4_init_0 : decode cX4_init 0 = .ok (.aload_n 0, 1) := by decide +kernel
theorem dX4_init_1 : decode cX4_init 1 = .ok (.iconst 1, 1) := by decide +kernel
theorem dX4_init_2 : decode cX4_init 2 = .ok (.aload_n 1, 1) := by decide +kernel
theorem dX4_init_3 : decode cX4_init 3 = .ok (.aload_n 2, 1) := by decide +kernel
theorem dX4_init_4 : decode cX4_init 4 = .ok (.aload_n 3, 1) := by decide +kernel
theorem dX4_init_5 : decode cX4_init 5 = .ok (.invokespecial 3, 3) := by decide +kernel
theorem dX4_init_8 : decode cX4_init 8 = .ok (.aload_n 0, 1) := by decide +kernel
theorem dX4_init_9 : decode cX4_init 9 = .ok (.new 9, 3) := by decide +kernel
theorem dX4_init_12 : decode cX4_init 12 = .ok (.dup, 1) := by decide +kernel
theorem dX4_init_13 : decode cX4_init 13 = .ok (.bipush 32, 2) := by decide +kernel
theorem dX4_init_15 : decode cX4_init 15 = .ok (.invokespecial 11, 3) := by decide +kernel
theorem dX4_init_18 : decode cX4_init 18 = .ok (.putfield 14, 3) := by decide +kernel
theorem dX4_init_21 : decode cX4_init 21 = .ok (.aload_n 0, 1) := by decide +kernel
theorem dX4_init_22 : decode cX4_init 22 = .ok (.new 9, 3) := by decide +kernel
theorem dX4_init_25 : decode cX4_init 25 = .ok (.dup, 1) := by decide +kernel
theorem dX4_init_26 : decode cX4_init 26 = .ok (.bipush 32, 2) := by decide +kernel
theorem dX4_init_28 : decode cX4_init 28 = .ok (.invokespecial 11, 3) := by decide +kernel
theorem dX4_init_31 : decode cX4_init 31 = .ok (.putfield 20, 3) := by decide +kernel
theorem dX4_init_34 : decode cX4_init 34 = .ok (.aload_n 0, 1) := by decide +kernel
theorem dX4_init_35 : decode cX4_init 35 = .ok (.new 9, 3) := by decide +kernel
theorem dX4_init_38 : decode cX4_init 38 = .ok (.dup, 1) := by decide +kernel
theorem dX4_init_39 : decode cX4_init 39 = .ok (.bipush 64, 2) := by decide +kernel
theorem dX4_init_41 : decode cX4_init 41 = .ok (.invokespecial 11, 3) := by decide +kernel
theorem dX4_init_44 : decode cX4_init 44 = .ok (.putfield 23, 3) := by decide +kernel
theorem dX4_init_47 : decode cX4_init 47 = .ok (.aload_n 0, 1) := by decide +kernel
theorem dX4_init_48 : decode cX4_init 48 = .ok (.bipush 32, 2) := by decide +kernel
theorem dX4_init_50 : decode cX4_init 50 = .ok (.newarray .byte, 2) := by decide +kernel
theorem dX4_init_52 : decode cX4_init 52 = .ok (.putfield 26, 3) := by decide +kernel
theorem dX4_init_55 : decode cX4_init 55 = .ok (.aload_n 0, 1) := by decide +kernel
theorem dX4_init_56 : decode cX4_init 56 = .ok (.bipush 32, 2) := by decide +kernel
theorem dX4_init_58 : decode cX4_init 58 = .ok (.newarray .byte, 2) := by decide +kernel
theorem dX4_init_60 : decode cX4_init 60 = .ok (.putfield 30, 3) := by decide +kernel
theorem dX4_init_63 : decode cX4_init 63 = .ok (.aload_n 0, 1) := by decide +kernel
theorem dX4_init_64 : decode cX4_init 64 = .ok (.new 9, 3) := by decide +kernel
theorem dX4_init_67 : decode cX4_init 67 = .ok (.dup, 1) := by decide +kernel
theorem dX4_init_68 : decode cX4_init 68 = .ok (.bipush 32, 2) := by decide +kernel
theorem dX4_init_70 : decode cX4_init 70 = .ok (.invokespecial 11, 3) := by decide +kernel
theorem dX4_init_73 : decode cX4_init 73 = .ok (.putfield 33, 3) := by decide +kernel
theorem dX4_init_76 : decode cX4_init 76 = .ok (.aload_n 0, 1) := by decide +kernel
theorem dX4_init_77 : decode cX4_init 77 = .ok (.bipush 32, 2) := by decide +kernel
theorem dX4_init_79 : decode cX4_init 79 = .ok (.newarray .byte, 2) := by decide +kernel
theorem dX4_init_81 : decode cX4_init 81 = .ok (.putfield 36, 3) := by decide +kernel
theorem dX4_init_84 : decode cX4_init 84 = .ok (.aload_n 0, 1) := by decide +kernel
theorem dX4_init_85 : decode cX4_init 85 = .ok (.bipush 32, 2) := by decide +kernel
theorem dX4_init_87 : decode cX4_init 87 = .ok (.newarray .byte, 2) := by decide +kernel
theorem dX4_init_89 : decode cX4_init 89 = .ok (.putfield 39, 3) := by decide +kernel
theorem dX4_init_92 : decode cX4_init 92 = .ok (.aload_n 0, 1) := by decide +kernel
theorem dX4_init_93 : decode cX4_init 93 = .ok (.new 9, 3) := by decide +kernel
theorem dX4_init_96 : decode cX4_init 96 = .ok (.dup, 1) := by decide +kernel
theorem dX4_init_97 : decode cX4_init 97 = .ok (.bipush 64, 2) := by decide +kernel
theorem dX4_init_99 : decode cX4_init 99 = .ok (.invokespecial 11, 3) := by decide +kernel
theorem dX4_init_102 : decode cX4_init 102 = .ok (.putfield 42, 3) := by decide +kernel
theorem dX4_init_105 : decode cX4_init 105 = .ok (.aload_n 0, 1) := by decide +kernel
theorem dX4_init_106 : decode cX4_init 106 = .ok (.new 9, 3) := by decide +kernel
theorem dX4_init_109 : decode cX4_init 109 = .ok (.dup, 1) := by decide +kernel
theorem dX4_init_110 : decode cX4_init 110 = .ok (.sipush 256, 3) := by decide +kernel
theorem dX4_init_113 : decode cX4_init 113 = .ok (.invokespecial 11, 3) := by decide +kernel
theorem dX4_init_116 : decode cX4_init 116 = .ok (.putfield 45, 3) := by decide +kernel
theorem dX4_init_119 : decode cX4_init 119 = .ok (.aload_n 0, 1) := by decide +kernel
theorem dX4_init_120 : decode cX4_init 120 = .ok (.bipush 32, 2) := by decide +kernel
theorem dX4_init_122 : decode cX4_init 122 = .ok (.newarray .byte, 2) := by decide +kernel
theorem dX4_init_124 : decode cX4_init 124 = .ok (.putfield 48, 3) := by decide +kernel
theorem dX4_init_127 : decode cX4_init 127 = .ok (.aload_n 0, 1) := by decide +kernel
theorem dX4_init_128 : decode cX4_init 128 = .ok (.bipush 64, 2) := by decide +kernel
theorem dX4_init_130 : decode cX4_init 130 = .ok (.newarray .byte, 2) := by decide +kernel
theorem dX4_init_132 : decode cX4_init 132 = .ok (.putfield 51, 3) := by decide +kernel
theorem dX4_init_135 : decode cX4_init 135 = .ok (.return_, 1) := by decide +kernel
theorem dX4_asked_0 : decode cX4_asked 0 = .ok (.aload_n 0, 1) := by decide +kernel
theorem dX4_asked_1 : decode cX4_asked 1 = .ok (.getfield 96, 3) := by decide +kernel
theorem dX4_asked_4 : decode cX4_asked 4 = .ok (.ireturn, 1) := by decide +kernel
theorem dX4_channelInUse_0 : decode cX4_channelInUse 0 = .ok (.aload_n 0, 1) := by decide +kernel
theorem dX4_channelInUse_1 : decode cX4_channelInUse 1 = .ok (.iload_n 1, 1) := by decide +kernel
theorem dX4_channelInUse_2 : decode cX4_channelInUse 2 = .ok (.invokevirtual 268, 3) := by decide +kernel
theorem dX4_channelInUse_5 : decode cX4_channelInUse 5 = .ok (.astore_n 2, 1) := by decide +kernel
theorem dX4_channelInUse_6 : decode cX4_channelInUse 6 = .ok (.aload_n 2, 1) := by decide +kernel
theorem dX4_channelInUse_7 : decode cX4_channelInUse 7 = .ok (.ifnull 14, 3) := by decide +kernel
theorem dX4_channelInUse_10 : decode cX4_channelInUse 10 = .ok (.aload_n 2, 1) := by decide +kernel
theorem dX4_channelInUse_11 : decode cX4_channelInUse 11 = .ok (.invokevirtual 272, 3) := by decide +kernel
theorem dX4_channelInUse_14 : decode cX4_channelInUse 14 = .ok (.ifCond .eq 7, 3) := by decide +kernel
theorem dX4_channelInUse_17 : decode cX4_channelInUse 17 = .ok (.aload_n 2, 1) := by decide +kernel
theorem dX4_channelInUse_18 : decode cX4_channelInUse 18 = .ok (.goto 4, 3) := by decide +kernel
theorem dX4_channelInUse_21 : decode cX4_channelInUse 21 = .ok (.aconst_null, 1) := by decide +kernel
theorem dX4_channelInUse_22 : decode cX4_channelInUse 22 = .ok (.areturn, 1) := by decide +kernel
theorem dX4_channelEver_0 : decode cX4_channelEver 0 = .ok (.iload_n 1, 1) := by decide +kernel
theorem dX4_channelEver_1 : decode cX4_channelEver 1 = .ok (.ifCond .lt 22, 3) := by decide +kernel
theorem dX4_channelEver_4 : decode cX4_channelEver 4 = .ok (.iload_n 1, 1) := by decide +kernel
theorem dX4_channelEver_5 : decode cX4_channelEver 5 = .ok (.bipush 16, 2) := by decide +kernel
theorem dX4_channelEver_7 : decode cX4_channelEver 7 = .ok (.if_icmp .ge 16, 3) := by decide +kernel
theorem dX4_channelEver_10 : decode cX4_channelEver 10 = .ok (.aload_n 0, 1) := by decide +kernel
theorem dX4_channelEver_11 : decode cX4_channelEver 11 = .ok (.getfield 277, 3) := by decide +kernel
theorem dX4_channelEver_14 : decode cX4_channelEver 14 = .ok (.iload_n 1, 1) := by decide +kernel
theorem dX4_channelEver_15 : decode cX4_channelEver 15 = .ok (.aaload, 1) := by decide +kernel
theorem dX4_channelEver_16 : decode cX4_channelEver 16 = .ok (.getfield 281, 3) := by decide +kernel
theorem dX4_channelEver_19 : decode cX4_channelEver 19 = .ok (.iconst (-1), 1) := by decide +kernel
theorem dX4_channelEver_20 : decode cX4_channelEver 20 = .ok (.if_icmp .ne 5, 3) := by decide +kernel
theorem dX4_channelEver_23 : decode cX4_channelEver 23 = .ok (.aconst_null, 1) := by decide +kernel
theorem dX4_channelEver_24 : decode cX4_channelEver 24 = .ok (.areturn, 1) := by decide +kernel
theorem dX4_channelEver_25 : decode cX4_channelEver 25 = .ok (.aload_n 0, 1) := by decide +kernel
theorem dX4_channelEver_26 : decode cX4_channelEver 26 = .ok (.getfield 277, 3) := by decide +kernel
theorem dX4_channelEver_29 : decode cX4_channelEver 29 = .ok (.iload_n 1, 1) := by decide +kernel
theorem dX4_channelEver_30 : decode cX4_channelEver 30 = .ok (.aaload, 1) := by decide +kernel
theorem dX4_channelEver_31 : decode cX4_channelEver 31 = .ok (.areturn, 1) := by decide +kernel
theorem dX5_init_0 : decode cX5_init 0 = .ok (.aload_n 0, 1) := by decide +kernel
theorem dX5_init_1 : decode cX5_init 1 = .ok (.invokespecial 1, 3) := by decide +kernel
theorem dX5_init_4 : decode cX5_init 4 = .ok (.aload_n 0, 1) := by decide +kernel
theorem dX5_init_5 : decode cX5_init 5 = .ok (.bipush 12, 2) := by decide +kernel
theorem dX5_init_7 : decode cX5_init 7 = .ok (.bipush 10, 2) := by decide +kernel
theorem dX5_init_9 : decode cX5_init 9 = .ok (.multianewarray 7 2, 4) := by decide +kernel
theorem dX5_init_13 : decode cX5_init 13 = .ok (.putfield 9, 3) := by decide +kernel
theorem dX5_init_16 : decode cX5_init 16 = .ok (.aload_n 0, 1) := by decide +kernel
theorem dX5_init_17 : decode cX5_init 17 = .ok (.iconst 4, 1) := by decide +kernel
theorem dX5_init_18 : decode cX5_init 18 = .ok (.bipush 10, 2) := by decide +kernel
theorem dX5_init_20 : decode cX5_init 20 = .ok (.multianewarray 7 2, 4) := by decide +kernel
theorem dX5_init_24 : decode cX5_init 24 = .ok (.putfield 14, 3) := by decide +kernel
theorem dX5_init_27 : decode cX5_init 27 = .ok (.aload_n 0, 1) := by decide +kernel
theorem dX5_init_28 : decode cX5_init 28 = .ok (.iconst 4, 1) := by decide +kernel
theorem dX5_init_29 : decode cX5_init 29 = .ok (.bipush 10, 2) := by decide +kernel
theorem dX5_init_31 : decode cX5_init 31 = .ok (.multianewarray 7 2, 4) := by decide +kernel
theorem dX5_init_35 : decode cX5_init 35 = .ok (.putfield 17, 3) := by decide +kernel
theorem dX5_init_38 : decode cX5_init 38 = .ok (.aload_n 0, 1) := by decide +kernel
theorem dX5_init_39 : decode cX5_init 39 = .ok (.iconst 4, 1) := by decide +kernel
theorem dX5_init_40 : decode cX5_init 40 = .ok (.bipush 10, 2) := by decide +kernel
theorem dX5_init_42 : decode cX5_init 42 = .ok (.multianewarray 7 2, 4) := by decide +kernel
theorem dX5_init_46 : decode cX5_init 46 = .ok (.putfield 20, 3) := by decide +kernel
theorem dX5_init_49 : decode cX5_init 49 = .ok (.aload_n 0, 1) := by decide +kernel
theorem dX5_init_50 : decode cX5_init 50 = .ok (.bipush 10, 2) := by decide +kernel
theorem dX5_init_52 : decode cX5_init 52 = .ok (.newarray .long, 2) := by decide +kernel
theorem dX5_init_54 : decode cX5_init 54 = .ok (.putfield 23, 3) := by decide +kernel
theorem dX5_init_57 : decode cX5_init 57 = .ok (.aload_n 0, 1) := by decide +kernel
theorem dX5_init_58 : decode cX5_init 58 = .ok (.bipush 64, 2) := by decide +kernel
theorem dX5_init_60 : decode cX5_init 60 = .ok (.newarray .long, 2) := by decide +kernel
theorem dX5_init_62 : decode cX5_init 62 = .ok (.putfield 27, 3) := by decide +kernel
theorem dX5_init_65 : decode cX5_init 65 = .ok (.aload_n 0, 1) := by decide +kernel
theorem dX5_init_66 : decode cX5_init 66 = .ok (.bipush 32, 2) := by decide +kernel
theorem dX5_init_68 : decode cX5_init 68 = .ok (.newarray .byte, 2) := by decide +kernel
theorem dX5_init_70 : decode cX5_init 70 = .ok (.putfield 30, 3) := by decide +kernel
theorem dX5_init_73 : decode cX5_init 73 = .ok (.aload_n 0, 1) := by decide +kernel
theorem dX5_init_74 : decode cX5_init 74 = .ok (.bipush 32, 2) := by decide +kernel
theorem dX5_init_76 : decode cX5_init 76 = .ok (.newarray .byte, 2) := by decide +kernel
theorem dX5_init_78 : decode cX5_init 78 = .ok (.putfield 34, 3) := by decide +kernel
theorem dX5_init_81 : decode cX5_init 81 = .ok (.aload_n 0, 1) := by decide +kernel
theorem dX5_init_82 : decode cX5_init 82 = .ok (.bipush 32, 2) := by decide +kernel
theorem dX5_init_84 : decode cX5_init 84 = .ok (.newarray .byte, 2) := by decide +kernel
theorem dX5_init_86 : decode cX5_init 86 = .ok (.putfield 37, 3) := by decide +kernel
theorem dX5_init_89 : decode cX5_init 89 = .ok (.aload_n 0, 1) := by decide +kernel
theorem dX5_init_90 : decode cX5_init 90 = .ok (.bipush 32, 2) := by decide +kernel
theorem dX5_init_92 : decode cX5_init 92 = .ok (.newarray .byte, 2) := by decide +kernel
theorem dX5_init_94 : decode cX5_init 94 = .ok (.putfield 40, 3) := by decide +kernel
theorem dX5_init_97 : decode cX5_init 97 = .ok (.aload_n 0, 1) := by decide +kernel
theorem dX5_init_98 : decode cX5_init 98 = .ok (.bipush 32, 2) := by decide +kernel
theorem dX5_init_100 : decode cX5_init 100 = .ok (.newarray .byte, 2) := by decide +kernel
theorem dX5_init_102 : decode cX5_init 102 = .ok (.putfield 43, 3) := by decide +kernel
theorem dX5_init_105 : decode cX5_init 105 = .ok (.aload_n 0, 1) := by decide +kernel
theorem dX5_init_106 : decode cX5_init 106 = .ok (.bipush 64, 2) := by decide +kernel
theorem dX5_init_108 : decode cX5_init 108 = .ok (.newarray .byte, 2) := by decide +kernel
theorem dX5_init_110 : decode cX5_init 110 = .ok (.putfield 46, 3) := by decide +kernel
theorem dX5_init_113 : decode cX5_init 113 = .ok (.aload_n 0, 1) := by decide +kernel
theorem dX5_init_114 : decode cX5_init 114 = .ok (.bipush 64, 2) := by decide +kernel
theorem dX5_init_116 : decode cX5_init 116 = .ok (.newarray .byte, 2) := by decide +kernel
theorem dX5_init_118 : decode cX5_init 118 = .ok (.putfield 49, 3) := by decide +kernel
theorem dX5_init_121 : decode cX5_init 121 = .ok (.aload_n 0, 1) := by decide +kernel
theorem dX5_init_122 : decode cX5_init 122 = .ok (.aload_n 1, 1) := by decide +kernel
theorem dX5_init_123 : decode cX5_init 123 = .ok (.putfield 52, 3) := by decide +kernel
theorem dX5_init_126 : decode cX5_init 126 = .ok (.getstatic 56, 3) := by decide +kernel
theorem dX5_init_129 : decode cX5_init 129 = .ok (.iconst 0, 1) := by decide +kernel
theorem dX5_init_130 : decode cX5_init 130 = .ok (.aload_n 0, 1) := by decide +kernel
theorem dX5_init_131 : decode cX5_init 131 = .ok (.getfield 14, 3) := by decide +kernel
theorem dX5_init_134 : decode cX5_init 134 = .ok (.iconst 0, 1) := by decide +kernel
theorem dX5_init_135 : decode cX5_init 135 = .ok (.aaload, 1) := by decide +kernel
theorem dX5_init_136 : decode cX5_init 136 = .ok (.iconst 0, 1) := by decide +kernel
theorem dX5_init_137 : decode cX5_init 137 = .ok (.bipush 10, 2) := by decide +kernel
theorem dX5_init_139 : decode cX5_init 139 = .ok (.invokestatic 59, 3) := by decide +kernel
theorem dX5_init_142 : decode cX5_init 142 = .ok (.getstatic 65, 3) := by decide +kernel
theorem dX5_init_145 : decode cX5_init 145 = .ok (.iconst 0, 1) := by decide +kernel
theorem dX5_init_146 : decode cX5_init 146 = .ok (.aload_n 0, 1) := by decide +kernel
theorem dX5_init_147 : decode cX5_init 147 = .ok (.getfield 14, 3) := by decide +kernel
theorem dX5_init_150 : decode cX5_init 150 = .ok (.iconst 1, 1) := by decide +kernel
theorem dX5_init_151 : decode cX5_init 151 = .ok (.aaload, 1) := by decide +kernel
theorem dX5_init_152 : decode cX5_init 152 = .ok (.iconst 0, 1) := by decide +kernel
theorem dX5_init_153 : decode cX5_init 153 = .ok (.bipush 10, 2) := by decide +kernel
theorem dX5_init_155 : decode cX5_init 155 = .ok (.invokestatic 59, 3) := by decide +kernel
theorem dX5_init_158 : decode cX5_init 158 = .ok (.aload_n 0, 1) := by decide +kernel
theorem dX5_init_159 : decode cX5_init 159 = .ok (.getfield 14, 3) := by decide +kernel
theorem dX5_init_162 : decode cX5_init 162 = .ok (.iconst 2, 1) := by decide +kernel
theorem dX5_init_163 : decode cX5_init 163 = .ok (.aaload, 1) := by decide +kernel
theorem dX5_init_164 : decode cX5_init 164 = .ok (.iconst 0, 1) := by decide +kernel
theorem dX5_init_165 : decode cX5_init 165 = .ok (.lconst 1, 1) := by decide +kernel
theorem dX5_init_166 : decode cX5_init 166 = .ok (.lastore, 1) := by decide +kernel
theorem dX5_init_167 : decode cX5_init 167 = .ok (.aload_n 0, 1) := by decide +kernel
theorem dX5_init_168 : decode cX5_init 168 = .ok (.getfield 14, 3) := by decide +kernel
theorem dX5_init_171 : decode cX5_init 171 = .ok (.iconst 3, 1) := by decide +kernel
theorem dX5_init_172 : decode cX5_init 172 = .ok (.aaload, 1) := by decide +kernel
theorem dX5_init_173 : decode cX5_init 173 = .ok (.getstatic 56, 3) := by decide +kernel
theorem dX5_init_176 : decode cX5_init 176 = .ok (.getstatic 65, 3) := by decide +kernel
theorem dX5_init_179 : decode cX5_init 179 = .ok (.invokestatic 68, 3) := by decide +kernel
theorem dX5_init_182 : decode cX5_init 182 = .ok (.aload_n 0, 1) := by decide +kernel
theorem dX5_init_183 : decode cX5_init 183 = .ok (.getfield 23, 3) := by decide +kernel
theorem dX5_init_186 : decode cX5_init 186 = .ok (.iconst 0, 1) := by decide +kernel
theorem dX5_init_187 : decode cX5_init 187 = .ok (.ldc2_w 72, 3) := by decide +kernel
theorem dX5_init_190 : decode cX5_init 190 = .ok (.lastore, 1) := by decide +kernel
theorem dX5_init_191 : decode cX5_init 191 = .ok (.return_, 1) := by decide +kernel
theorem dX5_mul_0 : decode cX5_mul 0 = .ok (.aload_n 1, 1) := by decide +kernel
theorem dX5_mul_1 : decode cX5_mul 1 = .ok (.iconst 0, 1) := by decide +kernel
theorem dX5_mul_2 : decode cX5_mul 2 = .ok (.laload, 1) := by decide +kernel
theorem dX5_mul_3 : decode cX5_mul 3 = .ok (.lstore_n 3, 1) := by decide +kernel
theorem dX5_mul_4 : decode cX5_mul 4 = .ok (.aload_n 1, 1) := by decide +kernel
theorem dX5_mul_5 : decode cX5_mul 5 = .ok (.iconst 1, 1) := by decide +kernel
theorem dX5_mul_6 : decode cX5_mul 6 = .ok (.laload, 1) := by decide +kernel
theorem dX5_mul_7 : decode cX5_mul 7 = .ok (.lstore 5, 2) := by decide +kernel
theorem dX5_mul_9 : decode cX5_mul 9 = .ok (.aload_n 1, 1) := by decide +kernel
theorem dX5_mul_10 : decode cX5_mul 10 = .ok (.iconst 2, 1) := by decide +kernel
theorem dX5_mul_11 : decode cX5_mul 11 = .ok (.laload, 1) := by decide +kernel
theorem dX5_mul_12 : decode cX5_mul 12 = .ok (.lstore 7, 2) := by decide +kernel
theorem dX5_mul_14 : decode cX5_mul 14 = .ok (.aload_n 1, 1) := by decide +kernel
theorem dX5_mul_15 : decode cX5_mul 15 = .ok (.iconst 3, 1) := by decide +kernel
theorem dX5_mul_16 : decode cX5_mul 16 = .ok (.laload, 1) := by decide +kernel
theorem dX5_mul_17 : decode cX5_mul 17 = .ok (.lstore 9, 2) := by decide +kernel
theorem dX5_mul_19 : decode cX5_mul 19 = .ok (.aload_n 1, 1) := by decide +kernel
theorem dX5_mul_20 : decode cX5_mul 20 = .ok (.iconst 4, 1) := by decide +kernel
theorem dX5_mul_21 : decode cX5_mul 21 = .ok (.laload, 1) := by decide +kernel
theorem dX5_mul_22 : decode cX5_mul 22 = .ok (.lstore 11, 2) := by decide +kernel
theorem dX5_mul_24 : decode cX5_mul 24 = .ok (.aload_n 1, 1) := by decide +kernel
theorem dX5_mul_25 : decode cX5_mul 25 = .ok (.iconst 5, 1) := by decide +kernel
theorem dX5_mul_26 : decode cX5_mul 26 = .ok (.laload, 1) := by decide +kernel
theorem dX5_mul_27 : decode cX5_mul 27 = .ok (.lstore 13, 2) := by decide +kernel
theorem dX5_mul_29 : decode cX5_mul 29 = .ok (.aload_n 1, 1) := by decide +kernel
theorem dX5_mul_30 : decode cX5_mul 30 = .ok (.bipush 6, 2) := by decide +kernel
theorem dX5_mul_32 : decode cX5_mul 32 = .ok (.laload, 1) := by decide +kernel
theorem dX5_mul_33 : decode cX5_mul 33 = .ok (.lstore 15, 2) := by decide +kernel
theorem dX5_mul_35 : decode cX5_mul 35 = .ok (.aload_n 1, 1) := by decide +kernel
theorem dX5_mul_36 : decode cX5_mul 36 = .ok (.bipush 7, 2) := by decide +kernel
theorem dX5_mul_38 : decode cX5_mul 38 = .ok (.laload, 1) := by decide +kernel
theorem dX5_mul_39 : decode cX5_mul 39 = .ok (.lstore 17, 2) := by decide +kernel
theorem dX5_mul_41 : decode cX5_mul 41 = .ok (.aload_n 1, 1) := by decide +kernel
theorem dX5_mul_42 : decode cX5_mul 42 = .ok (.bipush 8, 2) := by decide +kernel
theorem dX5_mul_44 : decode cX5_mul 44 = .ok (.laload, 1) := by decide +kernel
theorem dX5_mul_45 : decode cX5_mul 45 = .ok (.lstore 19, 2) := by decide +kernel
theorem dX5_mul_47 : decode cX5_mul 47 = .ok (.aload_n 1, 1) := by decide +kernel
theorem dX5_mul_48 : decode cX5_mul 48 = .ok (.bipush 9, 2) := by decide +kernel
theorem dX5_mul_50 : decode cX5_mul 50 = .ok (.laload, 1) := by decide +kernel
theorem dX5_mul_51 : decode cX5_mul 51 = .ok (.lstore 21, 2) := by decide +kernel
theorem dX5_mul_53 : decode cX5_mul 53 = .ok (.aload_n 2, 1) := by decide +kernel
theorem dX5_mul_54 : decode cX5_mul 54 = .ok (.iconst 0, 1) := by decide +kernel
theorem dX5_mul_55 : decode cX5_mul 55 = .ok (.laload, 1) := by decide +kernel
theorem dX5_mul_56 : decode cX5_mul 56 = .ok (.lstore 23, 2) := by decide +kernel
theorem dX5_mul_58 : decode cX5_mul 58 = .ok (.aload_n 2, 1) := by decide +kernel
theorem dX5_mul_59 : decode cX5_mul 59 = .ok (.iconst 1, 1) := by decide +kernel
theorem dX5_mul_60 : decode cX5_mul 60 = .ok (.laload, 1) := by decide +kernel
theorem dX5_mul_61 : decode cX5_mul 61 = .ok (.lstore 25, 2) := by decide +kernel
theorem dX5_mul_63 : decode cX5_mul 63 = .ok (.aload_n 2, 1) := by decide +kernel
theorem dX5_mul_64 : decode cX5_mul 64 = .ok (.iconst 2, 1) := by decide +kernel
theorem dX5_mul_65 : decode cX5_mul 65 = .ok (.laload, 1) := by decide +kernel
theorem dX5_mul_66 : decode cX5_mul 66 = .ok (.lstore 27, 2) := by decide +kernel
theorem dX5_mul_68 : decode cX5_mul 68 = .ok (.aload_n 2, 1) := by decide +kernel
theorem dX5_mul_69 : decode cX5_mul 69 = .ok (.iconst 3, 1) := by decide +kernel
theorem dX5_mul_70 : decode cX5_mul 70 = .ok (.laload, 1) := by decide +kernel
theorem dX5_mul_71 : decode cX5_mul 71 = .ok (.lstore 29, 2) := by decide +kernel
theorem dX5_mul_73 : decode cX5_mul 73 = .ok (.aload_n 2, 1) := by decide +kernel
theorem dX5_mul_74 : decode cX5_mul 74 = .ok (.iconst 4, 1) := by decide +kernel
theorem dX5_mul_75 : decode cX5_mul 75 = .ok (.laload, 1) := by decide +kernel
theorem dX5_mul_76 : decode cX5_mul 76 = .ok (.lstore 31, 2) := by decide +kernel
theorem dX5_mul_78 : decode cX5_mul 78 = .ok (.aload_n 2, 1) := by decide +kernel
theorem dX5_mul_79 : decode cX5_mul 79 = .ok (.iconst 5, 1) := by decide +kernel
theorem dX5_mul_80 : decode cX5_mul 80 = .ok (.laload, 1) := by decide +kernel
theorem dX5_mul_81 : decode cX5_mul 81 = .ok (.lstore 33, 2) := by decide +kernel
theorem dX5_mul_83 : decode cX5_mul 83 = .ok (.aload_n 2, 1) := by decide +kernel
theorem dX5_mul_84 : decode cX5_mul 84 = .ok (.bipush 6, 2) := by decide +kernel
theorem dX5_mul_86 : decode cX5_mul 86 = .ok (.laload, 1) := by decide +kernel
theorem dX5_mul_87 : decode cX5_mul 87 = .ok (.lstore 35, 2) := by decide +kernel
theorem dX5_mul_89 : decode cX5_mul 89 = .ok (.aload_n 2, 1) := by decide +kernel
theorem dX5_mul_90 : decode cX5_mul 90 = .ok (.bipush 7, 2) := by decide +kernel
theorem dX5_mul_92 : decode cX5_mul 92 = .ok (.laload, 1) := by decide +kernel
theorem dX5_mul_93 : decode cX5_mul 93 = .ok (.lstore 37, 2) := by decide +kernel
theorem dX5_mul_95 : decode cX5_mul 95 = .ok (.aload_n 2, 1) := by decide +kernel
theorem dX5_mul_96 : decode cX5_mul 96 = .ok (.bipush 8, 2) := by decide +kernel
theorem dX5_mul_98 : decode cX5_mul 98 = .ok (.laload, 1) := by decide +kernel
theorem dX5_mul_99 : decode cX5_mul 99 = .ok (.lstore 39, 2) := by decide +kernel
theorem dX5_mul_101 : decode cX5_mul 101 = .ok (.aload_n 2, 1) := by decide +kernel
theorem dX5_mul_102 : decode cX5_mul 102 = .ok (.bipush 9, 2) := by decide +kernel
theorem dX5_mul_104 : decode cX5_mul 104 = .ok (.laload, 1) := by decide +kernel
theorem dX5_mul_105 : decode cX5_mul 105 = .ok (.lstore 41, 2) := by decide +kernel
theorem dX5_mul_107 : decode cX5_mul 107 = .ok (.ldc2_w 188, 3) := by decide +kernel
theorem dX5_mul_110 : decode cX5_mul 110 = .ok (.lload 5, 2) := by decide +kernel
theorem dX5_mul_112 : decode cX5_mul 112 = .ok (.lmul, 1) := by decide +kernel
theorem dX5_mul_113 : decode cX5_mul 113 = .ok (.lstore 43, 2) := by decide +kernel
theorem dX5_mul_115 : decode cX5_mul 115 = .ok (.ldc2_w 188, 3) := by decide +kernel
theorem dX5_mul_118 : decode cX5_mul 118 = .ok (.lload 9, 2) := by decide +kernel
theorem dX5_mul_120 : decode cX5_mul 120 = .ok (.lmul, 1) := by decide +kernel
theorem dX5_mul_121 : decode cX5_mul 121 = .ok (.lstore 45, 2) := by decide +kernel
theorem dX5_mul_123 : decode cX5_mul 123 = .ok (.ldc2_w 188, 3) := by decide +kernel
theorem dX5_mul_126 : decode cX5_mul 126 = .ok (.lload 13, 2) := by decide +kernel
theorem dX5_mul_128 : decode cX5_mul 128 = .ok (.lmul, 1) := by decide +kernel
theorem dX5_mul_129 : decode cX5_mul 129 = .ok (.lstore 47, 2) := by decide +kernel
theorem dX5_mul_131 : decode cX5_mul 131 = .ok (.ldc2_w 188, 3) := by decide +kernel
theorem dX5_mul_134 : decode cX5_mul 134 = .ok (.lload 17, 2) := by decide +kernel
theorem dX5_mul_136 : decode cX5_mul 136 = .ok (.lmul, 1) := by decide +kernel
theorem dX5_mul_137 : decode cX5_mul 137 = .ok (.lstore 49, 2) := by decide +kernel
theorem dX5_mul_139 : decode cX5_mul 139 = .ok (.ldc2_w 188, 3) := by decide +kernel
theorem dX5_mul_142 : decode cX5_mul 142 = .ok (.lload 21, 2) := by decide +kernel
theorem dX5_mul_144 : decode cX5_mul 144 = .ok (.lmul, 1) := by decide +kernel
theorem dX5_mul_145 : decode cX5_mul 145 = .ok (.lstore 51, 2) := by decide +kernel
theorem dX5_mul_147 : decode cX5_mul 147 = .ok (.ldc2_w 190, 3) := by decide +kernel
theorem dX5_mul_150 : decode cX5_mul 150 = .ok (.lload 25, 2) := by decide +kernel
theorem dX5_mul_152 : decode cX5_mul 152 = .ok (.lmul, 1) := by decide +kernel
theorem dX5_mul_153 : decode cX5_mul 153 = .ok (.lstore 53, 2) := by decide +kernel
theorem dX5_mul_155 : decode cX5_mul 155 = .ok (.ldc2_w 190, 3) := by decide +kernel
theorem dX5_mul_158 : decode cX5_mul 158 = .ok (.lload 27, 2) := by decide +kernel
theorem dX5_mul_160 : decode cX5_mul 160 = .ok (.lmul, 1) := by decide +kernel
theorem dX5_mul_161 : decode cX5_mul 161 = .ok (.lstore 55, 2) := by decide +kernel
theorem dX5_mul_163 : decode cX5_mul 163 = .ok (.ldc2_w 190, 3) := by decide +kernel
theorem dX5_mul_166 : decode cX5_mul 166 = .ok (.lload 29, 2) := by decide +kernel
theorem dX5_mul_168 : decode cX5_mul 168 = .ok (.lmul, 1) := by decide +kernel
theorem dX5_mul_169 : decode cX5_mul 169 = .ok (.lstore 57, 2) := by decide +kernel
theorem dX5_mul_171 : decode cX5_mul 171 = .ok (.ldc2_w 190, 3) := by decide +kernel
theorem dX5_mul_174 : decode cX5_mul 174 = .ok (.lload 31, 2) := by decide +kernel
theorem dX5_mul_176 : decode cX5_mul 176 = .ok (.lmul, 1) := by decide +kernel
theorem dX5_mul_177 : decode cX5_mul 177 = .ok (.lstore 59, 2) := by decide +kernel
theorem dX5_mul_179 : decode cX5_mul 179 = .ok (.ldc2_w 190, 3) := by decide +kernel
theorem dX5_mul_182 : decode cX5_mul 182 = .ok (.lload 33, 2) := by decide +kernel
theorem dX5_mul_184 : decode cX5_mul 184 = .ok (.lmul, 1) := by decide +kernel
theorem dX5_mul_185 : decode cX5_mul 185 = .ok (.lstore 61, 2) := by decide +kernel
theorem dX5_mul_187 : decode cX5_mul 187 = .ok (.ldc2_w 190, 3) := by decide +kernel
theorem dX5_mul_190 : decode cX5_mul 190 = .ok (.lload 35, 2) := by decide +kernel
theorem dX5_mul_192 : decode cX5_mul 192 = .ok (.lmul, 1) := by decide +kernel
theorem dX5_mul_193 : decode cX5_mul 193 = .ok (.lstore 63, 2) := by decide +kernel
theorem dX5_mul_195 : decode cX5_mul 195 = .ok (.ldc2_w 190, 3) := by decide +kernel
theorem dX5_mul_198 : decode cX5_mul 198 = .ok (.lload 37, 2) := by decide +kernel
theorem dX5_mul_200 : decode cX5_mul 200 = .ok (.lmul, 1) := by decide +kernel
theorem dX5_mul_201 : decode cX5_mul 201 = .ok (.lstore 65, 2) := by decide +kernel
theorem dX5_mul_203 : decode cX5_mul 203 = .ok (.ldc2_w 190, 3) := by decide +kernel
theorem dX5_mul_206 : decode cX5_mul 206 = .ok (.lload 39, 2) := by decide +kernel
theorem dX5_mul_208 : decode cX5_mul 208 = .ok (.lmul, 1) := by decide +kernel
theorem dX5_mul_209 : decode cX5_mul 209 = .ok (.lstore 67, 2) := by decide +kernel
theorem dX5_mul_211 : decode cX5_mul 211 = .ok (.ldc2_w 190, 3) := by decide +kernel
theorem dX5_mul_214 : decode cX5_mul 214 = .ok (.lload 41, 2) := by decide +kernel
theorem dX5_mul_216 : decode cX5_mul 216 = .ok (.lmul, 1) := by decide +kernel
theorem dX5_mul_217 : decode cX5_mul 217 = .ok (.lstore 69, 2) := by decide +kernel
theorem dX5_mul_219 : decode cX5_mul 219 = .ok (.lload_n 3, 1) := by decide +kernel
theorem dX5_mul_220 : decode cX5_mul 220 = .ok (.lload 23, 2) := by decide +kernel
theorem dX5_mul_222 : decode cX5_mul 222 = .ok (.lmul, 1) := by decide +kernel
theorem dX5_mul_223 : decode cX5_mul 223 = .ok (.lload 43, 2) := by decide +kernel
theorem dX5_mul_225 : decode cX5_mul 225 = .ok (.lload 69, 2) := by decide +kernel
theorem dX5_mul_227 : decode cX5_mul 227 = .ok (.lmul, 1) := by decide +kernel
theorem dX5_mul_228 : decode cX5_mul 228 = .ok (.ladd, 1) := by decide +kernel
theorem dX5_mul_229 : decode cX5_mul 229 = .ok (.lload 7, 2) := by decide +kernel
theorem dX5_mul_231 : decode cX5_mul 231 = .ok (.lload 67, 2) := by decide +kernel
theorem dX5_mul_233 : decode cX5_mul 233 = .ok (.lmul, 1) := by decide +kernel
theorem dX5_mul_234 : decode cX5_mul 234 = .ok (.ladd, 1) := by decide +kernel
theorem dX5_mul_235 : decode cX5_mul 235 = .ok (.lload 45, 2) := by decide +kernel
theorem dX5_mul_237 : decode cX5_mul 237 = .ok (.lload 65, 2) := by decide +kernel
theorem dX5_mul_239 : decode cX5_mul 239 = .ok (.lmul, 1) := by decide +kernel
theorem dX5_mul_240 : decode cX5_mul 240 = .ok (.ladd, 1) := by decide +kernel
theorem dX5_mul_241 : decode cX5_mul 241 = .ok (.lload 11, 2) := by decide +kernel
theorem dX5_mul_243 : decode cX5_mul 243 = .ok (.lload 63, 2) := by decide +kernel
theorem dX5_mul_245 : decode cX5_mul 245 = .ok (.lmul, 1) := by decide +kernel
theorem dX5_mul_246 : decode cX5_mul 246 = .ok (.ladd, 1) := by decide +kernel
theorem dX5_mul_247 : decode cX5_mul 247 = .ok (.lload 47, 2) := by decide +kernel
theorem dX5_mul_249 : decode cX5_mul 249 = .ok (.lload 61, 2) := by decide +kernel
theorem dX5_mul_251 : decode cX5_mul 251 = .ok (.lmul, 1) := by decide +kernel
theorem dX5_mul_252 : decode cX5_mul 252 = .ok (.ladd, 1) := by decide +kernel
theorem dX5_mul_253 : decode cX5_mul 253 = .ok (.lload 15, 2) := by decide +kernel
theorem dX5_mul_255 : decode cX5_mul 255 = .ok (.lload 59, 2) := by decide +kernel
theorem dX5_mul_257 : decode cX5_mul 257 = .ok (.lmul, 1) := by decide +kernel
theorem dX5_mul_258 : decode cX5_mul 258 = .ok (.ladd, 1) := by decide +kernel
theorem dX5_mul_259 : decode cX5_mul 259 = .ok (.lload 49, 2) := by decide +kernel
theorem dX5_mul_261 : decode cX5_mul 261 = .ok (.lload 57, 2) := by decide +kernel
theorem dX5_mul_263 : decode cX5_mul 263 = .ok (.lmul, 1) := by decide +kernel
theorem dX5_mul_264 : decode cX5_mul 264 = .ok (.ladd, 1) := by decide +kernel
theorem dX5_mul_265 : decode cX5_mul 265 = .ok (.lload 19, 2) := by decide +kernel
theorem dX5_mul_267 : decode cX5_mul 267 = .ok (.lload 55, 2) := by decide +kernel
theorem dX5_mul_269 : decode cX5_mul 269 = .ok (.lmul, 1) := by decide +kernel
theorem dX5_mul_270 : decode cX5_mul 270 = .ok (.ladd, 1) := by decide +kernel
theorem dX5_mul_271 : decode cX5_mul 271 = .ok (.lload 51, 2) := by decide +kernel
theorem dX5_mul_273 : decode cX5_mul 273 = .ok (.lload 53, 2) := by decide +kernel
theorem dX5_mul_275 : decode cX5_mul 275 = .ok (.lmul, 1) := by decide +kernel
theorem dX5_mul_276 : decode cX5_mul 276 = .ok (.ladd, 1) := by decide +kernel
theorem dX5_mul_277 : decode cX5_mul 277 = .ok (.lstore 71, 2) := by decide +kernel
theorem dX5_mul_279 : decode cX5_mul 279 = .ok (.lload_n 3, 1) := by decide +kernel
theorem dX5_mul_280 : decode cX5_mul 280 = .ok (.lload 25, 2) := by decide +kernel
theorem dX5_mul_282 : decode cX5_mul 282 = .ok (.lmul, 1) := by decide +kernel
theorem dX5_mul_283 : decode cX5_mul 283 = .ok (.lload 5, 2) := by decide +kernel
theorem dX5_mul_285 : decode cX5_mul 285 = .ok (.lload 23, 2) := by decide +kernel
theorem dX5_mul_287 : decode cX5_mul 287 = .ok (.lmul, 1) := by decide +kernel
theorem dX5_mul_288 : decode cX5_mul 288 = .ok (.ladd, 1) := by decide +kernel
theorem dX5_mul_289 : decode cX5_mul 289 = .ok (.lload 7, 2) := by decide +kernel
theorem dX5_mul_291 : decode cX5_mul 291 = .ok (.lload 69, 2) := by decide +kernel
theorem dX5_mul_293 : decode cX5_mul 293 = .ok (.lmul, 1) := by decide +kernel
theorem dX5_mul_294 : decode cX5_mul 294 = .ok (.ladd, 1) := by decide +kernel
theorem dX5_mul_295 : decode cX5_mul 295 = .ok (.lload 9, 2) := by decide +kernel
theorem dX5_mul_297 : decode cX5_mul 297 = .ok (.lload 67, 2) := by decide +kernel
theorem dX5_mul_299 : decode cX5_mul 299 = .ok (.lmul, 1) := by decide +kernel
theorem dX5_mul_300 : decode cX5_mul 300 = .ok (.ladd, 1) := by decide +kernel
theorem dX5_mul_301 : decode cX5_mul 301 = .ok (.lload 11, 2) := by decide +kernel
theorem dX5_mul_303 : decode cX5_mul 303 = .ok (.lload 65, 2) := by decide +kernel
theorem dX5_mul_305 : decode cX5_mul 305 = .ok (.lmul, 1) := by decide +kernel
theorem dX5_mul_306 : decode cX5_mul 306 = .ok (.ladd, 1) := by decide +kernel
theorem dX5_mul_307 : decode cX5_mul 307 = .ok (.lload 13, 2) := by decide +kernel
theorem dX5_mul_309 : decode cX5_mul 309 = .ok (.lload 63, 2) := by decide +kernel
theorem dX5_mul_311 : decode cX5_mul 311 = .ok (.lmul, 1) := by decide +kernel
theorem dX5_mul_312 : decode cX5_mul 312 = .ok (.ladd, 1) := by decide +kernel
theorem dX5_mul_313 : decode cX5_mul 313 = .ok (.lload 15, 2) := by decide +kernel
theorem dX5_mul_315 : decode cX5_mul 315 = .ok (.lload 61, 2) := by decide +kernel
theorem dX5_mul_317 : decode cX5_mul 317 = .ok (.lmul, 1) := by decide +kernel
theorem dX5_mul_318 : decode cX5_mul 318 = .ok (.ladd, 1) := by decide +kernel
theorem dX5_mul_319 : decode cX5_mul 319 = .ok (.lload 17, 2) := by decide +kernel
theorem dX5_mul_321 : decode cX5_mul 321 = .ok (.lload 59, 2) := by decide +kernel
theorem dX5_mul_323 : decode cX5_mul 323 = .ok (.lmul, 1) := by decide +kernel
theorem dX5_mul_324 : decode cX5_mul 324 = .ok (.ladd, 1) := by decide +kernel
theorem dX5_mul_325 : decode cX5_mul 325 = .ok (.lload 19, 2) := by decide +kernel
theorem dX5_mul_327 : decode cX5_mul 327 = .ok (.lload 57, 2) := by decide +kernel
theorem dX5_mul_329 : decode cX5_mul 329 = .ok (.lmul, 1) := by decide +kernel
theorem dX5_mul_330 : decode cX5_mul 330 = .ok (.ladd, 1) := by decide +kernel
theorem dX5_mul_331 : decode cX5_mul 331 = .ok (.lload 21, 2) := by decide +kernel
theorem dX5_mul_333 : decode cX5_mul 333 = .ok (.lload 55, 2) := by decide +kernel
theorem dX5_mul_335 : decode cX5_mul 335 = .ok (.lmul, 1) := by decide +kernel
theorem dX5_mul_336 : decode cX5_mul 336 = .ok (.ladd, 1) := by decide +kernel
theorem dX5_mul_337 : decode cX5_mul 337 = .ok (.lstore 73, 2) := by decide +kernel
theorem dX5_mul_339 : decode cX5_mul 339 = .ok (.lload_n 3, 1) := by decide +kernel
theorem dX5_mul_340 : decode cX5_mul 340 = .ok (.lload 27, 2) := by decide +kernel
theorem dX5_mul_342 : decode cX5_mul 342 = .ok (.lmul, 1) := by decide +kernel
theorem dX5_mul_343 : decode cX5_mul 343 = .ok (.lload 43, 2) := by decide +kernel
theorem dX5_mul_345 : decode cX5_mul 345 = .ok (.lload 25, 2) := by decide +kernel
theorem dX5_mul_347 : decode cX5_mul 347 = .ok (.lmul, 1) := by decide +kernel
theorem dX5_mul_348 : decode cX5_mul 348 = .ok (.ladd, 1) := by decide +kernel
theorem dX5_mul_349 : decode cX5_mul 349 = .ok (.lload 7, 2) := by decide +kernel
theorem dX5_mul_351 : decode cX5_mul 351 = .ok (.lload 23, 2) := by decide +kernel
theorem dX5_mul_353 : decode cX5_mul 353 = .ok (.lmul, 1) := by decide +kernel
theorem dX5_mul_354 : decode cX5_mul 354 = .ok (.ladd, 1) := by decide +kernel
theorem dX5_mul_355 : decode cX5_mul 355 = .ok (.lload 45, 2) := by decide +kernel
theorem dX5_mul_357 : decode cX5_mul 357 = .ok (.lload 69, 2) := by decide +kernel
theorem dX5_mul_359 : decode cX5_mul 359 = .ok (.lmul, 1) := by decide +kernel
theorem dX5_mul_360 : decode cX5_mul 360 = .ok (.ladd, 1) := by decide +kernel
theorem dX5_mul_361 : decode cX5_mul 361 = .ok (.lload 11, 2) := by decide +kernel
theorem dX5_mul_363 : decode cX5_mul 363 = .ok (.lload 67, 2) := by decide +kernel
theorem dX5_mul_365 : decode cX5_mul 365 = .ok (.lmul, 1) := by decide +kernel
theorem dX5_mul_366 : decode cX5_mul 366 = .ok (.ladd, 1) := by decide +kernel
theorem dX5_mul_367 : decode cX5_mul 367 = .ok (.lload 47, 2) := by decide +kernel
theorem dX5_mul_369 : decode cX5_mul 369 = .ok (.lload 65, 2) := by decide +kernel
theorem dX5_mul_371 : decode cX5_mul 371 = .ok (.lmul, 1) := by decide +kernel
theorem dX5_mul_372 : decode cX5_mul 372 = .ok (.ladd, 1) := by decide +kernel
theorem dX5_mul_373 : decode cX5_mul 373 = .ok (.lload 15, 2) := by decide +kernel
theorem dX5_mul_375 : decode cX5_mul 375 = .ok (.lload 63, 2) := by decide +kernel
theorem dX5_mul_377 : decode cX5_mul 377 = .ok (.lmul, 1) := by decide +kernel
theorem dX5_mul_378 : decode cX5_mul 378 = .ok (.ladd, 1) := by decide +kernel
theorem dX5_mul_379 : decode cX5_mul 379 = .ok (.lload 49, 2) := by decide +kernel
theorem dX5_mul_381 : decode cX5_mul 381 = .ok (.lload 61, 2) := by decide +kernel
theorem dX5_mul_383 : decode cX5_mul 383 = .ok (.lmul, 1) := by decide +kernel
theorem dX5_mul_384 : decode cX5_mul 384 = .ok (.ladd, 1) := by decide +kernel
theorem dX5_mul_385 : decode cX5_mul 385 = .ok (.lload 19, 2) := by decide +kernel
theorem dX5_mul_387 : decode cX5_mul 387 = .ok (.lload 59, 2) := by decide +kernel
theorem dX5_mul_389 : decode cX5_mul 389 = .ok (.lmul, 1) := by decide +kernel
theorem dX5_mul_390 : decode cX5_mul 390 = .ok (.ladd, 1) := by decide +kernel
theorem dX5_mul_391 : decode cX5_mul 391 = .ok (.lload 51, 2) := by decide +kernel
theorem dX5_mul_393 : decode cX5_mul 393 = .ok (.lload 57, 2) := by decide +kernel
theorem dX5_mul_395 : decode cX5_mul 395 = .ok (.lmul, 1) := by decide +kernel
theorem dX5_mul_396 : decode cX5_mul 396 = .ok (.ladd, 1) := by decide +kernel
theorem dX5_mul_397 : decode cX5_mul 397 = .ok (.lstore 75, 2) := by decide +kernel
theorem dX5_mul_399 : decode cX5_mul 399 = .ok (.lload_n 3, 1) := by decide +kernel
theorem dX5_mul_400 : decode cX5_mul 400 = .ok (.lload 29, 2) := by decide +kernel
theorem dX5_mul_402 : decode cX5_mul 402 = .ok (.lmul, 1) := by decide +kernel
theorem dX5_mul_403 : decode cX5_mul 403 = .ok (.lload 5, 2) := by decide +kernel
theorem dX5_mul_405 : decode cX5_mul 405 = .ok (.lload 27, 2) := by decide +kernel
theorem dX5_mul_407 : decode cX5_mul 407 = .ok (.lmul, 1) := by decide +kernel
theorem dX5_mul_408 : decode cX5_mul 408 = .ok (.ladd, 1) := by decide +kernel
theorem dX5_mul_409 : decode cX5_mul 409 = .ok (.lload 7, 2) := by decide +kernel
theorem dX5_mul_411 : decode cX5_mul 411 = .ok (.lload 25, 2) := by decide +kernel
theorem dX5_mul_413 : decode cX5_mul 413 = .ok (.lmul, 1) := by decide +kernel
theorem dX5_mul_414 : decode cX5_mul 414 = .ok (.ladd, 1) := by decide +kernel
theorem dX5_mul_415 : decode cX5_mul 415 = .ok (.lload 9, 2) := by decide +kernel
theorem dX5_mul_417 : decode cX5_mul 417 = .ok (.lload 23, 2) := by decide +kernel
theorem dX5_mul_419 : decode cX5_mul 419 = .ok (.lmul, 1) := by decide +kernel
theorem dX5_mul_420 : decode cX5_mul 420 = .ok (.ladd, 1) := by decide +kernel
theorem dX5_mul_421 : decode cX5_mul 421 = .ok (.lload 11, 2) := by decide +kernel
theorem dX5_mul_423 : decode cX5_mul 423 = .ok (.lload 69, 2) := by decide +kernel
theorem dX5_mul_425 : decode cX5_mul 425 = .ok (.lmul, 1) := by decide +kernel
theorem dX5_mul_426 : decode cX5_mul 426 = .ok (.ladd, 1) := by decide +kernel
theorem dX5_mul_427 : decode cX5_mul 427 = .ok (.lload 13, 2) := by decide +kernel
theorem dX5_mul_429 : decode cX5_mul 429 = .ok (.lload 67, 2) := by decide +kernel
theorem dX5_mul_431 : decode cX5_mul 431 = .ok (.lmul, 1) := by decide +kernel
theorem dX5_mul_432 : decode cX5_mul 432 = .ok (.ladd, 1) := by decide +kernel
theorem dX5_mul_433 : decode cX5_mul 433 = .ok (.lload 15, 2) := by decide +kernel
theorem dX5_mul_435 : decode cX5_mul 435 = .ok (.lload 65, 2) := by decide +kernel
theorem dX5_mul_437 : decode cX5_mul 437 = .ok (.lmul, 1) := by decide +kernel
theorem dX5_mul_438 : decode cX5_mul 438 = .ok (.ladd, 1) := by decide +kernel
theorem dX5_mul_439 : decode cX5_mul 439 = .ok (.lload 17, 2) := by decide +kernel
theorem dX5_mul_441 : decode cX5_mul 441 = .ok (.lload 63, 2) := by decide +kernel
theorem dX5_mul_443 : decode cX5_mul 443 = .ok (.lmul, 1) := by decide +kernel
theorem dX5_mul_444 : decode cX5_mul 444 = .ok (.ladd, 1) := by decide +kernel
theorem dX5_mul_445 : decode cX5_mul 445 = .ok (.lload 19, 2) := by decide +kernel
theorem dX5_mul_447 : decode cX5_mul 447 = .ok (.lload 61, 2) := by decide +kernel
theorem dX5_mul_449 : decode cX5_mul 449 = .ok (.lmul, 1) := by decide +kernel
theorem dX5_mul_450 : decode cX5_mul 450 = .ok (.ladd, 1) := by decide +kernel
theorem dX5_mul_451 : decode cX5_mul 451 = .ok (.lload 21, 2) := by decide +kernel
theorem dX5_mul_453 : decode cX5_mul 453 = .ok (.lload 59, 2) := by decide +kernel
theorem dX5_mul_455 : decode cX5_mul 455 = .ok (.lmul, 1) := by decide +kernel
theorem dX5_mul_456 : decode cX5_mul 456 = .ok (.ladd, 1) := by decide +kernel
theorem dX5_mul_457 : decode cX5_mul 457 = .ok (.lstore 77, 2) := by decide +kernel
theorem dX5_mul_459 : decode cX5_mul 459 = .ok (.lload_n 3, 1) := by decide +kernel
theorem dX5_mul_460 : decode cX5_mul 460 = .ok (.lload 31, 2) := by decide +kernel
theorem dX5_mul_462 : decode cX5_mul 462 = .ok (.lmul, 1) := by decide +kernel
theorem dX5_mul_463 : decode cX5_mul 463 = .ok (.lload 43, 2) := by decide +kernel
theorem dX5_mul_465 : decode cX5_mul 465 = .ok (.lload 29, 2) := by decide +kernel
theorem dX5_mul_467 : decode cX5_mul 467 = .ok (.lmul, 1) := by decide +kernel
theorem dX5_mul_468 : decode cX5_mul 468 = .ok (.ladd, 1) := by decide +kernel
theorem dX5_mul_469 : decode cX5_mul 469 = .ok (.lload 7, 2) := by decide +kernel
theorem dX5_mul_471 : decode cX5_mul 471 = .ok (.lload 27, 2) := by decide +kernel
theorem dX5_mul_473 : decode cX5_mul 473 = .ok (.lmul, 1) := by decide +kernel
theorem dX5_mul_474 : decode cX5_mul 474 = .ok (.ladd, 1) := by decide +kernel
theorem dX5_mul_475 : decode cX5_mul 475 = .ok (.lload 45, 2) := by decide +kernel
theorem dX5_mul_477 : decode cX5_mul 477 = .ok (.lload 25, 2) := by decide +kernel
theorem dX5_mul_479 : decode cX5_mul 479 = .ok (.lmul, 1) := by decide +kernel
theorem dX5_mul_480 : decode cX5_mul 480 = .ok (.ladd, 1) := by decide +kernel
theorem dX5_mul_481 : decode cX5_mul 481 = .ok (.lload 11, 2) := by decide +kernel
theorem dX5_mul_483 : decode cX5_mul 483 = .ok (.lload 23, 2) := by decide +kernel
theorem dX5_mul_485 : decode cX5_mul 485 = .ok (.lmul, 1) := by decide +kernel
theorem dX5_mul_486 : decode cX5_mul 486 = .ok (.ladd, 1) := by decide +kernel
theorem dX5_mul_487 : decode cX5_mul 487 = .ok (.lload 47, 2) := by decide +kernel
theorem dX5_mul_489 : decode cX5_mul 489 = .ok (.lload 69, 2) := by decide +kernel
theorem dX5_mul_491 : decode cX5_mul 491 = .ok (.lmul, 1) := by decide +kernel
theorem dX5_mul_492 : decode cX5_mul 492 = .ok (.ladd, 1) := by decide +kernel
theorem dX5_mul_493 : decode cX5_mul 493 = .ok (.lload 15, 2) := by decide +kernel
theorem dX5_mul_495 : decode cX5_mul 495 = .ok (.lload 67, 2) := by decide +kernel
theorem dX5_mul_497 : decode cX5_mul 497 = .ok (.lmul, 1) := by decide +kernel
theorem dX5_mul_498 : decode cX5_mul 498 = .ok (.ladd, 1) := by decide +kernel
theorem dX5_mul_499 : decode cX5_mul 499 = .ok (.lload 49, 2) := by decide +kernel
theorem dX5_mul_501 : decode cX5_mul 501 = .ok (.lload 65, 2) := by decide +kernel
theorem dX5_mul_503 : decode cX5_mul 503 = .ok (.lmul, 1) := by decide +kernel
theorem dX5_mul_504 : decode cX5_mul 504 = .ok (.ladd, 1) := by decide +kernel
theorem dX5_mul_505 : decode cX5_mul 505 = .ok (.lload 19, 2) := by decide +kernel
theorem dX5_mul_507 : decode cX5_mul 507 = .ok (.lload 63, 2) := by decide +kernel
theorem dX5_mul_509 : decode cX5_mul 509 = .ok (.lmul, 1) := by decide +kernel
theorem dX5_mul_510 : decode cX5_mul 510 = .ok (.ladd, 1) := by decide +kernel
theorem dX5_mul_511 : decode cX5_mul 511 = .ok (.lload 51, 2) := by decide +kernel
theorem dX5_mul_513 : decode cX5_mul 513 = .ok (.lload 61, 2) := by decide +kernel
theorem dX5_mul_515 : decode cX5_mul 515 = .ok (.lmul, 1) := by decide +kernel
theorem dX5_mul_516 : decode cX5_mul 516 = .ok (.ladd, 1) := by decide +kernel
theorem dX5_mul_517 : decode cX5_mul 517 = .ok (.lstore 79, 2) := by decide +kernel
theorem dX5_mul_519 : decode cX5_mul 519 = .ok (.lload_n 3, 1) := by decide +kernel
theorem dX5_mul_520 : decode cX5_mul 520 = .ok (.lload 33, 2) := by decide +kernel
theorem dX5_mul_522 : decode cX5_mul 522 = .ok (.lmul, 1) := by decide +kernel
theorem dX5_mul_523 : decode cX5_mul 523 = .ok (.lload 5, 2) := by decide +kernel
theorem dX5_mul_525 : decode cX5_mul 525 = .ok (.lload 31, 2) := by decide +kernel
theorem dX5_mul_527 : decode cX5_mul 527 = .ok (.lmul, 1) := by decide +kernel
theorem dX5_mul_528 : decode cX5_mul 528 = .ok (.ladd, 1) := by decide +kernel
theorem dX5_mul_529 : decode cX5_mul 529 = .ok (.lload 7, 2) := by decide +kernel
theorem dX5_mul_531 : decode cX5_mul 531 = .ok (.lload 29, 2) := by decide +kernel
theorem dX5_mul_533 : decode cX5_mul 533 = .ok (.lmul, 1) := by decide +kernel
theorem dX5_mul_534 : decode cX5_mul 534 = .ok (.ladd, 1) := by decide +kernel
theorem dX5_mul_535 : decode cX5_mul 535 = .ok (.lload 9, 2) := by decide +kernel
theorem dX5_mul_537 : decode cX5_mul 537 = .ok (.lload 27, 2) := by decide +kernel
theorem dX5_mul_539 : decode cX5_mul 539 = .ok (.lmul, 1) := by decide +kernel
theorem dX5_mul_540 : decode cX5_mul 540 = .ok (.ladd, 1) := by decide +kernel
theorem dX5_mul_541 : decode cX5_mul 541 = .ok (.lload 11, 2) := by decide +kernel
theorem dX5_mul_543 : decode cX5_mul 543 = .ok (.lload 25, 2) := by decide +kernel
theorem dX5_mul_545 : decode cX5_mul 545 = .ok (.lmul, 1) := by decide +kernel
theorem dX5_mul_546 : decode cX5_mul 546 = .ok (.ladd, 1) := by decide +kernel
theorem dX5_mul_547 : decode cX5_mul 547 = .ok (.lload 13, 2) := by decide +kernel
theorem dX5_mul_549 : decode cX5_mul 549 = .ok (.lload 23, 2) := by decide +kernel
theorem dX5_mul_551 : decode cX5_mul 551 = .ok (.lmul, 1) := by decide +kernel
theorem dX5_mul_552 : decode cX5_mul 552 = .ok (.ladd, 1) := by decide +kernel
theorem dX5_mul_553 : decode cX5_mul 553 = .ok (.lload 15, 2) := by decide +kernel
theorem dX5_mul_555 : decode cX5_mul 555 = .ok (.lload 69, 2) := by decide +kernel
theorem dX5_mul_557 : decode cX5_mul 557 = .ok (.lmul, 1) := by decide +kernel
theorem dX5_mul_558 : decode cX5_mul 558 = .ok (.ladd, 1) := by decide +kernel
theorem dX5_mul_559 : decode cX5_mul 559 = .ok (.lload 17, 2) := by decide +kernel
theorem dX5_mul_561 : decode cX5_mul 561 = .ok (.lload 67, 2) := by decide +kernel
theorem dX5_mul_563 : decode cX5_mul 563 = .ok (.lmul, 1) := by decide +kernel
theorem dX5_mul_564 : decode cX5_mul 564 = .ok (.ladd, 1) := by decide +kernel
theorem dX5_mul_565 : decode cX5_mul 565 = .ok (.lload 19, 2) := by decide +kernel
theorem dX5_mul_567 : decode cX5_mul 567 = .ok (.lload 65, 2) := by decide +kernel
theorem dX5_mul_569 : decode cX5_mul 569 = .ok (.lmul, 1) := by decide +kernel
theorem dX5_mul_570 : decode cX5_mul 570 = .ok (.ladd, 1) := by decide +kernel
theorem dX5_mul_571 : decode cX5_mul 571 = .ok (.lload 21, 2) := by decide +kernel
theorem dX5_mul_573 : decode cX5_mul 573 = .ok (.lload 63, 2) := by decide +kernel
theorem dX5_mul_575 : decode cX5_mul 575 = .ok (.lmul, 1) := by decide +kernel
theorem dX5_mul_576 : decode cX5_mul 576 = .ok (.ladd, 1) := by decide +kernel
theorem dX5_mul_577 : decode cX5_mul 577 = .ok (.lstore 81, 2) := by decide +kernel
theorem dX5_mul_579 : decode cX5_mul 579 = .ok (.lload_n 3, 1) := by decide +kernel
theorem dX5_mul_580 : decode cX5_mul 580 = .ok (.lload 35, 2) := by decide +kernel
theorem dX5_mul_582 : decode cX5_mul 582 = .ok (.lmul, 1) := by decide +kernel
theorem dX5_mul_583 : decode cX5_mul 583 = .ok (.lload 43, 2) := by decide +kernel
theorem dX5_mul_585 : decode cX5_mul 585 = .ok (.lload 33, 2) := by decide +kernel
theorem dX5_mul_587 : decode cX5_mul 587 = .ok (.lmul, 1) := by decide +kernel
theorem dX5_mul_588 : decode cX5_mul 588 = .ok (.ladd, 1) := by decide +kernel
theorem dX5_mul_589 : decode cX5_mul 589 = .ok (.lload 7, 2) := by decide +kernel
theorem dX5_mul_591 : decode cX5_mul 591 = .ok (.lload 31, 2) := by decide +kernel
theorem dX5_mul_593 : decode cX5_mul 593 = .ok (.lmul, 1) := by decide +kernel
theorem dX5_mul_594 : decode cX5_mul 594 = .ok (.ladd, 1) := by decide +kernel
theorem dX5_mul_595 : decode cX5_mul 595 = .ok (.lload 45, 2) := by decide +kernel
theorem dX5_mul_597 : decode cX5_mul 597 = .ok (.lload 29, 2) := by decide +kernel
theorem dX5_mul_599 : decode cX5_mul 599 = .ok (.lmul, 1) := by decide +kernel
theorem dX5_mul_600 : decode cX5_mul 600 = .ok (.ladd, 1) := by decide +kernel
theorem dX5_mul_601 : decode cX5_mul 601 = .ok (.lload 11, 2) := by decide +kernel
theorem dX5_mul_603 : decode cX5_mul 603 = .ok (.lload 27, 2) := by decide +kernel
theorem dX5_mul_605 : decode cX5_mul 605 = .ok (.lmul, 1) := by decide +kernel
theorem dX5_mul_606 : decode cX5_mul 606 = .ok (.ladd, 1) := by decide +kernel
theorem dX5_mul_607 : decode cX5_mul 607 = .ok (.lload 47, 2) := by decide +kernel
theorem dX5_mul_609 : decode cX5_mul 609 = .ok (.lload 25, 2) := by decide +kernel
theorem dX5_mul_611 : decode cX5_mul 611 = .ok (.lmul, 1) := by decide +kernel
theorem dX5_mul_612 : decode cX5_mul 612 = .ok (.ladd, 1) := by decide +kernel
theorem dX5_mul_613 : decode cX5_mul 613 = .ok (.lload 15, 2) := by decide +kernel
theorem dX5_mul_615 : decode cX5_mul 615 = .ok (.lload 23, 2) := by decide +kernel
theorem dX5_mul_617 : decode cX5_mul 617 = .ok (.lmul, 1) := by decide +kernel
theorem dX5_mul_618 : decode cX5_mul 618 = .ok (.ladd, 1) := by decide +kernel
theorem dX5_mul_619 : decode cX5_mul 619 = .ok (.lload 49, 2) := by decide +kernel
theorem dX5_mul_621 : decode cX5_mul 621 = .ok (.lload 69, 2) := by decide +kernel
theorem dX5_mul_623 : decode cX5_mul 623 = .ok (.lmul, 1) := by decide +kernel
theorem dX5_mul_624 : decode cX5_mul 624 = .ok (.ladd, 1) := by decide +kernel
theorem dX5_mul_625 : decode cX5_mul 625 = .ok (.lload 19, 2) := by decide +kernel
theorem dX5_mul_627 : decode cX5_mul 627 = .ok (.lload 67, 2) := by decide +kernel
theorem dX5_mul_629 : decode cX5_mul 629 = .ok (.lmul, 1) := by decide +kernel
theorem dX5_mul_630 : decode cX5_mul 630 = .ok (.ladd, 1) := by decide +kernel
theorem dX5_mul_631 : decode cX5_mul 631 = .ok (.lload 51, 2) := by decide +kernel
theorem dX5_mul_633 : decode cX5_mul 633 = .ok (.lload 65, 2) := by decide +kernel
theorem dX5_mul_635 : decode cX5_mul 635 = .ok (.lmul, 1) := by decide +kernel
theorem dX5_mul_636 : decode cX5_mul 636 = .ok (.ladd, 1) := by decide +kernel
theorem dX5_mul_637 : decode cX5_mul 637 = .ok (.lstore 83, 2) := by decide +kernel
theorem dX5_mul_639 : decode cX5_mul 639 = .ok (.lload_n 3, 1) := by decide +kernel
theorem dX5_mul_640 : decode cX5_mul 640 = .ok (.lload 37, 2) := by decide +kernel
theorem dX5_mul_642 : decode cX5_mul 642 = .ok (.lmul, 1) := by decide +kernel
theorem dX5_mul_643 : decode cX5_mul 643 = .ok (.lload 5, 2) := by decide +kernel
theorem dX5_mul_645 : decode cX5_mul 645 = .ok (.lload 35, 2) := by decide +kernel
theorem dX5_mul_647 : decode cX5_mul 647 = .ok (.lmul, 1) := by decide +kernel
theorem dX5_mul_648 : decode cX5_mul 648 = .ok (.ladd, 1) := by decide +kernel
theorem dX5_mul_649 : decode cX5_mul 649 = .ok (.lload 7, 2) := by decide +kernel
theorem dX5_mul_651 : decode cX5_mul 651 = .ok (.lload 33, 2) := by decide +kernel
theorem dX5_mul_653 : decode cX5_mul 653 = .ok (.lmul, 1) := by decide +kernel
theorem dX5_mul_654 : decode cX5_mul 654 = .ok (.ladd, 1) := by decide +kernel
theorem dX5_mul_655 : decode cX5_mul 655 = .ok (.lload 9, 2) := by decide +kernel
theorem dX5_mul_657 : decode cX5_mul 657 = .ok (.lload 31, 2) := by decide +kernel
theorem dX5_mul_659 : decode cX5_mul 659 = .ok (.lmul, 1) := by decide +kernel
theorem dX5_mul_660 : decode cX5_mul 660 = .ok (.ladd, 1) := by decide +kernel
theorem dX5_mul_661 : decode cX5_mul 661 = .ok (.lload 11, 2) := by decide +kernel
theorem dX5_mul_663 : decode cX5_mul 663 = .ok (.lload 29, 2) := by decide +kernel
theorem dX5_mul_665 : decode cX5_mul 665 = .ok (.lmul, 1) := by decide +kernel
theorem dX5_mul_666 : decode cX5_mul 666 = .ok (.ladd, 1) := by decide +kernel
theorem dX5_mul_667 : decode cX5_mul 667 = .ok (.lload 13, 2) := by decide +kernel
theorem dX5_mul_669 : decode cX5_mul 669 = .ok (.lload 27, 2) := by decide +kernel
theorem dX5_mul_671 : decode cX5_mul 671 = .ok (.lmul, 1) := by decide +kernel
theorem dX5_mul_672 : decode cX5_mul 672 = .ok (.ladd, 1) := by decide +kernel
theorem dX5_mul_673 : decode cX5_mul 673 = .ok (.lload 15, 2) := by decide +kernel
theorem dX5_mul_675 : decode cX5_mul 675 = .ok (.lload 25, 2) := by decide +kernel
theorem dX5_mul_677 : decode cX5_mul 677 = .ok (.lmul, 1) := by decide +kernel
theorem dX5_mul_678 : decode cX5_mul 678 = .ok (.ladd, 1) := by decide +kernel
theorem dX5_mul_679 : decode cX5_mul 679 = .ok (.lload 17, 2) := by decide +kernel
theorem dX5_mul_681 : decode cX5_mul 681 = .ok (.lload 23, 2) := by decide +kernel
theorem dX5_mul_683 : decode cX5_mul 683 = .ok (.lmul, 1) := by decide +kernel
theorem dX5_mul_684 : decode cX5_mul 684 = .ok (.ladd, 1) := by decide +kernel
theorem dX5_mul_685 : decode cX5_mul 685 = .ok (.lload 19, 2) := by decide +kernel
theorem dX5_mul_687 : decode cX5_mul 687 = .ok (.lload 69, 2) := by decide +kernel
theorem dX5_mul_689 : decode cX5_mul 689 = .ok (.lmul, 1) := by decide +kernel
theorem dX5_mul_690 : decode cX5_mul 690 = .ok (.ladd, 1) := by decide +kernel
theorem dX5_mul_691 : decode cX5_mul 691 = .ok (.lload 21, 2) := by decide +kernel
theorem dX5_mul_693 : decode cX5_mul 693 = .ok (.lload 67, 2) := by decide +kernel
theorem dX5_mul_695 : decode cX5_mul 695 = .ok (.lmul, 1) := by decide +kernel
theorem dX5_mul_696 : decode cX5_mul 696 = .ok (.ladd, 1) := by decide +kernel
theorem dX5_mul_697 : decode cX5_mul 697 = .ok (.lstore 85, 2) := by decide +kernel
theorem dX5_mul_699 : decode cX5_mul 699 = .ok (.lload_n 3, 1) := by decide +kernel
theorem dX5_mul_700 : decode cX5_mul 700 = .ok (.lload 39, 2) := by decide +kernel
theorem dX5_mul_702 : decode cX5_mul 702 = .ok (.lmul, 1) := by decide +kernel
theorem dX5_mul_703 : decode cX5_mul 703 = .ok (.lload 43, 2) := by decide +kernel
theorem dX5_mul_705 : decode cX5_mul 705 = .ok (.lload 37, 2) := by decide +kernel
theorem dX5_mul_707 : decode cX5_mul 707 = .ok (.lmul, 1) := by decide +kernel
theorem dX5_mul_708 : decode cX5_mul 708 = .ok (.ladd, 1) := by decide +kernel
theorem dX5_mul_709 : decode cX5_mul 709 = .ok (.lload 7, 2) := by decide +kernel
theorem dX5_mul_711 : decode cX5_mul 711 = .ok (.lload 35, 2) := by decide +kernel
theorem dX5_mul_713 : decode cX5_mul 713 = .ok (.lmul, 1) := by decide +kernel
theorem dX5_mul_714 : decode cX5_mul 714 = .ok (.ladd, 1) := by decide +kernel
theorem dX5_mul_715 : decode cX5_mul 715 = .ok (.lload 45, 2) := by decide +kernel
theorem dX5_mul_717 : decode cX5_mul 717 = .ok (.lload 33, 2) := by decide +kernel
theorem dX5_mul_719 : decode cX5_mul 719 = .ok (.lmul, 1) := by decide +kernel
theorem dX5_mul_720 : decode cX5_mul 720 = .ok (.ladd, 1) := by decide +kernel
theorem dX5_mul_721 : decode cX5_mul 721 = .ok (.lload 11, 2) := by decide +kernel
theorem dX5_mul_723 : decode cX5_mul 723 = .ok (.lload 31, 2) := by decide +kernel
theorem dX5_mul_725 : decode cX5_mul 725 = .ok (.lmul, 1) := by decide +kernel
theorem dX5_mul_726 : decode cX5_mul 726 = .ok (.ladd, 1) := by decide +kernel
theorem dX5_mul_727 : decode cX5_mul 727 = .ok (.lload 47, 2) := by decide +kernel
theorem dX5_mul_729 : decode cX5_mul 729 = .ok (.lload 29, 2) := by decide +kernel
theorem dX5_mul_731 : decode cX5_mul 731 = .ok (.lmul, 1) := by decide +kernel
theorem dX5_mul_732 : decode cX5_mul 732 = .ok (.ladd, 1) := by decide +kernel
theorem dX5_mul_733 : decode cX5_mul 733 = .ok (.lload 15, 2) := by decide +kernel
theorem dX5_mul_735 : decode cX5_mul 735 = .ok (.lload 27, 2) := by decide +kernel
theorem dX5_mul_737 : decode cX5_mul 737 = .ok (.lmul, 1) := by decide +kernel
theorem dX5_mul_738 : decode cX5_mul 738 = .ok (.ladd, 1) := by decide +kernel
theorem dX5_mul_739 : decode cX5_mul 739 = .ok (.lload 49, 2) := by decide +kernel
theorem dX5_mul_741 : decode cX5_mul 741 = .ok (.lload 25, 2) := by decide +kernel
theorem dX5_mul_743 : decode cX5_mul 743 = .ok (.lmul, 1) := by decide +kernel
theorem dX5_mul_744 : decode cX5_mul 744 = .ok (.ladd, 1) := by decide +kernel
theorem dX5_mul_745 : decode cX5_mul 745 = .ok (.lload 19, 2) := by decide +kernel
theorem dX5_mul_747 : decode cX5_mul 747 = .ok (.lload 23, 2) := by decide +kernel
theorem dX5_mul_749 : decode cX5_mul 749 = .ok (.lmul, 1) := by decide +kernel
theorem dX5_mul_750 : decode cX5_mul 750 = .ok (.ladd, 1) := by decide +kernel
theorem dX5_mul_751 : decode cX5_mul 751 = .ok (.lload 51, 2) := by decide +kernel
theorem dX5_mul_753 : decode cX5_mul 753 = .ok (.lload 69, 2) := by decide +kernel
theorem dX5_mul_755 : decode cX5_mul 755 = .ok (.lmul, 1) := by decide +kernel
theorem dX5_mul_756 : decode cX5_mul 756 = .ok (.ladd, 1) := by decide +kernel
theorem dX5_mul_757 : decode cX5_mul 757 = .ok (.lstore 87, 2) := by decide +kernel
theorem dX5_mul_759 : decode cX5_mul 759 = .ok (.lload_n 3, 1) := by decide +kernel
theorem dX5_mul_760 : decode cX5_mul 760 = .ok (.lload 41, 2) := by decide +kernel
theorem dX5_mul_762 : decode cX5_mul 762 = .ok (.lmul, 1) := by decide +kernel
theorem dX5_mul_763 : decode cX5_mul 763 = .ok (.lload 5, 2) := by decide +kernel
theorem dX5_mul_765 : decode cX5_mul 765 = .ok (.lload 39, 2) := by decide +kernel
theorem dX5_mul_767 : decode cX5_mul 767 = .ok (.lmul, 1) := by decide +kernel
theorem dX5_mul_768 : decode cX5_mul 768 = .ok (.ladd, 1) := by decide +kernel
theorem dX5_mul_769 : decode cX5_mul 769 = .ok (.lload 7, 2) := by decide +kernel
theorem dX5_mul_771 : decode cX5_mul 771 = .ok (.lload 37, 2) := by decide +kernel
theorem dX5_mul_773 : decode cX5_mul 773 = .ok (.lmul, 1) := by decide +kernel
theorem dX5_mul_774 : decode cX5_mul 774 = .ok (.ladd, 1) := by decide +kernel
theorem dX5_mul_775 : decode cX5_mul 775 = .ok (.lload 9, 2) := by decide +kernel
theorem dX5_mul_777 : decode cX5_mul 777 = .ok (.lload 35, 2) := by decide +kernel
theorem dX5_mul_779 : decode cX5_mul 779 = .ok (.lmul, 1) := by decide +kernel
theorem dX5_mul_780 : decode cX5_mul 780 = .ok (.ladd, 1) := by decide +kernel
theorem dX5_mul_781 : decode cX5_mul 781 = .ok (.lload 11, 2) := by decide +kernel
theorem dX5_mul_783 : decode cX5_mul 783 = .ok (.lload 33, 2) := by decide +kernel
theorem dX5_mul_785 : decode cX5_mul 785 = .ok (.lmul, 1) := by decide +kernel
theorem dX5_mul_786 : decode cX5_mul 786 = .ok (.ladd, 1) := by decide +kernel
theorem dX5_mul_787 : decode cX5_mul 787 = .ok (.lload 13, 2) := by decide +kernel
theorem dX5_mul_789 : decode cX5_mul 789 = .ok (.lload 31, 2) := by decide +kernel
theorem dX5_mul_791 : decode cX5_mul 791 = .ok (.lmul, 1) := by decide +kernel
theorem dX5_mul_792 : decode cX5_mul 792 = .ok (.ladd, 1) := by decide +kernel
theorem dX5_mul_793 : decode cX5_mul 793 = .ok (.lload 15, 2) := by decide +kernel
theorem dX5_mul_795 : decode cX5_mul 795 = .ok (.lload 29, 2) := by decide +kernel
theorem dX5_mul_797 : decode cX5_mul 797 = .ok (.lmul, 1) := by decide +kernel
theorem dX5_mul_798 : decode cX5_mul 798 = .ok (.ladd, 1) := by decide +kernel
theorem dX5_mul_799 : decode cX5_mul 799 = .ok (.lload 17, 2) := by decide +kernel
theorem dX5_mul_801 : decode cX5_mul 801 = .ok (.lload 27, 2) := by decide +kernel
theorem dX5_mul_803 : decode cX5_mul 803 = .ok (.lmul, 1) := by decide +kernel
theorem dX5_mul_804 : decode cX5_mul 804 = .ok (.ladd, 1) := by decide +kernel
theorem dX5_mul_805 : decode cX5_mul 805 = .ok (.lload 19, 2) := by decide +kernel
theorem dX5_mul_807 : decode cX5_mul 807 = .ok (.lload 25, 2) := by decide +kernel
theorem dX5_mul_809 : decode cX5_mul 809 = .ok (.lmul, 1) := by decide +kernel
theorem dX5_mul_810 : decode cX5_mul 810 = .ok (.ladd, 1) := by decide +kernel
theorem dX5_mul_811 : decode cX5_mul 811 = .ok (.lload 21, 2) := by decide +kernel
theorem dX5_mul_813 : decode cX5_mul 813 = .ok (.lload 23, 2) := by decide +kernel
theorem dX5_mul_815 : decode cX5_mul 815 = .ok (.lmul, 1) := by decide +kernel
theorem dX5_mul_816 : decode cX5_mul 816 = .ok (.ladd, 1) := by decide +kernel
theorem dX5_mul_817 : decode cX5_mul 817 = .ok (.lstore 89, 2) := by decide +kernel
theorem dX5_mul_819 : decode cX5_mul 819 = .ok (.lload 71, 2) := by decide +kernel
theorem dX5_mul_821 : decode cX5_mul 821 = .ok (.ldc2_w 192, 3) := by decide +kernel
theorem dX5_mul_824 : decode cX5_mul 824 = .ok (.ladd, 1) := by decide +kernel
theorem dX5_mul_825 : decode cX5_mul 825 = .ok (.bipush 26, 2) := by decide +kernel
theorem dX5_mul_827 : decode cX5_mul 827 = .ok (.lshr, 1) := by decide +kernel
theorem dX5_mul_828 : decode cX5_mul 828 = .ok (.lstore 91, 2) := by decide +kernel
theorem dX5_mul_830 : decode cX5_mul 830 = .ok (.lload 73, 2) := by decide +kernel
theorem dX5_mul_832 : decode cX5_mul 832 = .ok (.lload 91, 2) := by decide +kernel
theorem dX5_mul_834 : decode cX5_mul 834 = .ok (.ladd, 1) := by decide +kernel
theorem dX5_mul_835 : decode cX5_mul 835 = .ok (.lstore 73, 2) := by decide +kernel
theorem dX5_mul_837 : decode cX5_mul 837 = .ok (.lload 71, 2) := by decide +kernel
theorem dX5_mul_839 : decode cX5_mul 839 = .ok (.lload 91, 2) := by decide +kernel
theorem dX5_mul_841 : decode cX5_mul 841 = .ok (.bipush 26, 2) := by decide +kernel
theorem dX5_mul_843 : decode cX5_mul 843 = .ok (.lshl, 1) := by decide +kernel
theorem dX5_mul_844 : decode cX5_mul 844 = .ok (.lsub, 1) := by decide +kernel
theorem dX5_mul_845 : decode cX5_mul 845 = .ok (.lstore 71, 2) := by decide +kernel
theorem dX5_mul_847 : decode cX5_mul 847 = .ok (.lload 79, 2) := by decide +kernel
theorem dX5_mul_849 : decode cX5_mul 849 = .ok (.ldc2_w 192, 3) := by decide +kernel
theorem dX5_mul_852 : decode cX5_mul 852 = .ok (.ladd, 1) := by decide +kernel
theorem dX5_mul_853 : decode cX5_mul 853 = .ok (.bipush 26, 2) := by decide +kernel
theorem dX5_mul_855 : decode cX5_mul 855 = .ok (.lshr, 1) := by decide +kernel
theorem dX5_mul_856 : decode cX5_mul 856 = .ok (.lstore 91, 2) := by decide +kernel
theorem dX5_mul_858 : decode cX5_mul 858 = .ok (.lload 81, 2) := by decide +kernel
theorem dX5_mul_860 : decode cX5_mul 860 = .ok (.lload 91, 2) := by decide +kernel
theorem dX5_mul_862 : decode cX5_mul 862 = .ok (.ladd, 1) := by decide +kernel
theorem dX5_mul_863 : decode cX5_mul 863 = .ok (.lstore 81, 2) := by decide +kernel
theorem dX5_mul_865 : decode cX5_mul 865 = .ok (.lload 79, 2) := by decide +kernel
theorem dX5_mul_867 : decode cX5_mul 867 = .ok (.lload 91, 2) := by decide +kernel
theorem dX5_mul_869 : decode cX5_mul 869 = .ok (.bipush 26, 2) := by decide +kernel
theorem dX5_mul_871 : decode cX5_mul 871 = .ok (.lshl, 1) := by decide +kernel
theorem dX5_mul_872 : decode cX5_mul 872 = .ok (.lsub, 1) := by decide +kernel
theorem dX5_mul_873 : decode cX5_mul 873 = .ok (.lstore 79, 2) := by decide +kernel
theorem dX5_mul_875 : decode cX5_mul 875 = .ok (.lload 73, 2) := by decide +kernel
theorem dX5_mul_877 : decode cX5_mul 877 = .ok (.ldc2_w 194, 3) := by decide +kernel
theorem dX5_mul_880 : decode cX5_mul 880 = .ok (.ladd, 1) := by decide +kernel
theorem dX5_mul_881 : decode cX5_mul 881 = .ok (.bipush 25, 2) := by decide +kernel
theorem dX5_mul_883 : decode cX5_mul 883 = .ok (.lshr, 1) := by decide +kernel
theorem dX5_mul_884 : decode cX5_mul 884 = .ok (.lstore 91, 2) := by decide +kernel
theorem dX5_mul_886 : decode cX5_mul 886 = .ok (.lload 75, 2) := by decide +kernel
theorem dX5_mul_888 : decode cX5_mul 888 = .ok (.lload 91, 2) := by decide +kernel
theorem dX5_mul_890 : decode cX5_mul 890 = .ok (.ladd, 1) := by decide +kernel
theorem dX5_mul_891 : decode cX5_mul 891 = .ok (.lstore 75, 2) := by decide +kernel
theorem dX5_mul_893 : decode cX5_mul 893 = .ok (.aload_n 0, 1) := by decide +kernel
theorem dX5_mul_894 : decode cX5_mul 894 = .ok (.iconst 1, 1) := by decide +kernel
theorem dX5_mul_895 : decode cX5_mul 895 = .ok (.lload 73, 2) := by decide +kernel
theorem dX5_mul_897 : decode cX5_mul 897 = .ok (.lload 91, 2) := by decide +kernel
theorem dX5_mul_899 : decode cX5_mul 899 = .ok (.bipush 25, 2) := by decide +kernel
theorem dX5_mul_901 : decode cX5_mul 901 = .ok (.lshl, 1) := by decide +kernel
theorem dX5_mul_902 : decode cX5_mul 902 = .ok (.lsub, 1) := by decide +kernel
theorem dX5_mul_903 : decode cX5_mul 903 = .ok (.lastore, 1) := by decide +kernel
theorem dX5_mul_904 : decode cX5_mul 904 = .ok (.lload 81, 2) := by decide +kernel
theorem dX5_mul_906 : decode cX5_mul 906 = .ok (.ldc2_w 194, 3) := by decide +kernel
theorem dX5_mul_909 : decode cX5_mul 909 = .ok (.ladd, 1) := by decide +kernel
theorem dX5_mul_910 : decode cX5_mul 910 = .ok (.bipush 25, 2) := by decide +kernel
theorem dX5_mul_912 : decode cX5_mul 912 = .ok (.lshr, 1) := by decide +kernel
theorem dX5_mul_913 : decode cX5_mul 913 = .ok (.lstore 91, 2) := by decide +kernel
theorem dX5_mul_915 : decode cX5_mul 915 = .ok (.lload 83, 2) := by decide +kernel
theorem dX5_mul_917 : decode cX5_mul 917 = .ok (.lload 91, 2) := by decide +kernel
theorem dX5_mul_919 : decode cX5_mul 919 = .ok (.ladd, 1) := by decide +kernel
theorem dX5_mul_920 : decode cX5_mul 920 = .ok (.lstore 83, 2) := by decide +kernel
theorem dX5_mul_922 : decode cX5_mul 922 = .ok (.aload_n 0, 1) := by decide +kernel
theorem dX5_mul_923 : decode cX5_mul 923 = .ok (.iconst 5, 1) := by decide +kernel
theorem dX5_mul_924 : decode cX5_mul 924 = .ok (.lload 81, 2) := by decide +kernel
theorem dX5_mul_926 : decode cX5_mul 926 = .ok (.lload 91, 2) := by decide +kernel
theorem dX5_mul_928 : decode cX5_mul 928 = .ok (.bipush 25, 2) := by decide +kernel
theorem dX5_mul_930 : decode cX5_mul 930 = .ok (.lshl, 1) := by decide +kernel
theorem dX5_mul_931 : decode cX5_mul 931 = .ok (.lsub, 1) := by decide +kernel
theorem dX5_mul_932 : decode cX5_mul 932 = .ok (.lastore, 1) := by decide +kernel
theorem dX5_mul_933 : decode cX5_mul 933 = .ok (.lload 75, 2) := by decide +kernel
theorem dX5_mul_935 : decode cX5_mul 935 = .ok (.ldc2_w 192, 3) := by decide +kernel
theorem dX5_mul_938 : decode cX5_mul 938 = .ok (.ladd, 1) := by decide +kernel
theorem dX5_mul_939 : decode cX5_mul 939 = .ok (.bipush 26, 2) := by decide +kernel
theorem dX5_mul_941 : decode cX5_mul 941 = .ok (.lshr, 1) := by decide +kernel
theorem dX5_mul_942 : decode cX5_mul 942 = .ok (.lstore 91, 2) := by decide +kernel
theorem dX5_mul_944 : decode cX5_mul 944 = .ok (.lload 77, 2) := by decide +kernel
theorem dX5_mul_946 : decode cX5_mul 946 = .ok (.lload 91, 2) := by decide +kernel
theorem dX5_mul_948 : decode cX5_mul 948 = .ok (.ladd, 1) := by decide +kernel
theorem dX5_mul_949 : decode cX5_mul 949 = .ok (.lstore 77, 2) := by decide +kernel
theorem dX5_mul_951 : decode cX5_mul 951 = .ok (.aload_n 0, 1) := by decide +kernel
theorem dX5_mul_952 : decode cX5_mul 952 = .ok (.iconst 2, 1) := by decide +kernel
theorem dX5_mul_953 : decode cX5_mul 953 = .ok (.lload 75, 2) := by decide +kernel
theorem dX5_mul_955 : decode cX5_mul 955 = .ok (.lload 91, 2) := by decide +kernel
theorem dX5_mul_957 : decode cX5_mul 957 = .ok (.bipush 26, 2) := by decide +kernel
theorem dX5_mul_959 : decode cX5_mul 959 = .ok (.lshl, 1) := by decide +kernel
theorem dX5_mul_960 : decode cX5_mul 960 = .ok (.lsub, 1) := by decide +kernel
theorem dX5_mul_961 : decode cX5_mul 961 = .ok (.lastore, 1) := by decide +kernel
theorem dX5_mul_962 : decode cX5_mul 962 = .ok (.lload 83, 2) := by decide +kernel
theorem dX5_mul_964 : decode cX5_mul 964 = .ok (.ldc2_w 192, 3) := by decide +kernel
theorem dX5_mul_967 : decode cX5_mul 967 = .ok (.ladd, 1) := by decide +kernel
theorem dX5_mul_968 : decode cX5_mul 968 = .ok (.bipush 26, 2) := by decide +kernel
theorem dX5_mul_970 : decode cX5_mul 970 = .ok (.lshr, 1) := by decide +kernel
theorem dX5_mul_971 : decode cX5_mul 971 = .ok (.lstore 91, 2) := by decide +kernel
theorem dX5_mul_973 : decode cX5_mul 973 = .ok (.lload 85, 2) := by decide +kernel
theorem dX5_mul_975 : decode cX5_mul 975 = .ok (.lload 91, 2) := by decide +kernel
theorem dX5_mul_977 : decode cX5_mul 977 = .ok (.ladd, 1) := by decide +kernel
theorem dX5_mul_978 : decode cX5_mul 978 = .ok (.lstore 85, 2) := by decide +kernel
theorem dX5_mul_980 : decode cX5_mul 980 = .ok (.aload_n 0, 1) := by decide +kernel
theorem dX5_mul_981 : decode cX5_mul 981 = .ok (.bipush 6, 2) := by decide +kernel
theorem dX5_mul_983 : decode cX5_mul 983 = .ok (.lload 83, 2) := by decide +kernel
theorem dX5_mul_985 : decode cX5_mul 985 = .ok (.lload 91, 2) := by decide +kernel
theorem dX5_mul_987 : decode cX5_mul 987 = .ok (.bipush 26, 2) := by decide +kernel
theorem dX5_mul_989 : decode cX5_mul 989 = .ok (.lshl, 1) := by decide +kernel
theorem dX5_mul_990 : decode cX5_mul 990 = .ok (.lsub, 1) := by decide +kernel
theorem dX5_mul_991 : decode cX5_mul 991 = .ok (.lastore, 1) := by decide +kernel
theorem dX5_mul_992 : decode cX5_mul 992 = .ok (.lload 77, 2) := by decide +kernel
theorem dX5_mul_994 : decode cX5_mul 994 = .ok (.ldc2_w 194, 3) := by decide +kernel
theorem dX5_mul_997 : decode cX5_mul 997 = .ok (.ladd, 1) := by decide +kernel
theorem dX5_mul_998 : decode cX5_mul 998 = .ok (.bipush 25, 2) := by decide +kernel
theorem dX5_mul_1000 : decode cX5_mul 1000 = .ok (.lshr, 1) := by decide +kernel
theorem dX5_mul_1001 : decode cX5_mul 1001 = .ok (.lstore 91, 2) := by decide +kernel
theorem dX5_mul_1003 : decode cX5_mul 1003 = .ok (.lload 79, 2) := by decide +kernel
theorem dX5_mul_1005 : decode cX5_mul 1005 = .ok (.lload 91, 2) := by decide +kernel
theorem dX5_mul_1007 : decode cX5_mul 1007 = .ok (.ladd, 1) := by decide +kernel
theorem dX5_mul_1008 : decode cX5_mul 1008 = .ok (.lstore 79, 2) := by decide +kernel
theorem dX5_mul_1010 : decode cX5_mul 1010 = .ok (.aload_n 0, 1) := by decide +kernel
theorem dX5_mul_1011 : decode cX5_mul 1011 = .ok (.iconst 3, 1) := by decide +kernel
theorem dX5_mul_1012 : decode cX5_mul 1012 = .ok (.lload 77, 2) := by decide +kernel
theorem dX5_mul_1014 : decode cX5_mul 1014 = .ok (.lload 91, 2) := by decide +kernel
theorem dX5_mul_1016 : decode cX5_mul 1016 = .ok (.bipush 25, 2) := by decide +kernel
theorem dX5_mul_1018 : decode cX5_mul 1018 = .ok (.lshl, 1) := by decide +kernel
theorem dX5_mul_1019 : decode cX5_mul 1019 = .ok (.lsub, 1) := by decide +kernel
theorem dX5_mul_1020 : decode cX5_mul 1020 = .ok (.lastore, 1) := by decide +kernel
theorem dX5_mul_1021 : decode cX5_mul 1021 = .ok (.lload 85, 2) := by decide +kernel
theorem dX5_mul_1023 : decode cX5_mul 1023 = .ok (.ldc2_w 194, 3) := by decide +kernel
theorem dX5_mul_1026 : decode cX5_mul 1026 = .ok (.ladd, 1) := by decide +kernel
theorem dX5_mul_1027 : decode cX5_mul 1027 = .ok (.bipush 25, 2) := by decide +kernel
theorem dX5_mul_1029 : decode cX5_mul 1029 = .ok (.lshr, 1) := by decide +kernel
theorem dX5_mul_1030 : decode cX5_mul 1030 = .ok (.lstore 91, 2) := by decide +kernel
theorem dX5_mul_1032 : decode cX5_mul 1032 = .ok (.lload 87, 2) := by decide +kernel
theorem dX5_mul_1034 : decode cX5_mul 1034 = .ok (.lload 91, 2) := by decide +kernel
theorem dX5_mul_1036 : decode cX5_mul 1036 = .ok (.ladd, 1) := by decide +kernel
theorem dX5_mul_1037 : decode cX5_mul 1037 = .ok (.lstore 87, 2) := by decide +kernel
theorem dX5_mul_1039 : decode cX5_mul 1039 = .ok (.aload_n 0, 1) := by decide +kernel
theorem dX5_mul_1040 : decode cX5_mul 1040 = .ok (.bipush 7, 2) := by decide +kernel
theorem dX5_mul_1042 : decode cX5_mul 1042 = .ok (.lload 85, 2) := by decide +kernel
theorem dX5_mul_1044 : decode cX5_mul 1044 = .ok (.lload 91, 2) := by decide +kernel
theorem dX5_mul_1046 : decode cX5_mul 1046 = .ok (.bipush 25, 2) := by decide +kernel
theorem dX5_mul_1048 : decode cX5_mul 1048 = .ok (.lshl, 1) := by decide +kernel
theorem dX5_mul_1049 : decode cX5_mul 1049 = .ok (.lsub, 1) := by decide +kernel
theorem dX5_mul_1050 : decode cX5_mul 1050 = .ok (.lastore, 1) := by decide +kernel
theorem dX5_mul_1051 : decode cX5_mul 1051 = .ok (.lload 79, 2) := by decide +kernel
theorem dX5_mul_1053 : decode cX5_mul 1053 = .ok (.ldc2_w 192, 3) := by decide +kernel
theorem dX5_mul_1056 : decode cX5_mul 1056 = .ok (.ladd, 1) := by decide +kernel
theorem dX5_mul_1057 : decode cX5_mul 1057 = .ok (.bipush 26, 2) := by decide +kernel
theorem dX5_mul_1059 : decode cX5_mul 1059 = .ok (.lshr, 1) := by decide +kernel
theorem dX5_mul_1060 : decode cX5_mul 1060 = .ok (.lstore 91, 2) := by decide +kernel
theorem dX5_mul_1062 : decode cX5_mul 1062 = .ok (.aload_n 0, 1) := by decide +kernel
theorem dX5_mul_1063 : decode cX5_mul 1063 = .ok (.iconst 5, 1) := by decide +kernel
theorem dX5_mul_1064 : decode cX5_mul 1064 = .ok (.dup2, 1) := by decide +kernel
theorem dX5_mul_1065 : decode cX5_mul 1065 = .ok (.laload, 1) := by decide +kernel
theorem dX5_mul_1066 : decode cX5_mul 1066 = .ok (.lload 91, 2) := by decide +kernel
theorem dX5_mul_1068 : decode cX5_mul 1068 = .ok (.ladd, 1) := by decide +kernel
theorem dX5_mul_1069 : decode cX5_mul 1069 = .ok (.lastore, 1) := by decide +kernel
theorem dX5_mul_1070 : decode cX5_mul 1070 = .ok (.aload_n 0, 1) := by decide +kernel
theorem dX5_mul_1071 : decode cX5_mul 1071 = .ok (.iconst 4, 1) := by decide +kernel
theorem dX5_mul_1072 : decode cX5_mul 1072 = .ok (.lload 79, 2) := by decide +kernel
theorem dX5_mul_1074 : decode cX5_mul 1074 = .ok (.lload 91, 2) := by decide +kernel
theorem dX5_mul_1076 : decode cX5_mul 1076 = .ok (.bipush 26, 2) := by decide +kernel
theorem dX5_mul_1078 : decode cX5_mul 1078 = .ok (.lshl, 1) := by decide +kernel
theorem dX5_mul_1079 : decode cX5_mul 1079 = .ok (.lsub, 1) := by decide +kernel
theorem dX5_mul_1080 : decode cX5_mul 1080 = .ok (.lastore, 1) := by decide +kernel
theorem dX5_mul_1081 : decode cX5_mul 1081 = .ok (.lload 87, 2) := by decide +kernel
theorem dX5_mul_1083 : decode cX5_mul 1083 = .ok (.ldc2_w 192, 3) := by decide +kernel
theorem dX5_mul_1086 : decode cX5_mul 1086 = .ok (.ladd, 1) := by decide +kernel
theorem dX5_mul_1087 : decode cX5_mul 1087 = .ok (.bipush 26, 2) := by decide +kernel
theorem dX5_mul_1089 : decode cX5_mul 1089 = .ok (.lshr, 1) := by decide +kernel
theorem dX5_mul_1090 : decode cX5_mul 1090 = .ok (.lstore 91, 2) := by decide +kernel
theorem dX5_mul_1092 : decode cX5_mul 1092 = .ok (.lload 89, 2) := by decide +kernel
theorem dX5_mul_1094 : decode cX5_mul 1094 = .ok (.lload 91, 2) := by decide +kernel
theorem dX5_mul_1096 : decode cX5_mul 1096 = .ok (.ladd, 1) := by decide +kernel
theorem dX5_mul_1097 : decode cX5_mul 1097 = .ok (.lstore 89, 2) := by decide +kernel
theorem dX5_mul_1099 : decode cX5_mul 1099 = .ok (.aload_n 0, 1) := by decide +kernel
theorem dX5_mul_1100 : decode cX5_mul 1100 = .ok (.bipush 8, 2) := by decide +kernel
theorem dX5_mul_1102 : decode cX5_mul 1102 = .ok (.lload 87, 2) := by decide +kernel
theorem dX5_mul_1104 : decode cX5_mul 1104 = .ok (.lload 91, 2) := by decide +kernel
theorem dX5_mul_1106 : decode cX5_mul 1106 = .ok (.bipush 26, 2) := by decide +kernel
theorem dX5_mul_1108 : decode cX5_mul 1108 = .ok (.lshl, 1) := by decide +kernel
theorem dX5_mul_1109 : decode cX5_mul 1109 = .ok (.lsub, 1) := by decide +kernel
theorem dX5_mul_1110 : decode cX5_mul 1110 = .ok (.lastore, 1) := by decide +kernel
theorem dX5_mul_1111 : decode cX5_mul 1111 = .ok (.lload 89, 2) := by decide +kernel
theorem dX5_mul_1113 : decode cX5_mul 1113 = .ok (.ldc2_w 194, 3) := by decide +kernel
theorem dX5_mul_1116 : decode cX5_mul 1116 = .ok (.ladd, 1) := by decide +kernel
theorem dX5_mul_1117 : decode cX5_mul 1117 = .ok (.bipush 25, 2) := by decide +kernel
theorem dX5_mul_1119 : decode cX5_mul 1119 = .ok (.lshr, 1) := by decide +kernel
theorem dX5_mul_1120 : decode cX5_mul 1120 = .ok (.lstore 91, 2) := by decide +kernel
theorem dX5_mul_1122 : decode cX5_mul 1122 = .ok (.lload 71, 2) := by decide +kernel
theorem dX5_mul_1124 : decode cX5_mul 1124 = .ok (.ldc2_w 190, 3) := by decide +kernel
theorem dX5_mul_1127 : decode cX5_mul 1127 = .ok (.lload 91, 2) := by decide +kernel
theorem dX5_mul_1129 : decode cX5_mul 1129 = .ok (.lmul, 1) := by decide +kernel
theorem dX5_mul_1130 : decode cX5_mul 1130 = .ok (.ladd, 1) := by decide +kernel
theorem dX5_mul_1131 : decode cX5_mul 1131 = .ok (.lstore 71, 2) := by decide +kernel
theorem dX5_mul_1133 : decode cX5_mul 1133 = .ok (.aload_n 0, 1) := by decide +kernel
theorem dX5_mul_1134 : decode cX5_mul 1134 = .ok (.bipush 9, 2) := by decide +kernel
theorem dX5_mul_1136 : decode cX5_mul 1136 = .ok (.lload 89, 2) := by decide +kernel
theorem dX5_mul_1138 : decode cX5_mul 1138 = .ok (.lload 91, 2) := by decide +kernel
theorem dX5_mul_1140 : decode cX5_mul 1140 = .ok (.bipush 25, 2) := by decide +kernel
theorem dX5_mul_1142 : decode cX5_mul 1142 = .ok (.lshl, 1) := by decide +kernel
theorem dX5_mul_1143 : decode cX5_mul 1143 = .ok (.lsub, 1) := by decide +kernel
theorem dX5_mul_1144 : decode cX5_mul 1144 = .ok (.lastore, 1) := by decide +kernel
theorem dX5_mul_1145 : decode cX5_mul 1145 = .ok (.lload 71, 2) := by decide +kernel
theorem dX5_mul_1147 : decode cX5_mul 1147 = .ok (.ldc2_w 192, 3) := by decide +kernel
theorem dX5_mul_1150 : decode cX5_mul 1150 = .ok (.ladd, 1) := by decide +kernel
theorem dX5_mul_1151 : decode cX5_mul 1151 = .ok (.bipush 26, 2) := by decide +kernel
theorem dX5_mul_1153 : decode cX5_mul 1153 = .ok (.lshr, 1) := by decide +kernel
theorem dX5_mul_1154 : decode cX5_mul 1154 = .ok (.lstore 91, 2) := by decide +kernel
theorem dX5_mul_1156 : decode cX5_mul 1156 = .ok (.aload_n 0, 1) := by decide +kernel
theorem dX5_mul_1157 : decode cX5_mul 1157 = .ok (.iconst 1, 1) := by decide +kernel
theorem dX5_mul_1158 : decode cX5_mul 1158 = .ok (.dup2, 1) := by decide +kernel
theorem dX5_mul_1159 : decode cX5_mul 1159 = .ok (.laload, 1) := by decide +kernel
theorem dX5_mul_1160 : decode cX5_mul 1160 = .ok (.lload 91, 2) := by decide +kernel
theorem dX5_mul_1162 : decode cX5_mul 1162 = .ok (.ladd, 1) := by decide +kernel
theorem dX5_mul_1163 : decode cX5_mul 1163 = .ok (.lastore, 1) := by decide +kernel
theorem dX5_mul_1164 : decode cX5_mul 1164 = .ok (.aload_n 0, 1) := by decide +kernel
theorem dX5_mul_1165 : decode cX5_mul 1165 = .ok (.iconst 0, 1) := by decide +kernel
theorem dX5_mul_1166 : decode cX5_mul 1166 = .ok (.lload 71, 2) := by decide +kernel
theorem dX5_mul_1168 : decode cX5_mul 1168 = .ok (.lload 91, 2) := by decide +kernel
theorem dX5_mul_1170 : decode cX5_mul 1170 = .ok (.bipush 26, 2) := by decide +kernel
theorem dX5_mul_1172 : decode cX5_mul 1172 = .ok (.lshl, 1) := by decide +kernel
theorem dX5_mul_1173 : decode cX5_mul 1173 = .ok (.lsub, 1) := by decide +kernel
theorem dX5_mul_1174 : decode cX5_mul 1174 = .ok (.lastore, 1) := by decide +kernel
theorem dX5_mul_1175 : decode cX5_mul 1175 = .ok (.return_, 1) := by decide +kernel
theorem dX6_init_0 : decode cX6_init 0 = .ok (.aload_n 0, 1) := by decide +kernel
theorem dX6_init_1 : decode cX6_init 1 = .ok (.invokespecial 3, 3) := by decide +kernel
theorem dX6_init_4 : decode cX6_init 4 = .ok (.aload_n 0, 1) := by decide +kernel
theorem dX6_init_5 : decode cX6_init 5 = .ok (.iconst 5, 1) := by decide +kernel
theorem dX6_init_6 : decode cX6_init 6 = .ok (.newarray .int, 2) := by decide +kernel
theorem dX6_init_8 : decode cX6_init 8 = .ok (.dup, 1) := by decide +kernel
theorem dX6_init_9 : decode cX6_init 9 = .ok (.iconst 0, 1) := by decide +kernel
theorem dX6_init_10 : decode cX6_init 10 = .ok (.bipush 12, 2) := by decide +kernel
theorem dX6_init_12 : decode cX6_init 12 = .ok (.iastore, 1) := by decide +kernel
theorem dX6_init_13 : decode cX6_init 13 = .ok (.dup, 1) := by decide +kernel
theorem dX6_init_14 : decode cX6_init 14 = .ok (.iconst 1, 1) := by decide +kernel
theorem dX6_init_15 : decode cX6_init 15 = .ok (.bipush 21, 2) := by decide +kernel
theorem dX6_init_17 : decode cX6_init 17 = .ok (.iastore, 1) := by decide +kernel
theorem dX6_init_18 : decode cX6_init 18 = .ok (.dup, 1) := by decide +kernel
theorem dX6_init_19 : decode cX6_init 19 = .ok (.iconst 2, 1) := by decide +kernel
theorem dX6_init_20 : decode cX6_init 20 = .ok (.sipush 4096, 3) := by decide +kernel
theorem dX6_init_23 : decode cX6_init 23 = .ok (.iastore, 1) := by decide +kernel
theorem dX6_init_24 : decode cX6_init 24 = .ok (.dup, 1) := by decide +kernel
theorem dX6_init_25 : decode cX6_init 25 = .ok (.iconst 3, 1) := by decide +kernel
theorem dX6_init_26 : decode cX6_init 26 = .ok (.sipush 1024, 3) := by decide +kernel
theorem dX6_init_29 : decode cX6_init 29 = .ok (.iastore, 1) := by decide +kernel
theorem dX6_init_30 : decode cX6_init 30 = .ok (.dup, 1) := by decide +kernel
theorem dX6_init_31 : decode cX6_init 31 = .ok (.iconst 4, 1) := by decide +kernel
theorem dX6_init_32 : decode cX6_init 32 = .ok (.ldc 9, 2) := by decide +kernel
theorem dX6_init_34 : decode cX6_init 34 = .ok (.iastore, 1) := by decide +kernel
theorem dX6_init_35 : decode cX6_init 35 = .ok (.putfield 10, 3) := by decide +kernel
theorem dX6_init_38 : decode cX6_init 38 = .ok (.aload_n 0, 1) := by decide +kernel
theorem dX6_init_39 : decode cX6_init 39 = .ok (.bipush 16, 2) := by decide +kernel
theorem dX6_init_41 : decode cX6_init 41 = .ok (.anewarray 16, 3) := by decide +kernel
theorem dX6_init_44 : decode cX6_init 44 = .ok (.putfield 18, 3) := by decide +kernel
theorem dX6_init_47 : decode cX6_init 47 = .ok (.aload_n 0, 1) := by decide +kernel
theorem dX6_init_48 : decode cX6_init 48 = .ok (.new 22, 3) := by decide +kernel
theorem dX6_init_51 : decode cX6_init 51 = .ok (.dup, 1) := by decide +kernel
theorem dX6_init_52 : decode cX6_init 52 = .ok (.sipush 256, 3) := by decide +kernel
theorem dX6_init_55 : decode cX6_init 55 = .ok (.invokespecial 24, 3) := by decide +kernel
theorem dX6_init_58 : decode cX6_init 58 = .ok (.putfield 27, 3) := by decide +kernel
theorem dX6_init_61 : decode cX6_init 61 = .ok (.aload_n 0, 1) := by decide +kernel
theorem dX6_init_62 : decode cX6_init 62 = .ok (.new 22, 3) := by decide +kernel
theorem dX6_init_65 : decode cX6_init 65 = .ok (.dup, 1) := by decide +kernel
theorem dX6_init_66 : decode cX6_init 66 = .ok (.sipush 256, 3) := by decide +kernel
theorem dX6_init_69 : decode cX6_init 69 = .ok (.invokespecial 24, 3) := by decide +kernel
theorem dX6_init_72 : decode cX6_init 72 = .ok (.putfield 31, 3) := by decide +kernel
theorem dX6_init_75 : decode cX6_init 75 = .ok (.aload_n 0, 1) := by decide +kernel
theorem dX6_init_76 : decode cX6_init 76 = .ok (.new 22, 3) := by decide +kernel
theorem dX6_init_79 : decode cX6_init 79 = .ok (.dup, 1) := by decide +kernel
theorem dX6_init_80 : decode cX6_init 80 = .ok (.sipush 256, 3) := by decide +kernel
theorem dX6_init_83 : decode cX6_init 83 = .ok (.invokespecial 24, 3) := by decide +kernel
theorem dX6_init_86 : decode cX6_init 86 = .ok (.putfield 34, 3) := by decide +kernel
theorem dX6_init_89 : decode cX6_init 89 = .ok (.aload_n 0, 1) := by decide +kernel
theorem dX6_init_90 : decode cX6_init 90 = .ok (.new 22, 3) := by decide +kernel
theorem dX6_init_93 : decode cX6_init 93 = .ok (.dup, 1) := by decide +kernel
theorem dX6_init_94 : decode cX6_init 94 = .ok (.sipush 256, 3) := by decide +kernel
theorem dX6_init_97 : decode cX6_init 97 = .ok (.invokespecial 24, 3) := by decide +kernel
theorem dX6_init_100 : decode cX6_init 100 = .ok (.putfield 37, 3) := by decide +kernel
theorem dX6_init_103 : decode cX6_init 103 = .ok (.aload_n 0, 1) := by decide +kernel
theorem dX6_init_104 : decode cX6_init 104 = .ok (.iload_n 1, 1) := by decide +kernel
theorem dX6_init_105 : decode cX6_init 105 = .ok (.putfield 40, 3) := by decide +kernel
theorem dX6_init_108 : decode cX6_init 108 = .ok (.aload_n 0, 1) := by decide +kernel
theorem dX6_init_109 : decode cX6_init 109 = .ok (.aload_n 2, 1) := by decide +kernel
theorem dX6_init_110 : decode cX6_init 110 = .ok (.putfield 44, 3) := by decide +kernel
theorem dX6_init_113 : decode cX6_init 113 = .ok (.aload_n 0, 1) := by decide +kernel
theorem dX6_init_114 : decode cX6_init 114 = .ok (.aload 4, 2) := by decide +kernel
theorem dX6_init_116 : decode cX6_init 116 = .ok (.putfield 47, 3) := by decide +kernel
theorem dX6_init_119 : decode cX6_init 119 = .ok (.aload_n 0, 1) := by decide +kernel
theorem dX6_init_120 : decode cX6_init 120 = .ok (.new 51, 3) := by decide +kernel
theorem dX6_init_123 : decode cX6_init 123 = .ok (.dup, 1) := by decide +kernel
theorem dX6_init_124 : decode cX6_init 124 = .ok (.aload_n 3, 1) := by decide +kernel
theorem dX6_init_125 : decode cX6_init 125 = .ok (.invokespecial 53, 3) := by decide +kernel
theorem dX6_init_128 : decode cX6_init 128 = .ok (.putfield 56, 3) := by decide +kernel
theorem dX6_init_131 : decode cX6_init 131 = .ok (.aload_n 0, 1) := by decide +kernel
theorem dX6_init_132 : decode cX6_init 132 = .ok (.new 60, 3) := by decide +kernel
theorem dX6_init_135 : decode cX6_init 135 = .ok (.dup, 1) := by decide +kernel
theorem dX6_init_136 : decode cX6_init 136 = .ok (.aload_n 3, 1) := by decide +kernel
theorem dX6_init_137 : decode cX6_init 137 = .ok (.iload_n 1, 1) := by decide +kernel
theorem dX6_init_138 : decode cX6_init 138 = .ok (.ifCond .eq 8, 3) := by decide +kernel
theorem dX6_init_141 : decode cX6_init 141 = .ok (.ldc 62, 2) := by decide +kernel
theorem dX6_init_143 : decode cX6_init 143 = .ok (.goto 5, 3) := by decide +kernel
theorem dX6_init_146 : decode cX6_init 146 = .ok (.ldc 64, 2) := by decide +kernel
theorem dX6_init_148 : decode cX6_init 148 = .ok (.invokespecial 66, 3) := by decide +kernel
theorem dX6_init_151 : decode cX6_init 151 = .ok (.putfield 69, 3) := by decide +kernel
theorem dX6_init_154 : decode cX6_init 154 = .ok (.aload_n 0, 1) := by decide +kernel
theorem dX6_init_155 : decode cX6_init 155 = .ok (.new 73, 3) := by decide +kernel
theorem dX6_init_158 : decode cX6_init 158 = .ok (.dup, 1) := by decide +kernel
theorem dX6_init_159 : decode cX6_init 159 = .ok (.aload_n 3, 1) := by decide +kernel
theorem dX6_init_160 : decode cX6_init 160 = .ok (.invokespecial 75, 3) := by decide +kernel
theorem dX6_init_163 : decode cX6_init 163 = .ok (.putfield 76, 3) := by decide +kernel
theorem dX6_init_166 : decode cX6_init 166 = .ok (.aload_n 0, 1) := by decide +kernel
theorem dX6_init_167 : decode cX6_init 167 = .ok (.new 73, 3) := by decide +kernel
theorem dX6_init_170 : decode cX6_init 170 = .ok (.dup, 1) := by decide +kernel
theorem dX6_init_171 : decode cX6_init 171 = .ok (.aload_n 3, 1) := by decide +kernel
theorem dX6_init_172 : decode cX6_init 172 = .ok (.invokespecial 75, 3) := by decide +kernel
theorem dX6_init_175 : decode cX6_init 175 = .ok (.putfield 80, 3) := by decide +kernel
theorem dX6_init_178 : decode cX6_init 178 = .ok (.iconst 0, 1) := by decide +kernel
theorem dX6_init_179 : decode cX6_init 179 = .ok (.istore 5, 2) := by decide +kernel
theorem dX6_init_181 : decode cX6_init 181 = .ok (.iload 5, 2) := by decide +kernel
theorem dX6_init_183 : decode cX6_init 183 = .ok (.bipush 16, 2) := by decide +kernel
theorem dX6_init_185 : decode cX6_init 185 = .ok (.if_icmp .ge 23, 3) := by decide +kernel
theorem dX6_init_188 : decode cX6_init 188 = .ok (.aload_n 0, 1) := by decide +kernel
theorem dX6_init_189 : decode cX6_init 189 = .ok (.getfield 18, 3) := by decide +kernel
theorem dX6_init_192 : decode cX6_init 192 = .ok (.iload 5, 2) := by decide +kernel
theorem dX6_init_194 : decode cX6_init 194 = .ok (.new 16, 3) := by decide +kernel
theorem dX6_init_197 : decode cX6_init 197 = .ok (.dup, 1) := by decide +kernel
theorem dX6_init_198 : decode cX6_init 198 = .ok (.invokespecial 83, 3) := by decide +kernel
theorem dX6_init_201 : decode cX6_init 201 = .ok (.aastore, 1) := by decide +kernel
theorem dX6_init_202 : decode cX6_init 202 = .ok (.iinc 5 1, 3) := by decide +kernel
theorem dX6_init_205 : decode cX6_init 205 = .ok (.goto (-24), 3) := by decide +kernel
theorem dX6_init_208 : decode cX6_init 208 = .ok (.return_, 1) := by decide +kernel
theorem dX6_tells_0 : decode cX6_tells 0 = .ok (.iload_n 1, 1) := by decide +kernel
theorem dX6_tells_1 : decode cX6_tells 1 = .ok (.tableswitch 132 0 10 #[59, 64, 69, 77, 85, 132, 93, 101, 109, 122, 127], 59) := by decide +kernel
theorem dX6_tells_60 : decode cX6_tells 60 = .ok (.aload_n 0, 1) := by decide +kernel
theorem dX6_tells_61 : decode cX6_tells 61 = .ok (.getfield 84, 3) := by decide +kernel
theorem dX6_tells_64 : decode cX6_tells 64 = .ok (.ireturn, 1) := by decide +kernel
theorem dX6_tells_65 : decode cX6_tells 65 = .ok (.aload_n 0, 1) := by decide +kernel
theorem dX6_tells_66 : decode cX6_tells 66 = .ok (.getfield 97, 3) := by decide +kernel
theorem dX6_tells_69 : decode cX6_tells 69 = .ok (.ireturn, 1) := by decide +kernel
theorem dX6_tells_70 : decode cX6_tells 70 = .ok (.aload_n 0, 1) := by decide +kernel
theorem dX6_tells_71 : decode cX6_tells 71 = .ok (.getfield 76, 3) := by decide +kernel
theorem dX6_tells_74 : decode cX6_tells 74 = .ok (.getfield 135, 3) := by decide +kernel
theorem dX6_tells_77 : decode cX6_tells 77 = .ok (.ireturn, 1) := by decide +kernel
theorem dX6_tells_78 : decode cX6_tells 78 = .ok (.aload_n 0, 1) := by decide +kernel
theorem dX6_tells_79 : decode cX6_tells 79 = .ok (.getfield 80, 3) := by decide +kernel
theorem dX6_tells_82 : decode cX6_tells 82 = .ok (.getfield 135, 3) := by decide +kernel
theorem dX6_tells_85 : decode cX6_tells 85 = .ok (.ireturn, 1) := by decide +kernel
theorem dX6_tells_86 : decode cX6_tells 86 = .ok (.aload_n 0, 1) := by decide +kernel
theorem dX6_tells_87 : decode cX6_tells 87 = .ok (.getfield 69, 3) := by decide +kernel
theorem dX6_tells_90 : decode cX6_tells 90 = .ok (.getfield 138, 3) := by decide +kernel
theorem dX6_tells_93 : decode cX6_tells 93 = .ok (.ireturn, 1) := by decide +kernel
theorem dX6_tells_94 : decode cX6_tells 94 = .ok (.aload_n 0, 1) := by decide +kernel
theorem dX6_tells_95 : decode cX6_tells 95 = .ok (.getfield 76, 3) := by decide +kernel
theorem dX6_tells_98 : decode cX6_tells 98 = .ok (.getfield 141, 3) := by decide +kernel
theorem dX6_tells_101 : decode cX6_tells 101 = .ok (.ireturn, 1) := by decide +kernel
theorem dX6_tells_102 : decode cX6_tells 102 = .ok (.aload_n 0, 1) := by decide +kernel
theorem dX6_tells_103 : decode cX6_tells 103 = .ok (.getfield 76, 3) := by decide +kernel
theorem dX6_tells_106 : decode cX6_tells 106 = .ok (.getfield 144, 3) := by decide +kernel
theorem dX6_tells_109 : decode cX6_tells 109 = .ok (.ireturn, 1) := by decide +kernel
theorem dX6_tells_110 : decode cX6_tells 110 = .ok (.aload_n 0, 1) := by decide +kernel
theorem dX6_tells_111 : decode cX6_tells 111 = .ok (.getfield 100, 3) := by decide +kernel
theorem dX6_tells_114 : decode cX6_tells 114 = .ok (.ifCond .eq 7, 3) := by decide +kernel
theorem dX6_tells_117 : decode cX6_tells 117 = .ok (.iconst 1, 1) := by decide +kernel
theorem dX6_tells_118 : decode cX6_tells 118 = .ok (.goto 4, 3) := by decide +kernel
theorem dX6_tells_121 : decode cX6_tells 121 = .ok (.iconst 0, 1) := by decide +kernel
theorem dX6_tells_122 : decode cX6_tells 122 = .ok (.ireturn, 1) := by decide +kernel
theorem dX6_tells_123 : decode cX6_tells 123 = .ok (.aload_n 0, 1) := by decide +kernel
theorem dX6_tells_124 : decode cX6_tells 124 = .ok (.invokevirtual 147, 3) := by decide +kernel
theorem dX6_tells_127 : decode cX6_tells 127 = .ok (.ireturn, 1) := by decide +kernel
theorem dX6_tells_128 : decode cX6_tells 128 = .ok (.aload_n 0, 1) := by decide +kernel
theorem dX6_tells_129 : decode cX6_tells 129 = .ok (.invokevirtual 151, 3) := by decide +kernel
theorem dX6_tells_132 : decode cX6_tells 132 = .ok (.ireturn, 1) := by decide +kernel
theorem dX6_tells_133 : decode cX6_tells 133 = .ok (.aload_n 0, 1) := by decide +kernel
theorem dX6_tells_134 : decode cX6_tells 134 = .ok (.getfield 69, 3) := by decide +kernel
theorem dX6_tells_137 : decode cX6_tells 137 = .ok (.invokevirtual 154, 3) := by decide +kernel
theorem dX6_tells_140 : decode cX6_tells 140 = .ok (.ireturn, 1) := by decide +kernel
theorem dX6_channelsInUse_0 : decode cX6_channelsInUse 0 = .ok (.iconst 0, 1) := by decide +kernel
theorem dX6_channelsInUse_1 : decode cX6_channelsInUse 1 = .ok (.istore_n 1, 1) := by decide +kernel
theorem dX6_channelsInUse_2 : decode cX6_channelsInUse 2 = .ok (.iconst 0, 1) := by decide +kernel
theorem dX6_channelsInUse_3 : decode cX6_channelsInUse 3 = .ok (.istore_n 2, 1) := by decide +kernel
theorem dX6_channelsInUse_4 : decode cX6_channelsInUse 4 = .ok (.iload_n 2, 1) := by decide +kernel
theorem dX6_channelsInUse_5 : decode cX6_channelsInUse 5 = .ok (.bipush 16, 2) := by decide +kernel
theorem dX6_channelsInUse_7 : decode cX6_channelsInUse 7 = .ok (.if_icmp .ge 24, 3) := by decide +kernel
theorem dX6_channelsInUse_10 : decode cX6_channelsInUse 10 = .ok (.aload_n 0, 1) := by decide +kernel
theorem dX6_channelsInUse_11 : decode cX6_channelsInUse 11 = .ok (.getfield 18, 3) := by decide +kernel
theorem dX6_channelsInUse_14 : decode cX6_channelsInUse 14 = .ok (.iload_n 2, 1) := by decide +kernel
theorem dX6_channelsInUse_15 : decode cX6_channelsInUse 15 = .ok (.aaload, 1) := by decide +kernel
theorem dX6_channelsInUse_16 : decode cX6_channelsInUse 16 = .ok (.invokevirtual 157, 3) := by decide +kernel
theorem dX6_channelsInUse_19 : decode cX6_channelsInUse 19 = .ok (.ifCond .eq 6, 3) := by decide +kernel
theorem dX6_channelsInUse_22 : decode cX6_channelsInUse 22 = .ok (.iinc 1 1, 3) := by decide +kernel
theorem dX6_channelsInUse_25 : decode cX6_channelsInUse 25 = .ok (.iinc 2 1, 3) := by decide +kernel
theorem dX6_channelsInUse_28 : decode cX6_channelsInUse 28 = .ok (.goto (-24), 3) := by decide +kernel
theorem dX6_channelsInUse_31 : decode cX6_channelsInUse 31 = .ok (.iload_n 1, 1) := by decide +kernel
theorem dX6_channelsInUse_32 : decode cX6_channelsInUse 32 = .ok (.ireturn, 1) := by decide +kernel
theorem dX6_freeNumber_0 : decode cX6_freeNumber 0 = .ok (.iconst 0, 1) := by decide +kernel
theorem dX6_freeNumber_1 : decode cX6_freeNumber 1 = .ok (.istore_n 1, 1) := by decide +kernel
theorem dX6_freeNumber_2 : decode cX6_freeNumber 2 = .ok (.iload_n 1, 1) := by decide +kernel
theorem dX6_freeNumber_3 : decode cX6_freeNumber 3 = .ok (.bipush 16, 2) := by decide +kernel
theorem dX6_freeNumber_5 : decode cX6_freeNumber 5 = .ok (.if_icmp .ge 23, 3) := by decide +kernel
theorem dX6_freeNumber_8 : decode cX6_freeNumber 8 = .ok (.aload_n 0, 1) := by decide +kernel
theorem dX6_freeNumber_9 : decode cX6_freeNumber 9 = .ok (.getfield 18, 3) := by decide +kernel
theorem dX6_freeNumber_12 : decode cX6_freeNumber 12 = .ok (.iload_n 1, 1) := by decide +kernel
theorem dX6_freeNumber_13 : decode cX6_freeNumber 13 = .ok (.aaload, 1) := by decide +kernel
theorem dX6_freeNumber_14 : decode cX6_freeNumber 14 = .ok (.invokevirtual 157, 3) := by decide +kernel
theorem dX6_freeNumber_17 : decode cX6_freeNumber 17 = .ok (.ifCond .ne 5, 3) := by decide +kernel
theorem dX6_freeNumber_20 : decode cX6_freeNumber 20 = .ok (.iload_n 1, 1) := by decide +kernel
theorem dX6_freeNumber_21 : decode cX6_freeNumber 21 = .ok (.ireturn, 1) := by decide +kernel
theorem dX6_freeNumber_22 : decode cX6_freeNumber 22 = .ok (.iinc 1 1, 3) := by decide +kernel
theorem dX6_freeNumber_25 : decode cX6_freeNumber 25 = .ok (.goto (-23), 3) := by decide +kernel
theorem dX6_freeNumber_28 : decode cX6_freeNumber 28 = .ok (.iconst (-1), 1) := by decide +kernel
theorem dX6_freeNumber_29 : decode cX6_freeNumber 29 = .ok (.ireturn, 1) := by decide +kernel
theorem dX7_init_0 : decode cX7_init 0 = .ok (.aload_n 0, 1) := by decide +kernel
theorem dX7_init_1 : decode cX7_init 1 = .ok (.invokespecial 3, 3) := by decide +kernel
theorem dX7_init_4 : decode cX7_init 4 = .ok (.aload_n 0, 1) := by decide +kernel
theorem dX7_init_5 : decode cX7_init 5 = .ok (.new 9, 3) := by decide +kernel
theorem dX7_init_8 : decode cX7_init 8 = .ok (.dup, 1) := by decide +kernel
theorem dX7_init_9 : decode cX7_init 9 = .ok (.sipush 256, 3) := by decide +kernel
theorem dX7_init_12 : decode cX7_init 12 = .ok (.invokespecial 11, 3) := by decide +kernel
theorem dX7_init_15 : decode cX7_init 15 = .ok (.putfield 14, 3) := by decide +kernel
theorem dX7_init_18 : decode cX7_init 18 = .ok (.aload_n 0, 1) := by decide +kernel
theorem dX7_init_19 : decode cX7_init 19 = .ok (.new 9, 3) := by decide +kernel
theorem dX7_init_22 : decode cX7_init 22 = .ok (.dup, 1) := by decide +kernel
theorem dX7_init_23 : decode cX7_init 23 = .ok (.sipush 300, 3) := by decide +kernel
theorem dX7_init_26 : decode cX7_init 26 = .ok (.invokespecial 11, 3) := by decide +kernel
theorem dX7_init_29 : decode cX7_init 29 = .ok (.putfield 20, 3) := by decide +kernel
theorem dX7_init_32 : decode cX7_init 32 = .ok (.aload_n 0, 1) := by decide +kernel
theorem dX7_init_33 : decode cX7_init 33 = .ok (.new 9, 3) := by decide +kernel
theorem dX7_init_36 : decode cX7_init 36 = .ok (.dup, 1) := by decide +kernel
theorem dX7_init_37 : decode cX7_init 37 = .ok (.sipush 300, 3) := by decide +kernel
theorem dX7_init_40 : decode cX7_init 40 = .ok (.invokespecial 11, 3) := by decide +kernel
theorem dX7_init_43 : decode cX7_init 43 = .ok (.putfield 23, 3) := by decide +kernel
theorem dX7_init_46 : decode cX7_init 46 = .ok (.aload_n 0, 1) := by decide +kernel
theorem dX7_init_47 : decode cX7_init 47 = .ok (.new 9, 3) := by decide +kernel
theorem dX7_init_50 : decode cX7_init 50 = .ok (.dup, 1) := by decide +kernel
theorem dX7_init_51 : decode cX7_init 51 = .ok (.bipush 32, 2) := by decide +kernel
theorem dX7_init_53 : decode cX7_init 53 = .ok (.invokespecial 11, 3) := by decide +kernel
theorem dX7_init_56 : decode cX7_init 56 = .ok (.putfield 26, 3) := by decide +kernel
theorem dX7_init_59 : decode cX7_init 59 = .ok (.aload_n 0, 1) := by decide +kernel
theorem dX7_init_60 : decode cX7_init 60 = .ok (.new 9, 3) := by decide +kernel
theorem dX7_init_63 : decode cX7_init 63 = .ok (.dup, 1) := by decide +kernel
theorem dX7_init_64 : decode cX7_init 64 = .ok (.bipush 32, 2) := by decide +kernel
theorem dX7_init_66 : decode cX7_init 66 = .ok (.invokespecial 11, 3) := by decide +kernel
theorem dX7_init_69 : decode cX7_init 69 = .ok (.putfield 29, 3) := by decide +kernel
theorem dX7_init_72 : decode cX7_init 72 = .ok (.aload_n 0, 1) := by decide +kernel
theorem dX7_init_73 : decode cX7_init 73 = .ok (.new 9, 3) := by decide +kernel
theorem dX7_init_76 : decode cX7_init 76 = .ok (.dup, 1) := by decide +kernel
theorem dX7_init_77 : decode cX7_init 77 = .ok (.bipush 32, 2) := by decide +kernel
theorem dX7_init_79 : decode cX7_init 79 = .ok (.invokespecial 11, 3) := by decide +kernel
theorem dX7_init_82 : decode cX7_init 82 = .ok (.putfield 32, 3) := by decide +kernel
theorem dX7_init_85 : decode cX7_init 85 = .ok (.aload_n 0, 1) := by decide +kernel
theorem dX7_init_86 : decode cX7_init 86 = .ok (.new 9, 3) := by decide +kernel
theorem dX7_init_89 : decode cX7_init 89 = .ok (.dup, 1) := by decide +kernel
theorem dX7_init_90 : decode cX7_init 90 = .ok (.bipush 64, 2) := by decide +kernel
theorem dX7_init_92 : decode cX7_init 92 = .ok (.invokespecial 11, 3) := by decide +kernel
theorem dX7_init_95 : decode cX7_init 95 = .ok (.putfield 35, 3) := by decide +kernel
theorem dX7_init_98 : decode cX7_init 98 = .ok (.aload_n 0, 1) := by decide +kernel
theorem dX7_init_99 : decode cX7_init 99 = .ok (.new 9, 3) := by decide +kernel
theorem dX7_init_102 : decode cX7_init 102 = .ok (.dup, 1) := by decide +kernel
theorem dX7_init_103 : decode cX7_init 103 = .ok (.sipush 1024, 3) := by decide +kernel
theorem dX7_init_106 : decode cX7_init 106 = .ok (.invokespecial 11, 3) := by decide +kernel
theorem dX7_init_109 : decode cX7_init 109 = .ok (.putfield 38, 3) := by decide +kernel
theorem dX7_init_112 : decode cX7_init 112 = .ok (.aload_n 0, 1) := by decide +kernel
theorem dX7_init_113 : decode cX7_init 113 = .ok (.bipush 32, 2) := by decide +kernel
theorem dX7_init_115 : decode cX7_init 115 = .ok (.newarray .byte, 2) := by decide +kernel
theorem dX7_init_117 : decode cX7_init 117 = .ok (.putfield 41, 3) := by decide +kernel
theorem dX7_init_120 : decode cX7_init 120 = .ok (.aload_n 0, 1) := by decide +kernel
theorem dX7_init_121 : decode cX7_init 121 = .ok (.bipush 32, 2) := by decide +kernel
theorem dX7_init_123 : decode cX7_init 123 = .ok (.newarray .byte, 2) := by decide +kernel
theorem dX7_init_125 : decode cX7_init 125 = .ok (.putfield 45, 3) := by decide +kernel
theorem dX7_init_128 : decode cX7_init 128 = .ok (.aload_n 0, 1) := by decide +kernel
theorem dX7_init_129 : decode cX7_init 129 = .ok (.bipush 32, 2) := by decide +kernel
theorem dX7_init_131 : decode cX7_init 131 = .ok (.newarray .byte, 2) := by decide +kernel
theorem dX7_init_133 : decode cX7_init 133 = .ok (.putfield 48, 3) := by decide +kernel
theorem dX7_init_136 : decode cX7_init 136 = .ok (.aload_n 0, 1) := by decide +kernel
theorem dX7_init_137 : decode cX7_init 137 = .ok (.bipush 32, 2) := by decide +kernel
theorem dX7_init_139 : decode cX7_init 139 = .ok (.newarray .byte, 2) := by decide +kernel
theorem dX7_init_141 : decode cX7_init 141 = .ok (.putfield 51, 3) := by decide +kernel
theorem dX7_init_144 : decode cX7_init 144 = .ok (.aload_n 0, 1) := by decide +kernel
theorem dX7_init_145 : decode cX7_init 145 = .ok (.bipush 32, 2) := by decide +kernel
theorem dX7_init_147 : decode cX7_init 147 = .ok (.newarray .byte, 2) := by decide +kernel
theorem dX7_init_149 : decode cX7_init 149 = .ok (.putfield 54, 3) := by decide +kernel
theorem dX7_init_152 : decode cX7_init 152 = .ok (.aload_n 0, 1) := by decide +kernel
theorem dX7_init_153 : decode cX7_init 153 = .ok (.iconst 4, 1) := by decide +kernel
theorem dX7_init_154 : decode cX7_init 154 = .ok (.newarray .int, 2) := by decide +kernel
theorem dX7_init_156 : decode cX7_init 156 = .ok (.putfield 57, 3) := by decide +kernel
theorem dX7_init_159 : decode cX7_init 159 = .ok (.aload_n 0, 1) := by decide +kernel
theorem dX7_init_160 : decode cX7_init 160 = .ok (.aload_n 1, 1) := by decide +kernel
theorem dX7_init_161 : decode cX7_init 161 = .ok (.putfield 61, 3) := by decide +kernel
theorem dX7_init_164 : decode cX7_init 164 = .ok (.aload_n 0, 1) := by decide +kernel
theorem dX7_init_165 : decode cX7_init 165 = .ok (.getfield 26, 3) := by decide +kernel
theorem dX7_init_168 : decode cX7_init 168 = .ok (.aload_n 2, 1) := by decide +kernel
theorem dX7_init_169 : decode cX7_init 169 = .ok (.invokevirtual 65, 3) := by decide +kernel
theorem dX7_init_172 : decode cX7_init 172 = .ok (.aload_n 0, 1) := by decide +kernel
theorem dX7_init_173 : decode cX7_init 173 = .ok (.bipush 12, 2) := by decide +kernel
theorem dX7_init_175 : decode cX7_init 175 = .ok (.bipush 21, 2) := by decide +kernel
theorem dX7_init_177 : decode cX7_init 177 = .ok (.invokevirtual 69, 3) := by decide +kernel
theorem dX7_init_180 : decode cX7_init 180 = .ok (.return_, 1) := by decide +kernel
theorem dX7_listsBy_0 : decode cX7_listsBy 0 = .ok (.iload_n 1, 1) := by decide +kernel
theorem dX7_listsBy_1 : decode cX7_listsBy 1 = .ok (.invokestatic 93, 3) := by decide +kernel
theorem dX7_listsBy_4 : decode cX7_listsBy 4 = .ok (.astore_n 3, 1) := by decide +kernel
theorem dX7_listsBy_5 : decode cX7_listsBy 5 = .ok (.iload_n 2, 1) := by decide +kernel
theorem dX7_listsBy_6 : decode cX7_listsBy 6 = .ok (.invokestatic 97, 3) := by decide +kernel
theorem dX7_listsBy_9 : decode cX7_listsBy 9 = .ok (.astore 4, 2) := by decide +kernel
theorem dX7_listsBy_11 : decode cX7_listsBy 11 = .ok (.aload_n 0, 1) := by decide +kernel
theorem dX7_listsBy_12 : decode cX7_listsBy 12 = .ok (.getfield 14, 3) := by decide +kernel
theorem dX7_listsBy_15 : decode cX7_listsBy 15 = .ok (.invokevirtual 73, 3) := by decide +kernel
theorem dX7_listsBy_18 : decode cX7_listsBy 18 = .ok (.aload_n 0, 1) := by decide +kernel
theorem dX7_listsBy_19 : decode cX7_listsBy 19 = .ok (.getfield 14, 3) := by decide +kernel
theorem dX7_listsBy_22 : decode cX7_listsBy 22 = .ok (.ldc 100, 2) := by decide +kernel
theorem dX7_listsBy_24 : decode cX7_listsBy 24 = .ok (.invokevirtual 102, 3) := by decide +kernel
theorem dX7_listsBy_27 : decode cX7_listsBy 27 = .ok (.aload_n 0, 1) := by decide +kernel
theorem dX7_listsBy_28 : decode cX7_listsBy 28 = .ok (.getfield 14, 3) := by decide +kernel
theorem dX7_listsBy_31 : decode cX7_listsBy 31 = .ok (.ldc 105, 2) := by decide +kernel
theorem dX7_listsBy_33 : decode cX7_listsBy 33 = .ok (.invokevirtual 102, 3) := by decide +kernel
theorem dX7_listsBy_36 : decode cX7_listsBy 36 = .ok (.aload_n 0, 1) := by decide +kernel
theorem dX7_listsBy_37 : decode cX7_listsBy 37 = .ok (.getfield 14, 3) := by decide +kernel
theorem dX7_listsBy_40 : decode cX7_listsBy 40 = .ok (.aload_n 3, 1) := by decide +kernel
theorem dX7_listsBy_41 : decode cX7_listsBy 41 = .ok (.invokevirtual 102, 3) := by decide +kernel
theorem dX7_listsBy_44 : decode cX7_listsBy 44 = .ok (.aload_n 0, 1) := by decide +kernel
theorem dX7_listsBy_45 : decode cX7_listsBy 45 = .ok (.getfield 14, 3) := by decide +kernel
theorem dX7_listsBy_48 : decode cX7_listsBy 48 = .ok (.aload_n 3, 1) := by decide +kernel
theorem dX7_listsBy_49 : decode cX7_listsBy 49 = .ok (.invokevirtual 102, 3) := by decide +kernel
theorem dX7_listsBy_52 : decode cX7_listsBy 52 = .ok (.aload_n 0, 1) := by decide +kernel
theorem dX7_listsBy_53 : decode cX7_listsBy 53 = .ok (.getfield 14, 3) := by decide +kernel
theorem dX7_listsBy_56 : decode cX7_listsBy 56 = .ok (.aload 4, 2) := by decide +kernel
theorem dX7_listsBy_58 : decode cX7_listsBy 58 = .ok (.invokevirtual 102, 3) := by decide +kernel
theorem dX7_listsBy_61 : decode cX7_listsBy 61 = .ok (.aload_n 0, 1) := by decide +kernel
theorem dX7_listsBy_62 : decode cX7_listsBy 62 = .ok (.getfield 14, 3) := by decide +kernel
theorem dX7_listsBy_65 : decode cX7_listsBy 65 = .ok (.aload 4, 2) := by decide +kernel
theorem dX7_listsBy_67 : decode cX7_listsBy 67 = .ok (.invokevirtual 102, 3) := by decide +kernel
theorem dX7_listsBy_70 : decode cX7_listsBy 70 = .ok (.aload_n 0, 1) := by decide +kernel
theorem dX7_listsBy_71 : decode cX7_listsBy 71 = .ok (.getfield 14, 3) := by decide +kernel
theorem dX7_listsBy_74 : decode cX7_listsBy 74 = .ok (.ldc 107, 2) := by decide +kernel
theorem dX7_listsBy_76 : decode cX7_listsBy 76 = .ok (.invokevirtual 102, 3) := by decide +kernel
theorem dX7_listsBy_79 : decode cX7_listsBy 79 = .ok (.aload_n 0, 1) := by decide +kernel
theorem dX7_listsBy_80 : decode cX7_listsBy 80 = .ok (.getfield 14, 3) := by decide +kernel
theorem dX7_listsBy_83 : decode cX7_listsBy 83 = .ok (.ldc 107, 2) := by decide +kernel
theorem dX7_listsBy_85 : decode cX7_listsBy 85 = .ok (.invokevirtual 102, 3) := by decide +kernel
theorem dX7_listsBy_88 : decode cX7_listsBy 88 = .ok (.aload_n 0, 1) := by decide +kernel
theorem dX7_listsBy_89 : decode cX7_listsBy 89 = .ok (.getfield 14, 3) := by decide +kernel
theorem dX7_listsBy_92 : decode cX7_listsBy 92 = .ok (.iconst 0, 1) := by decide +kernel
theorem dX7_listsBy_93 : decode cX7_listsBy 93 = .ok (.invokevirtual 109, 3) := by decide +kernel
theorem dX7_listsBy_96 : decode cX7_listsBy 96 = .ok (.aload_n 0, 1) := by decide +kernel
theorem dX7_listsBy_97 : decode cX7_listsBy 97 = .ok (.getfield 14, 3) := by decide +kernel
theorem dX7_listsBy_100 : decode cX7_listsBy 100 = .ok (.iconst 0, 1) := by decide +kernel
theorem dX7_listsBy_101 : decode cX7_listsBy 101 = .ok (.invokevirtual 109, 3) := by decide +kernel
theorem dX7_listsBy_104 : decode cX7_listsBy 104 = .ok (.aload_n 0, 1) := by decide +kernel
theorem dX7_listsBy_105 : decode cX7_listsBy 105 = .ok (.getfield 14, 3) := by decide +kernel
theorem dX7_listsBy_108 : decode cX7_listsBy 108 = .ok (.iconst 0, 1) := by decide +kernel
theorem dX7_listsBy_109 : decode cX7_listsBy 109 = .ok (.invokevirtual 112, 3) := by decide +kernel
theorem dX7_listsBy_112 : decode cX7_listsBy 112 = .ok (.aload_n 0, 1) := by decide +kernel
theorem dX7_listsBy_113 : decode cX7_listsBy 113 = .ok (.getfield 14, 3) := by decide +kernel
theorem dX7_listsBy_116 : decode cX7_listsBy 116 = .ok (.iconst 0, 1) := by decide +kernel
theorem dX7_listsBy_117 : decode cX7_listsBy 117 = .ok (.invokevirtual 109, 3) := by decide +kernel
theorem dX7_listsBy_120 : decode cX7_listsBy 120 = .ok (.return_, 1) := by decide +kernel
theorem dX7_cipherNames_0 : decode cX7_cipherNames 0 = .ok (.iload_n 0, 1) := by decide +kernel
theorem dX7_cipherNames_1 : decode cX7_cipherNames 1 = .ok (.lookupswitch 44 #[(1, 35), (2, 38), (12, 41)], 35) := by decide +kernel
theorem dX7_cipherNames_36 : decode cX7_cipherNames 36 = .ok (.ldc 115, 2) := by decide +kernel
theorem dX7_cipherNames_38 : decode cX7_cipherNames 38 = .ok (.areturn, 1) := by decide +kernel
theorem dX7_cipherNames_39 : decode cX7_cipherNames 39 = .ok (.ldc 117, 2) := by decide +kernel
theorem dX7_cipherNames_41 : decode cX7_cipherNames 41 = .ok (.areturn, 1) := by decide +kernel
theorem dX7_cipherNames_42 : decode cX7_cipherNames 42 = .ok (.ldc 119, 2) := by decide +kernel
theorem dX7_cipherNames_44 : decode cX7_cipherNames 44 = .ok (.areturn, 1) := by decide +kernel
theorem dX7_cipherNames_45 : decode cX7_cipherNames 45 = .ok (.ldc 121, 2) := by decide +kernel
theorem dX7_cipherNames_47 : decode cX7_cipherNames 47 = .ok (.areturn, 1) := by decide +kernel
theorem dX7_macNames_0 : decode cX7_macNames 0 = .ok (.iload_n 0, 1) := by decide +kernel
theorem dX7_macNames_1 : decode cX7_macNames 1 = .ok (.lookupswitch 44 #[(1, 35), (2, 38), (12, 41)], 35) := by decide +kernel
theorem dX7_macNames_36 : decode cX7_macNames 36 = .ok (.ldc 123, 2) := by decide +kernel
theorem dX7_macNames_38 : decode cX7_macNames 38 = .ok (.areturn, 1) := by decide +kernel
theorem dX7_macNames_39 : decode cX7_macNames 39 = .ok (.ldc 125, 2) := by decide +kernel
theorem dX7_macNames_41 : decode cX7_macNames 41 = .ok (.areturn, 1) := by decide +kernel
theorem dX7_macNames_42 : decode cX7_macNames 42 = .ok (.ldc 127, 2) := by decide +kernel
theorem dX7_macNames_44 : decode cX7_macNames 44 = .ok (.areturn, 1) := by decide +kernel
theorem dX7_macNames_45 : decode cX7_macNames 45 = .ok (.ldc 129, 2) := by decide +kernel
theorem dX7_macNames_47 : decode cX7_macNames 47 = .ok (.areturn, 1) := by decide +kernel
theorem dX7_sessionStart_0 : decode cX7_sessionStart 0 = .ok (.aload_n 0, 1) := by decide +kernel
theorem dX7_sessionStart_1 : decode cX7_sessionStart 1 = .ok (.getfield 32, 3) := by decide +kernel
theorem dX7_sessionStart_4 : decode cX7_sessionStart 4 = .ok (.iconst 0, 1) := by decide +kernel
theorem dX7_sessionStart_5 : decode cX7_sessionStart 5 = .ok (.invokevirtual 249, 3) := by decide +kernel
theorem dX7_sessionStart_8 : decode cX7_sessionStart 8 = .ok (.ireturn, 1) := by decide +kernel
theorem dX8_init_0 : decode cX8_init 0 = .ok (.aload_n 0, 1) := by decide +kernel
theorem dX8_init_1 : decode cX8_init 1 = .ok (.invokespecial 1, 3) := by decide +kernel
theorem dX8_init_4 : decode cX8_init 4 = .ok (.aload_n 0, 1) := by decide +kernel
theorem dX8_init_5 : decode cX8_init 5 = .ok (.bipush 32, 2) := by decide +kernel
theorem dX8_init_7 : decode cX8_init 7 = .ok (.newarray .byte, 2) := by decide +kernel
theorem dX8_init_9 : decode cX8_init 9 = .ok (.putfield 7, 3) := by decide +kernel
theorem dX8_init_12 : decode cX8_init 12 = .ok (.aload_n 0, 1) := by decide +kernel
theorem dX8_init_13 : decode cX8_init 13 = .ok (.bipush 32, 2) := by decide +kernel
theorem dX8_init_15 : decode cX8_init 15 = .ok (.newarray .byte, 2) := by decide +kernel
theorem dX8_init_17 : decode cX8_init 17 = .ok (.putfield 13, 3) := by decide +kernel
theorem dX8_init_20 : decode cX8_init 20 = .ok (.aload_n 0, 1) := by decide +kernel
theorem dX8_init_21 : decode cX8_init 21 = .ok (.bipush 32, 2) := by decide +kernel
theorem dX8_init_23 : decode cX8_init 23 = .ok (.newarray .byte, 2) := by decide +kernel
theorem dX8_init_25 : decode cX8_init 25 = .ok (.putfield 16, 3) := by decide +kernel
theorem dX8_init_28 : decode cX8_init 28 = .ok (.aload_n 0, 1) := by decide +kernel
theorem dX8_init_29 : decode cX8_init 29 = .ok (.new 19, 3) := by decide +kernel
theorem dX8_init_32 : decode cX8_init 32 = .ok (.dup, 1) := by decide +kernel
theorem dX8_init_33 : decode cX8_init 33 = .ok (.invokespecial 21, 3) := by decide +kernel
theorem dX8_init_36 : decode cX8_init 36 = .ok (.putfield 22, 3) := by decide +kernel
theorem dX8_init_39 : decode cX8_init 39 = .ok (.aload_n 0, 1) := by decide +kernel
theorem dX8_init_40 : decode cX8_init 40 = .ok (.bipush 32, 2) := by decide +kernel
theorem dX8_init_42 : decode cX8_init 42 = .ok (.newarray .byte, 2) := by decide +kernel
theorem dX8_init_44 : decode cX8_init 44 = .ok (.putfield 26, 3) := by decide +kernel
theorem dX8_init_47 : decode cX8_init 47 = .ok (.aload_n 0, 1) := by decide +kernel
theorem dX8_init_48 : decode cX8_init 48 = .ok (.bipush 68, 2) := by decide +kernel
theorem dX8_init_50 : decode cX8_init 50 = .ok (.newarray .byte, 2) := by decide +kernel
theorem dX8_init_52 : decode cX8_init 52 = .ok (.putfield 29, 3) := by decide +kernel
theorem dX8_init_55 : decode cX8_init 55 = .ok (.aload_n 0, 1) := by decide +kernel
theorem dX8_init_56 : decode cX8_init 56 = .ok (.bipush 64, 2) := by decide +kernel
theorem dX8_init_58 : decode cX8_init 58 = .ok (.newarray .byte, 2) := by decide +kernel
theorem dX8_init_60 : decode cX8_init 60 = .ok (.putfield 32, 3) := by decide +kernel
theorem dX8_init_63 : decode cX8_init 63 = .ok (.aload_n 0, 1) := by decide +kernel
theorem dX8_init_64 : decode cX8_init 64 = .ok (.bipush 32, 2) := by decide +kernel
theorem dX8_init_66 : decode cX8_init 66 = .ok (.newarray .byte, 2) := by decide +kernel
theorem dX8_init_68 : decode cX8_init 68 = .ok (.putfield 35, 3) := by decide +kernel
theorem dX8_init_71 : decode cX8_init 71 = .ok (.aload_n 0, 1) := by decide +kernel
theorem dX8_init_72 : decode cX8_init 72 = .ok (.aload_n 1, 1) := by decide +kernel
theorem dX8_init_73 : decode cX8_init 73 = .ok (.putfield 38, 3) := by decide +kernel
theorem dX8_init_76 : decode cX8_init 76 = .ok (.return_, 1) := by decide +kernel
theorem dX9_init_0 : decode cX9_init 0 = .ok (.aload_n 0, 1) := by decide +kernel
theorem dX9_init_1 : decode cX9_init 1 = .ok (.iconst 0, 1) := by decide +kernel
theorem dX9_init_2 : decode cX9_init 2 = .ok (.aload_n 1, 1) := by decide +kernel
theorem dX9_init_3 : decode cX9_init 3 = .ok (.aload_n 2, 1) := by decide +kernel
theorem dX9_init_4 : decode cX9_init 4 = .ok (.aload_n 3, 1) := by decide +kernel
theorem dX9_init_5 : decode cX9_init 5 = .ok (.invokespecial 3, 3) := by decide +kernel
theorem dX9_init_8 : decode cX9_init 8 = .ok (.aload_n 0, 1) := by decide +kernel
theorem dX9_init_9 : decode cX9_init 9 = .ok (.bipush 8, 2) := by decide +kernel
theorem dX9_init_11 : decode cX9_init 11 = .ok (.anewarray 11, 3) := by decide +kernel
theorem dX9_init_14 : decode cX9_init 14 = .ok (.putfield 13, 3) := by decide +kernel
theorem dX9_init_17 : decode cX9_init 17 = .ok (.aload_n 0, 1) := by decide +kernel
theorem dX9_init_18 : decode cX9_init 18 = .ok (.new 17, 3) := by decide +kernel
theorem dX9_init_21 : decode cX9_init 21 = .ok (.dup, 1) := by decide +kernel
theorem dX9_init_22 : decode cX9_init 22 = .ok (.invokespecial 19, 3) := by decide +kernel
theorem dX9_init_25 : decode cX9_init 25 = .ok (.putfield 22, 3) := by decide +kernel
theorem dX9_init_28 : decode cX9_init 28 = .ok (.aload_n 0, 1) := by decide +kernel
theorem dX9_init_29 : decode cX9_init 29 = .ok (.bipush 32, 2) := by decide +kernel
theorem dX9_init_31 : decode cX9_init 31 = .ok (.newarray .byte, 2) := by decide +kernel
theorem dX9_init_33 : decode cX9_init 33 = .ok (.putfield 26, 3) := by decide +kernel
theorem dX9_init_36 : decode cX9_init 36 = .ok (.aload_n 0, 1) := by decide +kernel
theorem dX9_init_37 : decode cX9_init 37 = .ok (.bipush 32, 2) := by decide +kernel
theorem dX9_init_39 : decode cX9_init 39 = .ok (.newarray .byte, 2) := by decide +kernel
theorem dX9_init_41 : decode cX9_init 41 = .ok (.putfield 30, 3) := by decide +kernel
theorem dX9_init_44 : decode cX9_init 44 = .ok (.aload_n 0, 1) := by decide +kernel
theorem dX9_init_45 : decode cX9_init 45 = .ok (.new 11, 3) := by decide +kernel
theorem dX9_init_48 : decode cX9_init 48 = .ok (.dup, 1) := by decide +kernel
theorem dX9_init_49 : decode cX9_init 49 = .ok (.bipush 64, 2) := by decide +kernel
theorem dX9_init_51 : decode cX9_init 51 = .ok (.invokespecial 33, 3) := by decide +kernel
theorem dX9_init_54 : decode cX9_init 54 = .ok (.putfield 36, 3) := by decide +kernel
theorem dX9_init_57 : decode cX9_init 57 = .ok (.aload_n 0, 1) := by decide +kernel
theorem dX9_init_58 : decode cX9_init 58 = .ok (.bipush 8, 2) := by decide +kernel
theorem dX9_init_60 : decode cX9_init 60 = .ok (.anewarray 11, 3) := by decide +kernel
theorem dX9_init_63 : decode cX9_init 63 = .ok (.putfield 40, 3) := by decide +kernel
theorem dX9_init_66 : decode cX9_init 66 = .ok (.aload_n 0, 1) := by decide +kernel
theorem dX9_init_67 : decode cX9_init 67 = .ok (.bipush 8, 2) := by decide +kernel
theorem dX9_init_69 : decode cX9_init 69 = .ok (.anewarray 11, 3) := by decide +kernel
theorem dX9_init_72 : decode cX9_init 72 = .ok (.putfield 43, 3) := by decide +kernel
theorem dX9_init_75 : decode cX9_init 75 = .ok (.aload_n 0, 1) := by decide +kernel
theorem dX9_init_76 : decode cX9_init 76 = .ok (.sipush 2048, 3) := by decide +kernel
theorem dX9_init_79 : decode cX9_init 79 = .ok (.newarray .int, 2) := by decide +kernel
theorem dX9_init_81 : decode cX9_init 81 = .ok (.putfield 46, 3) := by decide +kernel
theorem dX9_init_84 : decode cX9_init 84 = .ok (.aload_n 0, 1) := by decide +kernel
theorem dX9_init_85 : decode cX9_init 85 = .ok (.new 11, 3) := by decide +kernel
theorem dX9_init_88 : decode cX9_init 88 = .ok (.dup, 1) := by decide +kernel
theorem dX9_init_89 : decode cX9_init 89 = .ok (.sipush 256, 3) := by decide +kernel
theorem dX9_init_92 : decode cX9_init 92 = .ok (.invokespecial 33, 3) := by decide +kernel
theorem dX9_init_95 : decode cX9_init 95 = .ok (.putfield 50, 3) := by decide +kernel
theorem dX9_init_98 : decode cX9_init 98 = .ok (.aload_n 0, 1) := by decide +kernel
theorem dX9_init_99 : decode cX9_init 99 = .ok (.bipush 32, 2) := by decide +kernel
theorem dX9_init_101 : decode cX9_init 101 = .ok (.newarray .byte, 2) := by decide +kernel
theorem dX9_init_103 : decode cX9_init 103 = .ok (.putfield 53, 3) := by decide +kernel
theorem dX9_init_106 : decode cX9_init 106 = .ok (.aload_n 0, 1) := by decide +kernel
theorem dX9_init_107 : decode cX9_init 107 = .ok (.bipush 64, 2) := by decide +kernel
theorem dX9_init_109 : decode cX9_init 109 = .ok (.newarray .byte, 2) := by decide +kernel
theorem dX9_init_111 : decode cX9_init 111 = .ok (.putfield 56, 3) := by decide +kernel
theorem dX9_init_114 : decode cX9_init 114 = .ok (.aload_n 0, 1) := by decide +kernel
theorem dX9_init_115 : decode cX9_init 115 = .ok (.bipush 32, 2) := by decide +kernel
theorem dX9_init_117 : decode cX9_init 117 = .ok (.newarray .byte, 2) := by decide +kernel
theorem dX9_init_119 : decode cX9_init 119 = .ok (.putfield 59, 3) := by decide +kernel
theorem dX9_init_122 : decode cX9_init 122 = .ok (.aload_n 0, 1) := by decide +kernel
theorem dX9_init_123 : decode cX9_init 123 = .ok (.aload_n 2, 1) := by decide +kernel
theorem dX9_init_124 : decode cX9_init 124 = .ok (.putfield 62, 3) := by decide +kernel
theorem dX9_init_127 : decode cX9_init 127 = .ok (.iconst 0, 1) := by decide +kernel
theorem dX9_init_128 : decode cX9_init 128 = .ok (.istore 4, 2) := by decide +kernel
theorem dX9_init_130 : decode cX9_init 130 = .ok (.iload 4, 2) := by decide +kernel
theorem dX9_init_132 : decode cX9_init 132 = .ok (.bipush 8, 2) := by decide +kernel
theorem dX9_init_134 : decode cX9_init 134 = .ok (.if_icmp .ge 57, 3) := by decide +kernel
theorem dX9_init_137 : decode cX9_init 137 = .ok (.aload_n 0, 1) := by decide +kernel
theorem dX9_init_138 : decode cX9_init 138 = .ok (.getfield 40, 3) := by decide +kernel
theorem dX9_init_141 : decode cX9_init 141 = .ok (.iload 4, 2) := by decide +kernel
theorem dX9_init_143 : decode cX9_init 143 = .ok (.new 11, 3) := by decide +kernel
theorem dX9_init_146 : decode cX9_init 146 = .ok (.dup, 1) := by decide +kernel
theorem dX9_init_147 : decode cX9_init 147 = .ok (.bipush 32, 2) := by decide +kernel
theorem dX9_init_149 : decode cX9_init 149 = .ok (.invokespecial 33, 3) := by decide +kernel
theorem dX9_init_152 : decode cX9_init 152 = .ok (.aastore, 1) := by decide +kernel
theorem dX9_init_153 : decode cX9_init 153 = .ok (.aload_n 0, 1) := by decide +kernel
theorem dX9_init_154 : decode cX9_init 154 = .ok (.getfield 43, 3) := by decide +kernel
theorem dX9_init_157 : decode cX9_init 157 = .ok (.iload 4, 2) := by decide +kernel
theorem dX9_init_159 : decode cX9_init 159 = .ok (.new 11, 3) := by decide +kernel
theorem dX9_init_162 : decode cX9_init 162 = .ok (.dup, 1) := by decide +kernel
theorem dX9_init_163 : decode cX9_init 163 = .ok (.bipush 64, 2) := by decide +kernel
theorem dX9_init_165 : decode cX9_init 165 = .ok (.invokespecial 33, 3) := by decide +kernel
theorem dX9_init_168 : decode cX9_init 168 = .ok (.aastore, 1) := by decide +kernel
theorem dX9_init_169 : decode cX9_init 169 = .ok (.aload_n 0, 1) := by decide +kernel
theorem dX9_init_170 : decode cX9_init 170 = .ok (.getfield 13, 3) := by decide +kernel
theorem dX9_init_173 : decode cX9_init 173 = .ok (.iload 4, 2) := by decide +kernel
theorem dX9_init_175 : decode cX9_init 175 = .ok (.new 11, 3) := by decide +kernel
theorem dX9_init_178 : decode cX9_init 178 = .ok (.dup, 1) := by decide +kernel
theorem dX9_init_179 : decode cX9_init 179 = .ok (.bipush 32, 2) := by decide +kernel
theorem dX9_init_181 : decode cX9_init 181 = .ok (.invokespecial 33, 3) := by decide +kernel
theorem dX9_init_184 : decode cX9_init 184 = .ok (.aastore, 1) := by decide +kernel
theorem dX9_init_185 : decode cX9_init 185 = .ok (.iinc 4 1, 3) := by decide +kernel
theorem dX9_init_188 : decode cX9_init 188 = .ok (.goto (-58), 3) := by decide +kernel
theorem dX9_init_191 : decode cX9_init 191 = .ok (.return_, 1) := by decide +kernel
theorem dX9_hasHostKey_0 : decode cX9_hasHostKey 0 = .ok (.aload_n 0, 1) := by decide +kernel
theorem dX9_hasHostKey_1 : decode cX9_hasHostKey 1 = .ok (.getfield 36, 3) := by decide +kernel
theorem dX9_hasHostKey_4 : decode cX9_hasHostKey 4 = .ok (.getfield 92, 3) := by decide +kernel
theorem dX9_hasHostKey_7 : decode cX9_hasHostKey 7 = .ok (.ifCond .le 7, 3) := by decide +kernel
theorem dX9_hasHostKey_10 : decode cX9_hasHostKey 10 = .ok (.iconst 1, 1) := by decide +kernel
theorem dX9_hasHostKey_11 : decode cX9_hasHostKey 11 = .ok (.goto 4, 3) := by decide +kernel
theorem dX9_hasHostKey_14 : decode cX9_hasHostKey 14 = .ok (.iconst 0, 1) := by decide +kernel
theorem dX9_hasHostKey_15 : decode cX9_hasHostKey 15 = .ok (.ireturn, 1) := by decide +kernel
theorem dX9_accountOf_0 : decode cX9_accountOf 0 = .ok (.iconst 0, 1) := by decide +kernel
theorem dX9_accountOf_1 : decode cX9_accountOf 1 = .ok (.istore 4, 2) := by decide +kernel
theorem dX9_accountOf_3 : decode cX9_accountOf 3 = .ok (.iload 4, 2) := by decide +kernel
theorem dX9_accountOf_5 : decode cX9_accountOf 5 = .ok (.aload_n 0, 1) := by decide +kernel
theorem dX9_accountOf_6 : decode cX9_accountOf 6 = .ok (.getfield 96, 3) := by decide +kernel
theorem dX9_accountOf_9 : decode cX9_accountOf 9 = .ok (.if_icmp .ge 39, 3) := by decide +kernel
theorem dX9_accountOf_12 : decode cX9_accountOf 12 = .ok (.aload_n 1, 1) := by decide +kernel
theorem dX9_accountOf_13 : decode cX9_accountOf 13 = .ok (.iload_n 2, 1) := by decide +kernel
theorem dX9_accountOf_14 : decode cX9_accountOf 14 = .ok (.iload_n 3, 1) := by decide +kernel
theorem dX9_accountOf_15 : decode cX9_accountOf 15 = .ok (.aload_n 0, 1) := by decide +kernel
theorem dX9_accountOf_16 : decode cX9_accountOf 16 = .ok (.getfield 40, 3) := by decide +kernel
theorem dX9_accountOf_19 : decode cX9_accountOf 19 = .ok (.iload 4, 2) := by decide +kernel
theorem dX9_accountOf_21 : decode cX9_accountOf 21 = .ok (.aaload, 1) := by decide +kernel
theorem dX9_accountOf_22 : decode cX9_accountOf 22 = .ok (.iconst 0, 1) := by decide +kernel
theorem dX9_accountOf_23 : decode cX9_accountOf 23 = .ok (.aload_n 0, 1) := by decide +kernel
theorem dX9_accountOf_24 : decode cX9_accountOf 24 = .ok (.getfield 40, 3) := by decide +kernel
theorem dX9_accountOf_27 : decode cX9_accountOf 27 = .ok (.iload 4, 2) := by decide +kernel
theorem dX9_accountOf_29 : decode cX9_accountOf 29 = .ok (.aaload, 1) := by decide +kernel
theorem dX9_accountOf_30 : decode cX9_accountOf 30 = .ok (.getfield 92, 3) := by decide +kernel
theorem dX9_accountOf_33 : decode cX9_accountOf 33 = .ok (.invokevirtual 99, 3) := by decide +kernel
theorem dX9_accountOf_36 : decode cX9_accountOf 36 = .ok (.ifCond .eq 6, 3) := by decide +kernel
theorem dX9_accountOf_39 : decode cX9_accountOf 39 = .ok (.iload 4, 2) := by decide +kernel
theorem dX9_accountOf_41 : decode cX9_accountOf 41 = .ok (.ireturn, 1) := by decide +kernel
theorem dX9_accountOf_42 : decode cX9_accountOf 42 = .ok (.iinc 4 1, 3) := by decide +kernel
theorem dX9_accountOf_45 : decode cX9_accountOf 45 = .ok (.goto (-42), 3) := by decide +kernel
theorem dX9_accountOf_48 : decode cX9_accountOf 48 = .ok (.iconst (-1), 1) := by decide +kernel
theorem dX9_accountOf_49 : decode cX9_accountOf 49 = .ok (.ireturn, 1) := by decide +kernel
theorem dX9_isPort_0 : decode cX9_isPort 0 = .ok (.iload_n 0, 1) := by decide +kernel
theorem dX9_isPort_1 : decode cX9_isPort 1 = .ok (.iconst 1, 1) := by decide +kernel
theorem dX9_isPort_2 : decode cX9_isPort 2 = .ok (.if_icmp .lt 13, 3) := by decide +kernel
theorem dX9_isPort_5 : decode cX9_isPort 5 = .ok (.iload_n 0, 1) := by decide +kernel
theorem dX9_isPort_6 : decode cX9_isPort 6 = .ok (.ldc 107, 2) := by decide +kernel
theorem dX9_isPort_8 : decode cX9_isPort 8 = .ok (.if_icmp .gt 7, 3) := by decide +kernel
theorem dX9_isPort_11 : decode cX9_isPort 11 = .ok (.iconst 1, 1) := by decide +kernel
theorem dX9_isPort_12 : decode cX9_isPort 12 = .ok (.goto 4, 3) := by decide +kernel
theorem dX9_isPort_15 : decode cX9_isPort 15 = .ok (.iconst 0, 1) := by decide +kernel
theorem dX9_isPort_16 : decode cX9_isPort 16 = .ok (.ireturn, 1) := by decide +kernel
theorem dX9_opensPort_0 : decode cX9_opensPort 0 = .ok (.iconst 1, 1) := by decide +kernel
theorem dX9_opensPort_1 : decode cX9_opensPort 1 = .ok (.iload_n 1, 1) := by decide +kernel
theorem dX9_opensPort_2 : decode cX9_opensPort 2 = .ok (.bipush 31, 2) := by decide +kernel
theorem dX9_opensPort_4 : decode cX9_opensPort 4 = .ok (.iand, 1) := by decide +kernel
theorem dX9_opensPort_5 : decode cX9_opensPort 5 = .ok (.ishl, 1) := by decide +kernel
theorem dX9_opensPort_6 : decode cX9_opensPort 6 = .ok (.istore_n 3, 1) := by decide +kernel
theorem dX9_opensPort_7 : decode cX9_opensPort 7 = .ok (.aload_n 0, 1) := by decide +kernel
theorem dX9_opensPort_8 : decode cX9_opensPort 8 = .ok (.getfield 46, 3) := by decide +kernel
theorem dX9_opensPort_11 : decode cX9_opensPort 11 = .ok (.iload_n 1, 1) := by decide +kernel
theorem dX9_opensPort_12 : decode cX9_opensPort 12 = .ok (.iconst 5, 1) := by decide +kernel
theorem dX9_opensPort_13 : decode cX9_opensPort 13 = .ok (.ishr, 1) := by decide +kernel
theorem dX9_opensPort_14 : decode cX9_opensPort 14 = .ok (.iload_n 2, 1) := by decide +kernel
theorem dX9_opensPort_15 : decode cX9_opensPort 15 = .ok (.ifCond .eq 16, 3) := by decide +kernel
theorem dX9_opensPort_18 : decode cX9_opensPort 18 = .ok (.aload_n 0, 1) := by decide +kernel
theorem dX9_opensPort_19 : decode cX9_opensPort 19 = .ok (.getfield 46, 3) := by decide +kernel
theorem dX9_opensPort_22 : decode cX9_opensPort 22 = .ok (.iload_n 1, 1) := by decide +kernel
theorem dX9_opensPort_23 : decode cX9_opensPort 23 = .ok (.iconst 5, 1) := by decide +kernel
theorem dX9_opensPort_24 : decode cX9_opensPort 24 = .ok (.ishr, 1) := by decide +kernel
theorem dX9_opensPort_25 : decode cX9_opensPort 25 = .ok (.iaload, 1) := by decide +kernel
theorem dX9_opensPort_26 : decode cX9_opensPort 26 = .ok (.iload_n 3, 1) := by decide +kernel
theorem dX9_opensPort_27 : decode cX9_opensPort 27 = .ok (.ior, 1) := by decide +kernel
theorem dX9_opensPort_28 : decode cX9_opensPort 28 = .ok (.goto 15, 3) := by decide +kernel
theorem dX9_opensPort_31 : decode cX9_opensPort 31 = .ok (.aload_n 0, 1) := by decide +kernel
theorem dX9_opensPort_32 : decode cX9_opensPort 32 = .ok (.getfield 46, 3) := by decide +kernel
theorem dX9_opensPort_35 : decode cX9_opensPort 35 = .ok (.iload_n 1, 1) := by decide +kernel
theorem dX9_opensPort_36 : decode cX9_opensPort 36 = .ok (.iconst 5, 1) := by decide +kernel
theorem dX9_opensPort_37 : decode cX9_opensPort 37 = .ok (.ishr, 1) := by decide +kernel
theorem dX9_opensPort_38 : decode cX9_opensPort 38 = .ok (.iaload, 1) := by decide +kernel
theorem dX9_opensPort_39 : decode cX9_opensPort 39 = .ok (.iload_n 3, 1) := by decide +kernel
theorem dX9_opensPort_40 : decode cX9_opensPort 40 = .ok (.iconst (-1), 1) := by decide +kernel
theorem dX9_opensPort_41 : decode cX9_opensPort 41 = .ok (.ixor, 1) := by decide +kernel
theorem dX9_opensPort_42 : decode cX9_opensPort 42 = .ok (.iand, 1) := by decide +kernel
theorem dX9_opensPort_43 : decode cX9_opensPort 43 = .ok (.iastore, 1) := by decide +kernel
theorem dX9_opensPort_44 : decode cX9_opensPort 44 = .ok (.return_, 1) := by decide +kernel
theorem dX9_openPorts_0 : decode cX9_openPorts 0 = .ok (.iconst 0, 1) := by decide +kernel
theorem dX9_openPorts_1 : decode cX9_openPorts 1 = .ok (.istore_n 1, 1) := by decide +kernel
theorem dX9_openPorts_2 : decode cX9_openPorts 2 = .ok (.iconst 0, 1) := by decide +kernel
theorem dX9_openPorts_3 : decode cX9_openPorts 3 = .ok (.istore_n 2, 1) := by decide +kernel
theorem dX9_openPorts_4 : decode cX9_openPorts 4 = .ok (.iload_n 2, 1) := by decide +kernel
theorem dX9_openPorts_5 : decode cX9_openPorts 5 = .ok (.aload_n 0, 1) := by decide +kernel
theorem dX9_openPorts_6 : decode cX9_openPorts 6 = .ok (.getfield 46, 3) := by decide +kernel
theorem dX9_openPorts_9 : decode cX9_openPorts 9 = .ok (.arraylength, 1) := by decide +kernel
theorem dX9_openPorts_10 : decode cX9_openPorts 10 = .ok (.if_icmp .ge 21, 3) := by decide +kernel
theorem dX9_openPorts_13 : decode cX9_openPorts 13 = .ok (.iload_n 1, 1) := by decide +kernel
theorem dX9_openPorts_14 : decode cX9_openPorts 14 = .ok (.aload_n 0, 1) := by decide +kernel
theorem dX9_openPorts_15 : decode cX9_openPorts 15 = .ok (.getfield 46, 3) := by decide +kernel
theorem dX9_openPorts_18 : decode cX9_openPorts 18 = .ok (.iload_n 2, 1) := by decide +kernel
theorem dX9_openPorts_19 : decode cX9_openPorts 19 = .ok (.iaload, 1) := by decide +kernel
theorem dX9_openPorts_20 : decode cX9_openPorts 20 = .ok (.invokestatic 108, 3) := by decide +kernel
theorem dX9_openPorts_23 : decode cX9_openPorts 23 = .ok (.iadd, 1) := by decide +kernel
theorem dX9_openPorts_24 : decode cX9_openPorts 24 = .ok (.istore_n 1, 1) := by decide +kernel
theorem dX9_openPorts_25 : decode cX9_openPorts 25 = .ok (.iinc 2 1, 3) := by decide +kernel
theorem dX9_openPorts_28 : decode cX9_openPorts 28 = .ok (.goto (-24), 3) := by decide +kernel
theorem dX9_openPorts_31 : decode cX9_openPorts 31 = .ok (.iload_n 1, 1) := by decide +kernel
theorem dX9_openPorts_32 : decode cX9_openPorts 32 = .ok (.ireturn, 1) := by decide +kernel
theorem dX9_connections_0 : decode cX9_connections 0 = .ok (.iconst 0, 1) := by decide +kernel
theorem dX9_connections_1 : decode cX9_connections 1 = .ok (.istore_n 1, 1) := by decide +kernel
theorem dX9_connections_2 : decode cX9_connections 2 = .ok (.iconst 0, 1) := by decide +kernel
theorem dX9_connections_3 : decode cX9_connections 3 = .ok (.istore_n 2, 1) := by decide +kernel
theorem dX9_connections_4 : decode cX9_connections 4 = .ok (.iload_n 2, 1) := by decide +kernel
theorem dX9_connections_5 : decode cX9_connections 5 = .ok (.bipush 16, 2) := by decide +kernel
theorem dX9_connections_7 : decode cX9_connections 7 = .ok (.if_icmp .ge 37, 3) := by decide +kernel
theorem dX9_connections_10 : decode cX9_connections 10 = .ok (.aload_n 0, 1) := by decide +kernel
theorem dX9_connections_11 : decode cX9_connections 11 = .ok (.getfield 114, 3) := by decide +kernel
theorem dX9_connections_14 : decode cX9_connections 14 = .ok (.iload_n 2, 1) := by decide +kernel
theorem dX9_connections_15 : decode cX9_connections 15 = .ok (.aaload, 1) := by decide +kernel
theorem dX9_connections_16 : decode cX9_connections 16 = .ok (.getfield 118, 3) := by decide +kernel
theorem dX9_connections_19 : decode cX9_connections 19 = .ok (.iconst 1, 1) := by decide +kernel
theorem dX9_connections_20 : decode cX9_connections 20 = .ok (.if_icmp .ne 18, 3) := by decide +kernel
theorem dX9_connections_23 : decode cX9_connections 23 = .ok (.aload_n 0, 1) := by decide +kernel
theorem dX9_connections_24 : decode cX9_connections 24 = .ok (.getfield 114, 3) := by decide +kernel
theorem dX9_connections_27 : decode cX9_connections 27 = .ok (.iload_n 2, 1) := by decide +kernel
theorem dX9_connections_28 : decode cX9_connections 28 = .ok (.aaload, 1) := by decide +kernel
theorem dX9_connections_29 : decode cX9_connections 29 = .ok (.getfield 123, 3) := by decide +kernel
theorem dX9_connections_32 : decode cX9_connections 32 = .ok (.ifCond .eq 6, 3) := by decide +kernel
theorem dX9_connections_35 : decode cX9_connections 35 = .ok (.iinc 1 1, 3) := by decide +kernel
theorem dX9_connections_38 : decode cX9_connections 38 = .ok (.iinc 2 1, 3) := by decide +kernel
theorem dX9_connections_41 : decode cX9_connections 41 = .ok (.goto (-37), 3) := by decide +kernel
theorem dX9_connections_44 : decode cX9_connections 44 = .ok (.iload_n 1, 1) := by decide +kernel
theorem dX9_connections_45 : decode cX9_connections 45 = .ok (.ireturn, 1) := by decide +kernel
theorem dX9_connectionAt_0 : decode cX9_connectionAt 0 = .ok (.iconst 0, 1) := by decide +kernel
theorem dX9_connectionAt_1 : decode cX9_connectionAt 1 = .ok (.istore_n 2, 1) := by decide +kernel
theorem dX9_connectionAt_2 : decode cX9_connectionAt 2 = .ok (.iload_n 2, 1) := by decide +kernel
theorem dX9_connectionAt_3 : decode cX9_connectionAt 3 = .ok (.bipush 16, 2) := by decide +kernel
theorem dX9_connectionAt_5 : decode cX9_connectionAt 5 = .ok (.if_icmp .ge 54, 3) := by decide +kernel
theorem dX9_connectionAt_8 : decode cX9_connectionAt 8 = .ok (.aload_n 0, 1) := by decide +kernel
theorem dX9_connectionAt_9 : decode cX9_connectionAt 9 = .ok (.getfield 114, 3) := by decide +kernel
theorem dX9_connectionAt_12 : decode cX9_connectionAt 12 = .ok (.iload_n 2, 1) := by decide +kernel
theorem dX9_connectionAt_13 : decode cX9_connectionAt 13 = .ok (.aaload, 1) := by decide +kernel
theorem dX9_connectionAt_14 : decode cX9_connectionAt 14 = .ok (.getfield 118, 3) := by decide +kernel
theorem dX9_connectionAt_17 : decode cX9_connectionAt 17 = .ok (.iconst 1, 1) := by decide +kernel
theorem dX9_connectionAt_18 : decode cX9_connectionAt 18 = .ok (.if_icmp .ne 35, 3) := by decide +kernel
theorem dX9_connectionAt_21 : decode cX9_connectionAt 21 = .ok (.aload_n 0, 1) := by decide +kernel
theorem dX9_connectionAt_22 : decode cX9_connectionAt 22 = .ok (.getfield 114, 3) := by decide +kernel
theorem dX9_connectionAt_25 : decode cX9_connectionAt 25 = .ok (.iload_n 2, 1) := by decide +kernel
theorem dX9_connectionAt_26 : decode cX9_connectionAt 26 = .ok (.aaload, 1) := by decide +kernel
theorem dX9_connectionAt_27 : decode cX9_connectionAt 27 = .ok (.getfield 123, 3) := by decide +kernel
theorem dX9_connectionAt_30 : decode cX9_connectionAt 30 = .ok (.ifCond .eq 23, 3) := by decide +kernel
theorem dX9_connectionAt_33 : decode cX9_connectionAt 33 = .ok (.aload_n 0, 1) := by decide +kernel
theorem dX9_connectionAt_34 : decode cX9_connectionAt 34 = .ok (.getfield 114, 3) := by decide +kernel
theorem dX9_connectionAt_37 : decode cX9_connectionAt 37 = .ok (.iload_n 2, 1) := by decide +kernel
theorem dX9_connectionAt_38 : decode cX9_connectionAt 38 = .ok (.aaload, 1) := by decide +kernel
theorem dX9_connectionAt_39 : decode cX9_connectionAt 39 = .ok (.getfield 123, 3) := by decide +kernel
theorem dX9_connectionAt_42 : decode cX9_connectionAt 42 = .ok (.iload_n 1, 1) := by decide +kernel
theorem dX9_connectionAt_43 : decode cX9_connectionAt 43 = .ok (.if_icmp .ne 10, 3) := by decide +kernel
theorem dX9_connectionAt_46 : decode cX9_connectionAt 46 = .ok (.aload_n 0, 1) := by decide +kernel
theorem dX9_connectionAt_47 : decode cX9_connectionAt 47 = .ok (.getfield 114, 3) := by decide +kernel
theorem dX9_connectionAt_50 : decode cX9_connectionAt 50 = .ok (.iload_n 2, 1) := by decide +kernel
theorem dX9_connectionAt_51 : decode cX9_connectionAt 51 = .ok (.aaload, 1) := by decide +kernel
theorem dX9_connectionAt_52 : decode cX9_connectionAt 52 = .ok (.areturn, 1) := by decide +kernel
theorem dX9_connectionAt_53 : decode cX9_connectionAt 53 = .ok (.iinc 2 1, 3) := by decide +kernel
theorem dX9_connectionAt_56 : decode cX9_connectionAt 56 = .ok (.goto (-54), 3) := by decide +kernel
theorem dX9_connectionAt_59 : decode cX9_connectionAt 59 = .ok (.aconst_null, 1) := by decide +kernel
theorem dX9_connectionAt_60 : decode cX9_connectionAt 60 = .ok (.areturn, 1) := by decide +kernel
theorem dX9_asked_0 : decode cX9_asked 0 = .ok (.aload_n 0, 1) := by decide +kernel
theorem dX9_asked_1 : decode cX9_asked 1 = .ok (.getfield 130, 3) := by decide +kernel
theorem dX9_asked_4 : decode cX9_asked 4 = .ok (.ireturn, 1) := by decide +kernel
theorem dX10_init_0 : decode cX10_init 0 = .ok (.aload_n 0, 1) := by decide +kernel
theorem dX10_init_1 : decode cX10_init 1 = .ok (.invokespecial 1, 3) := by decide +kernel
theorem dX10_init_4 : decode cX10_init 4 = .ok (.aload_n 0, 1) := by decide +kernel
theorem dX10_init_5 : decode cX10_init 5 = .ok (.bipush 64, 2) := by decide +kernel
theorem dX10_init_7 : decode cX10_init 7 = .ok (.newarray .int, 2) := by decide +kernel
theorem dX10_init_9 : decode cX10_init 9 = .ok (.putfield 7, 3) := by decide +kernel
theorem dX10_init_12 : decode cX10_init 12 = .ok (.aload_n 0, 1) := by decide +kernel
theorem dX10_init_13 : decode cX10_init 13 = .ok (.bipush 8, 2) := by decide +kernel
theorem dX10_init_15 : decode cX10_init 15 = .ok (.newarray .int, 2) := by decide +kernel
theorem dX10_init_17 : decode cX10_init 17 = .ok (.putfield 13, 3) := by decide +kernel
theorem dX10_init_20 : decode cX10_init 20 = .ok (.aload_n 0, 1) := by decide +kernel
theorem dX10_init_21 : decode cX10_init 21 = .ok (.bipush 80, 2) := by decide +kernel
theorem dX10_init_23 : decode cX10_init 23 = .ok (.newarray .long, 2) := by decide +kernel
theorem dX10_init_25 : decode cX10_init 25 = .ok (.putfield 16, 3) := by decide +kernel
theorem dX10_init_28 : decode cX10_init 28 = .ok (.aload_n 0, 1) := by decide +kernel
theorem dX10_init_29 : decode cX10_init 29 = .ok (.bipush 8, 2) := by decide +kernel
theorem dX10_init_31 : decode cX10_init 31 = .ok (.newarray .long, 2) := by decide +kernel
theorem dX10_init_33 : decode cX10_init 33 = .ok (.putfield 20, 3) := by decide +kernel
theorem dX10_init_36 : decode cX10_init 36 = .ok (.return_, 1) := by decide +kernel
theorem dX11_init_0 : decode cX11_init 0 = .ok (.aload_n 0, 1) := by decide +kernel
theorem dX11_init_1 : decode cX11_init 1 = .ok (.invokespecial 3, 3) := by decide +kernel
theorem dX11_init_4 : decode cX11_init 4 = .ok (.aload_n 0, 1) := by decide +kernel
theorem dX11_init_5 : decode cX11_init 5 = .ok (.bipush 64, 2) := by decide +kernel
theorem dX11_init_7 : decode cX11_init 7 = .ok (.anewarray 11, 3) := by decide +kernel
theorem dX11_init_10 : decode cX11_init 10 = .ok (.putfield 13, 3) := by decide +kernel
theorem dX11_init_13 : decode cX11_init 13 = .ok (.aload_n 0, 1) := by decide +kernel
theorem dX11_init_14 : decode cX11_init 14 = .ok (.bipush 64, 2) := by decide +kernel
theorem dX11_init_16 : decode cX11_init 16 = .ok (.anewarray 11, 3) := by decide +kernel
theorem dX11_init_19 : decode cX11_init 19 = .ok (.putfield 17, 3) := by decide +kernel
theorem dX11_init_22 : decode cX11_init 22 = .ok (.aload_n 0, 1) := by decide +kernel
theorem dX11_init_23 : decode cX11_init 23 = .ok (.new 11, 3) := by decide +kernel
theorem dX11_init_26 : decode cX11_init 26 = .ok (.dup, 1) := by decide +kernel
theorem dX11_init_27 : decode cX11_init 27 = .ok (.bipush 64, 2) := by decide +kernel
theorem dX11_init_29 : decode cX11_init 29 = .ok (.invokespecial 20, 3) := by decide +kernel
theorem dX11_init_32 : decode cX11_init 32 = .ok (.putfield 23, 3) := by decide +kernel
theorem dX11_init_35 : decode cX11_init 35 = .ok (.iconst 0, 1) := by decide +kernel
theorem dX11_init_36 : decode cX11_init 36 = .ok (.istore_n 1, 1) := by decide +kernel
theorem dX11_init_37 : decode cX11_init 37 = .ok (.iload_n 1, 1) := by decide +kernel
theorem dX11_init_38 : decode cX11_init 38 = .ok (.bipush 64, 2) := by decide +kernel
theorem dX11_init_40 : decode cX11_init 40 = .ok (.if_icmp .ge 39, 3) := by decide +kernel
theorem dX11_init_43 : decode cX11_init 43 = .ok (.aload_n 0, 1) := by decide +kernel
theorem dX11_init_44 : decode cX11_init 44 = .ok (.getfield 13, 3) := by decide +kernel
theorem dX11_init_47 : decode cX11_init 47 = .ok (.iload_n 1, 1) := by decide +kernel
theorem dX11_init_48 : decode cX11_init 48 = .ok (.new 11, 3) := by decide +kernel
theorem dX11_init_51 : decode cX11_init 51 = .ok (.dup, 1) := by decide +kernel
theorem dX11_init_52 : decode cX11_init 52 = .ok (.bipush 8, 2) := by decide +kernel
theorem dX11_init_54 : decode cX11_init 54 = .ok (.invokespecial 20, 3) := by decide +kernel
theorem dX11_init_57 : decode cX11_init 57 = .ok (.aastore, 1) := by decide +kernel
theorem dX11_init_58 : decode cX11_init 58 = .ok (.aload_n 0, 1) := by decide +kernel
theorem dX11_init_59 : decode cX11_init 59 = .ok (.getfield 17, 3) := by decide +kernel
theorem dX11_init_62 : decode cX11_init 62 = .ok (.iload_n 1, 1) := by decide +kernel
theorem dX11_init_63 : decode cX11_init 63 = .ok (.new 11, 3) := by decide +kernel
theorem dX11_init_66 : decode cX11_init 66 = .ok (.dup, 1) := by decide +kernel
theorem dX11_init_67 : decode cX11_init 67 = .ok (.bipush 8, 2) := by decide +kernel
theorem dX11_init_69 : decode cX11_init 69 = .ok (.invokespecial 20, 3) := by decide +kernel
theorem dX11_init_72 : decode cX11_init 72 = .ok (.aastore, 1) := by decide +kernel
theorem dX11_init_73 : decode cX11_init 73 = .ok (.iinc 1 1, 3) := by decide +kernel
theorem dX11_init_76 : decode cX11_init 76 = .ok (.goto (-39), 3) := by decide +kernel
theorem dX11_init_79 : decode cX11_init 79 = .ok (.return_, 1) := by decide +kernel
theorem dX11_total_0 : decode cX11_total 0 = .ok (.iconst 0, 1) := by decide +kernel
theorem dX11_total_1 : decode cX11_total 1 = .ok (.istore_n 1, 1) := by decide +kernel
theorem dX11_total_2 : decode cX11_total 2 = .ok (.iconst 0, 1) := by decide +kernel
theorem dX11_total_3 : decode cX11_total 3 = .ok (.istore_n 2, 1) := by decide +kernel
theorem dX11_total_4 : decode cX11_total 4 = .ok (.iload_n 2, 1) := by decide +kernel
theorem dX11_total_5 : decode cX11_total 5 = .ok (.aload_n 0, 1) := by decide +kernel
theorem dX11_total_6 : decode cX11_total 6 = .ok (.getfield 27, 3) := by decide +kernel
theorem dX11_total_9 : decode cX11_total 9 = .ok (.if_icmp .ge 21, 3) := by decide +kernel
theorem dX11_total_12 : decode cX11_total 12 = .ok (.iload_n 1, 1) := by decide +kernel
theorem dX11_total_13 : decode cX11_total 13 = .ok (.aload_n 0, 1) := by decide +kernel
theorem dX11_total_14 : decode cX11_total 14 = .ok (.getfield 17, 3) := by decide +kernel
theorem dX11_total_17 : decode cX11_total 17 = .ok (.iload_n 2, 1) := by decide +kernel
theorem dX11_total_18 : decode cX11_total 18 = .ok (.aaload, 1) := by decide +kernel
theorem dX11_total_19 : decode cX11_total 19 = .ok (.getfield 31, 3) := by decide +kernel
theorem dX11_total_22 : decode cX11_total 22 = .ok (.iadd, 1) := by decide +kernel
theorem dX11_total_23 : decode cX11_total 23 = .ok (.istore_n 1, 1) := by decide +kernel
theorem dX11_total_24 : decode cX11_total 24 = .ok (.iinc 2 1, 3) := by decide +kernel
theorem dX11_total_27 : decode cX11_total 27 = .ok (.goto (-23), 3) := by decide +kernel
theorem dX11_total_30 : decode cX11_total 30 = .ok (.iload_n 1, 1) := by decide +kernel
theorem dX11_total_31 : decode cX11_total 31 = .ok (.ireturn, 1) := by decide +kernel
theorem dX12_init_0 : decode cX12_init 0 = .ok (.aload_n 0, 1) := by decide +kernel
theorem dX12_init_1 : decode cX12_init 1 = .ok (.invokespecial 1, 3) := by decide +kernel
theorem dX12_init_4 : decode cX12_init 4 = .ok (.aload_n 0, 1) := by decide +kernel
theorem dX12_init_5 : decode cX12_init 5 = .ok (.new 7, 3) := by decide +kernel
theorem dX12_init_8 : decode cX12_init 8 = .ok (.dup, 1) := by decide +kernel
theorem dX12_init_9 : decode cX12_init 9 = .ok (.sipush 256, 3) := by decide +kernel
theorem dX12_init_12 : decode cX12_init 12 = .ok (.invokespecial 9, 3) := by decide +kernel
theorem dX12_init_15 : decode cX12_init 15 = .ok (.putfield 12, 3) := by decide +kernel
theorem dX12_init_18 : decode cX12_init 18 = .ok (.aload_n 0, 1) := by decide +kernel
theorem dX12_init_19 : decode cX12_init 19 = .ok (.iconst 2, 1) := by decide +kernel
theorem dX12_init_20 : decode cX12_init 20 = .ok (.anewarray 7, 3) := by decide +kernel
theorem dX12_init_23 : decode cX12_init 23 = .ok (.putfield 18, 3) := by decide +kernel
theorem dX12_init_26 : decode cX12_init 26 = .ok (.new 22, 3) := by decide +kernel
theorem dX12_init_29 : decode cX12_init 29 = .ok (.dup, 1) := by decide +kernel
theorem dX12_init_30 : decode cX12_init 30 = .ok (.invokespecial 24, 3) := by decide +kernel
theorem dX12_init_33 : decode cX12_init 33 = .ok (.astore_n 1, 1) := by decide +kernel
theorem dX12_init_34 : decode cX12_init 34 = .ok (.new 25, 3) := by decide +kernel
theorem dX12_init_37 : decode cX12_init 37 = .ok (.dup, 1) := by decide +kernel
theorem dX12_init_38 : decode cX12_init 38 = .ok (.aload_n 1, 1) := by decide +kernel
theorem dX12_init_39 : decode cX12_init 39 = .ok (.invokespecial 27, 3) := by decide +kernel
theorem dX12_init_42 : decode cX12_init 42 = .ok (.astore_n 2, 1) := by decide +kernel
theorem dX12_init_43 : decode cX12_init 43 = .ok (.aload_n 0, 1) := by decide +kernel
theorem dX12_init_44 : decode cX12_init 44 = .ok (.getfield 18, 3) := by decide +kernel
theorem dX12_init_47 : decode cX12_init 47 = .ok (.iconst 0, 1) := by decide +kernel
theorem dX12_init_48 : decode cX12_init 48 = .ok (.new 7, 3) := by decide +kernel
theorem dX12_init_51 : decode cX12_init 51 = .ok (.dup, 1) := by decide +kernel
theorem dX12_init_52 : decode cX12_init 52 = .ok (.sipush 1024, 3) := by decide +kernel
theorem dX12_init_55 : decode cX12_init 55 = .ok (.invokespecial 9, 3) := by decide +kernel
theorem dX12_init_58 : decode cX12_init 58 = .ok (.aastore, 1) := by decide +kernel
theorem dX12_init_59 : decode cX12_init 59 = .ok (.aload_n 0, 1) := by decide +kernel
theorem dX12_init_60 : decode cX12_init 60 = .ok (.getfield 18, 3) := by decide +kernel
theorem dX12_init_63 : decode cX12_init 63 = .ok (.iconst 1, 1) := by decide +kernel
theorem dX12_init_64 : decode cX12_init 64 = .ok (.new 7, 3) := by decide +kernel
theorem dX12_init_67 : decode cX12_init 67 = .ok (.dup, 1) := by decide +kernel
theorem dX12_init_68 : decode cX12_init 68 = .ok (.sipush 1024, 3) := by decide +kernel
theorem dX12_init_71 : decode cX12_init 71 = .ok (.invokespecial 9, 3) := by decide +kernel
theorem dX12_init_74 : decode cX12_init 74 = .ok (.aastore, 1) := by decide +kernel
theorem dX12_init_75 : decode cX12_init 75 = .ok (.aload_n 0, 1) := by decide +kernel
theorem dX12_init_76 : decode cX12_init 76 = .ok (.new 30, 3) := by decide +kernel
theorem dX12_init_79 : decode cX12_init 79 = .ok (.dup, 1) := by decide +kernel
theorem dX12_init_80 : decode cX12_init 80 = .ok (.aload_n 0, 1) := by decide +kernel
theorem dX12_init_81 : decode cX12_init 81 = .ok (.getfield 18, 3) := by decide +kernel
theorem dX12_init_84 : decode cX12_init 84 = .ok (.iconst 1, 1) := by decide +kernel
theorem dX12_init_85 : decode cX12_init 85 = .ok (.aaload, 1) := by decide +kernel
theorem dX12_init_86 : decode cX12_init 86 = .ok (.aload_n 1, 1) := by decide +kernel
theorem dX12_init_87 : decode cX12_init 87 = .ok (.aload_n 2, 1) := by decide +kernel
theorem dX12_init_88 : decode cX12_init 88 = .ok (.invokespecial 32, 3) := by decide +kernel
theorem dX12_init_91 : decode cX12_init 91 = .ok (.putfield 35, 3) := by decide +kernel
theorem dX12_init_94 : decode cX12_init 94 = .ok (.aload_n 0, 1) := by decide +kernel
theorem dX12_init_95 : decode cX12_init 95 = .ok (.new 39, 3) := by decide +kernel
theorem dX12_init_98 : decode cX12_init 98 = .ok (.dup, 1) := by decide +kernel
theorem dX12_init_99 : decode cX12_init 99 = .ok (.aload_n 0, 1) := by decide +kernel
theorem dX12_init_100 : decode cX12_init 100 = .ok (.getfield 18, 3) := by decide +kernel
theorem dX12_init_103 : decode cX12_init 103 = .ok (.iconst 0, 1) := by decide +kernel
theorem dX12_init_104 : decode cX12_init 104 = .ok (.aaload, 1) := by decide +kernel
theorem dX12_init_105 : decode cX12_init 105 = .ok (.aload_n 1, 1) := by decide +kernel
theorem dX12_init_106 : decode cX12_init 106 = .ok (.aload_n 2, 1) := by decide +kernel
theorem dX12_init_107 : decode cX12_init 107 = .ok (.invokespecial 41, 3) := by decide +kernel
theorem dX12_init_110 : decode cX12_init 110 = .ok (.putfield 42, 3) := by decide +kernel
theorem dX12_init_113 : decode cX12_init 113 = .ok (.return_, 1) := by decide +kernel
theorem dX12_feed_0 : decode cX12_feed 0 = .ok (.aload_n 0, 1) := by decide +kernel
theorem dX12_feed_1 : decode cX12_feed 1 = .ok (.getfield 12, 3) := by decide +kernel
theorem dX12_feed_4 : decode cX12_feed 4 = .ok (.getfield 46, 3) := by decide +kernel
theorem dX12_feed_7 : decode cX12_feed 7 = .ok (.ldc 50, 2) := by decide +kernel
theorem dX12_feed_9 : decode cX12_feed 9 = .ok (.if_icmp .le 13, 3) := by decide +kernel
theorem dX12_feed_12 : decode cX12_feed 12 = .ok (.new 51, 3) := by decide +kernel
theorem dX12_feed_15 : decode cX12_feed 15 = .ok (.dup, 1) := by decide +kernel
theorem dX12_feed_16 : decode cX12_feed 16 = .ok (.ldc 53, 2) := by decide +kernel
theorem dX12_feed_18 : decode cX12_feed 18 = .ok (.invokespecial 55, 3) := by decide +kernel
theorem dX12_feed_21 : decode cX12_feed 21 = .ok (.athrow, 1) := by decide +kernel
theorem dX12_feed_22 : decode cX12_feed 22 = .ok (.aload_n 0, 1) := by decide +kernel
theorem dX12_feed_23 : decode cX12_feed 23 = .ok (.getfield 12, 3) := by decide +kernel
theorem dX12_feed_26 : decode cX12_feed 26 = .ok (.iload_n 1, 1) := by decide +kernel
theorem dX12_feed_27 : decode cX12_feed 27 = .ok (.invokevirtual 58, 3) := by decide +kernel
theorem dX12_feed_30 : decode cX12_feed 30 = .ok (.aload_n 0, 1) := by decide +kernel
theorem dX12_feed_31 : decode cX12_feed 31 = .ok (.getfield 12, 3) := by decide +kernel
theorem dX12_feed_34 : decode cX12_feed 34 = .ok (.iload_n 2, 1) := by decide +kernel
theorem dX12_feed_35 : decode cX12_feed 35 = .ok (.invokevirtual 58, 3) := by decide +kernel
theorem dX12_feed_38 : decode cX12_feed 38 = .ok (.aload_n 0, 1) := by decide +kernel
theorem dX12_feed_39 : decode cX12_feed 39 = .ok (.getfield 12, 3) := by decide +kernel
theorem dX12_feed_42 : decode cX12_feed 42 = .ok (.iload_n 3, 1) := by decide +kernel
theorem dX12_feed_43 : decode cX12_feed 43 = .ok (.invokevirtual 58, 3) := by decide +kernel
theorem dX12_feed_46 : decode cX12_feed 46 = .ok (.aload_n 0, 1) := by decide +kernel
theorem dX12_feed_47 : decode cX12_feed 47 = .ok (.getfield 12, 3) := by decide +kernel
theorem dX12_feed_50 : decode cX12_feed 50 = .ok (.iload 4, 2) := by decide +kernel
theorem dX12_feed_52 : decode cX12_feed 52 = .ok (.invokevirtual 58, 3) := by decide +kernel
theorem dX12_feed_55 : decode cX12_feed 55 = .ok (.aload_n 0, 1) := by decide +kernel
theorem dX12_feed_56 : decode cX12_feed 56 = .ok (.getfield 12, 3) := by decide +kernel
theorem dX12_feed_59 : decode cX12_feed 59 = .ok (.iload 5, 2) := by decide +kernel
theorem dX12_feed_61 : decode cX12_feed 61 = .ok (.invokevirtual 58, 3) := by decide +kernel
theorem dX12_feed_64 : decode cX12_feed 64 = .ok (.aload_n 0, 1) := by decide +kernel
theorem dX12_feed_65 : decode cX12_feed 65 = .ok (.getfield 12, 3) := by decide +kernel
theorem dX12_feed_68 : decode cX12_feed 68 = .ok (.getfield 46, 3) := by decide +kernel
theorem dX12_feed_71 : decode cX12_feed 71 = .ok (.ireturn, 1) := by decide +kernel
theorem dX12_end_0 : decode cX12_end 0 = .ok (.iload_n 1, 1) := by decide +kernel
theorem dX12_end_1 : decode cX12_end 1 = .ok (.ifCond .lt 14, 3) := by decide +kernel
theorem dX12_end_4 : decode cX12_end 4 = .ok (.iload_n 1, 1) := by decide +kernel
theorem dX12_end_5 : decode cX12_end 5 = .ok (.aload_n 0, 1) := by decide +kernel
theorem dX12_end_6 : decode cX12_end 6 = .ok (.getfield 12, 3) := by decide +kernel
theorem dX12_end_9 : decode cX12_end 9 = .ok (.getfield 46, 3) := by decide +kernel
theorem dX12_end_12 : decode cX12_end 12 = .ok (.if_icmp .le 13, 3) := by decide +kernel
theorem dX12_end_15 : decode cX12_end 15 = .ok (.new 61, 3) := by decide +kernel
theorem dX12_end_18 : decode cX12_end 18 = .ok (.dup, 1) := by decide +kernel
theorem dX12_end_19 : decode cX12_end 19 = .ok (.ldc 63, 2) := by decide +kernel
theorem dX12_end_21 : decode cX12_end 21 = .ok (.invokespecial 65, 3) := by decide +kernel
theorem dX12_end_24 : decode cX12_end 24 = .ok (.athrow, 1) := by decide +kernel
theorem dX12_end_25 : decode cX12_end 25 = .ok (.aload_n 0, 1) := by decide +kernel
theorem dX12_end_26 : decode cX12_end 26 = .ok (.getfield 12, 3) := by decide +kernel
theorem dX12_end_29 : decode cX12_end 29 = .ok (.iload_n 1, 1) := by decide +kernel
theorem dX12_end_30 : decode cX12_end 30 = .ok (.invokevirtual 66, 3) := by decide +kernel
theorem dX12_end_33 : decode cX12_end 33 = .ok (.iload_n 1, 1) := by decide +kernel
theorem dX12_end_34 : decode cX12_end 34 = .ok (.ireturn, 1) := by decide +kernel
theorem dX12_secret_0 : decode cX12_secret 0 = .ok (.iload_n 1, 1) := by decide +kernel
theorem dX12_secret_1 : decode cX12_secret 1 = .ok (.ifCond .lt 8, 3) := by decide +kernel
theorem dX12_secret_4 : decode cX12_secret 4 = .ok (.iload_n 1, 1) := by decide +kernel
theorem dX12_secret_5 : decode cX12_secret 5 = .ok (.iconst 4, 1) := by decide +kernel
theorem dX12_secret_6 : decode cX12_secret 6 = .ok (.if_icmp .le 13, 3) := by decide +kernel
theorem dX12_secret_9 : decode cX12_secret 9 = .ok (.new 69, 3) := by decide +kernel
theorem dX12_secret_12 : decode cX12_secret 12 = .ok (.dup, 1) := by decide +kernel
theorem dX12_secret_13 : decode cX12_secret 13 = .ok (.ldc 71, 2) := by decide +kernel
theorem dX12_secret_15 : decode cX12_secret 15 = .ok (.invokespecial 73, 3) := by decide +kernel
theorem dX12_secret_18 : decode cX12_secret 18 = .ok (.athrow, 1) := by decide +kernel
theorem dX12_secret_19 : decode cX12_secret 19 = .ok (.aload_n 0, 1) := by decide +kernel
theorem dX12_secret_20 : decode cX12_secret 20 = .ok (.getfield 12, 3) := by decide +kernel
theorem dX12_secret_23 : decode cX12_secret 23 = .ok (.getfield 46, 3) := by decide +kernel
theorem dX12_secret_26 : decode cX12_secret 26 = .ok (.bipush 32, 2) := by decide +kernel
theorem dX12_secret_28 : decode cX12_secret 28 = .ok (.if_icmp .eq 13, 3) := by decide +kernel
theorem dX12_secret_31 : decode cX12_secret 31 = .ok (.new 61, 3) := by decide +kernel
theorem dX12_secret_34 : decode cX12_secret 34 = .ok (.dup, 1) := by decide +kernel
theorem dX12_secret_35 : decode cX12_secret 35 = .ok (.ldc 74, 2) := by decide +kernel
theorem dX12_secret_37 : decode cX12_secret 37 = .ok (.invokespecial 65, 3) := by decide +kernel
theorem dX12_secret_40 : decode cX12_secret 40 = .ok (.athrow, 1) := by decide +kernel
theorem dX12_secret_41 : decode cX12_secret 41 = .ok (.iload_n 1, 1) := by decide +kernel
theorem dX12_secret_42 : decode cX12_secret 42 = .ok (.ifCond .ne 20, 3) := by decide +kernel
theorem dX12_secret_45 : decode cX12_secret 45 = .ok (.aload_n 0, 1) := by decide +kernel
theorem dX12_secret_46 : decode cX12_secret 46 = .ok (.getfield 35, 3) := by decide +kernel
theorem dX12_secret_49 : decode cX12_secret 49 = .ok (.getfield 76, 3) := by decide +kernel
theorem dX12_secret_52 : decode cX12_secret 52 = .ok (.aload_n 0, 1) := by decide +kernel
theorem dX12_secret_53 : decode cX12_secret 53 = .ok (.getfield 12, 3) := by decide +kernel
theorem dX12_secret_56 : decode cX12_secret 56 = .ok (.invokevirtual 80, 3) := by decide +kernel
theorem dX12_secret_59 : decode cX12_secret 59 = .ok (.goto 77, 3) := by decide +kernel
theorem dX12_secret_62 : decode cX12_secret 62 = .ok (.iload_n 1, 1) := by decide +kernel
theorem dX12_secret_63 : decode cX12_secret 63 = .ok (.iconst 1, 1) := by decide +kernel
theorem dX12_secret_64 : decode cX12_secret 64 = .ok (.if_icmp .ne 20, 3) := by decide +kernel
theorem dX12_secret_67 : decode cX12_secret 67 = .ok (.aload_n 0, 1) := by decide +kernel
theorem dX12_secret_68 : decode cX12_secret 68 = .ok (.getfield 42, 3) := by decide +kernel
theorem dX12_secret_71 : decode cX12_secret 71 = .ok (.getfield 86, 3) := by decide +kernel
theorem dX12_secret_74 : decode cX12_secret 74 = .ok (.aload_n 0, 1) := by decide +kernel
theorem dX12_secret_75 : decode cX12_secret 75 = .ok (.getfield 12, 3) := by decide +kernel
theorem dX12_secret_78 : decode cX12_secret 78 = .ok (.invokevirtual 80, 3) := by decide +kernel
theorem dX12_secret_81 : decode cX12_secret 81 = .ok (.goto 55, 3) := by decide +kernel
theorem dX12_secret_84 : decode cX12_secret 84 = .ok (.iload_n 1, 1) := by decide +kernel
theorem dX12_secret_85 : decode cX12_secret 85 = .ok (.iconst 2, 1) := by decide +kernel
theorem dX12_secret_86 : decode cX12_secret 86 = .ok (.if_icmp .ne 17, 3) := by decide +kernel
theorem dX12_secret_89 : decode cX12_secret 89 = .ok (.aload_n 0, 1) := by decide +kernel
theorem dX12_secret_90 : decode cX12_secret 90 = .ok (.getfield 42, 3) := by decide +kernel
theorem dX12_secret_93 : decode cX12_secret 93 = .ok (.aload_n 0, 1) := by decide +kernel
theorem dX12_secret_94 : decode cX12_secret 94 = .ok (.getfield 12, 3) := by decide +kernel
theorem dX12_secret_97 : decode cX12_secret 97 = .ok (.invokevirtual 87, 3) := by decide +kernel
theorem dX12_secret_100 : decode cX12_secret 100 = .ok (.goto 36, 3) := by decide +kernel
theorem dX12_secret_103 : decode cX12_secret 103 = .ok (.iload_n 1, 1) := by decide +kernel
theorem dX12_secret_104 : decode cX12_secret 104 = .ok (.iconst 3, 1) := by decide +kernel
theorem dX12_secret_105 : decode cX12_secret 105 = .ok (.if_icmp .ne 17, 3) := by decide +kernel
theorem dX12_secret_108 : decode cX12_secret 108 = .ok (.aload_n 0, 1) := by decide +kernel
theorem dX12_secret_109 : decode cX12_secret 109 = .ok (.getfield 35, 3) := by decide +kernel
theorem dX12_secret_112 : decode cX12_secret 112 = .ok (.aload_n 0, 1) := by decide +kernel
theorem dX12_secret_113 : decode cX12_secret 113 = .ok (.getfield 12, 3) := by decide +kernel
theorem dX12_secret_116 : decode cX12_secret 116 = .ok (.invokevirtual 90, 3) := by decide +kernel
theorem dX12_secret_119 : decode cX12_secret 119 = .ok (.goto 17, 3) := by decide +kernel
theorem dX12_secret_122 : decode cX12_secret 122 = .ok (.aload_n 0, 1) := by decide +kernel
theorem dX12_secret_123 : decode cX12_secret 123 = .ok (.getfield 35, 3) := by decide +kernel
theorem dX12_secret_126 : decode cX12_secret 126 = .ok (.getfield 93, 3) := by decide +kernel
theorem dX12_secret_129 : decode cX12_secret 129 = .ok (.aload_n 0, 1) := by decide +kernel
theorem dX12_secret_130 : decode cX12_secret 130 = .ok (.getfield 12, 3) := by decide +kernel
theorem dX12_secret_133 : decode cX12_secret 133 = .ok (.invokevirtual 96, 3) := by decide +kernel
theorem dX12_secret_136 : decode cX12_secret 136 = .ok (.aload_n 0, 1) := by decide +kernel
theorem dX12_secret_137 : decode cX12_secret 137 = .ok (.getfield 12, 3) := by decide +kernel
theorem dX12_secret_140 : decode cX12_secret 140 = .ok (.invokevirtual 99, 3) := by decide +kernel
theorem dX12_secret_143 : decode cX12_secret 143 = .ok (.return_, 1) := by decide +kernel
theorem dX12_user_0 : decode cX12_user 0 = .ok (.iload_n 1, 1) := by decide +kernel
theorem dX12_user_1 : decode cX12_user 1 = .ok (.iconst 1, 1) := by decide +kernel
theorem dX12_user_2 : decode cX12_user 2 = .ok (.if_icmp .lt 34, 3) := by decide +kernel
theorem dX12_user_5 : decode cX12_user 5 = .ok (.iload_n 1, 1) := by decide +kernel
theorem dX12_user_6 : decode cX12_user 6 = .ok (.bipush 32, 2) := by decide +kernel
theorem dX12_user_8 : decode cX12_user 8 = .ok (.if_icmp .gt 28, 3) := by decide +kernel
theorem dX12_user_11 : decode cX12_user 11 = .ok (.iload_n 1, 1) := by decide +kernel
theorem dX12_user_12 : decode cX12_user 12 = .ok (.aload_n 0, 1) := by decide +kernel
theorem dX12_user_13 : decode cX12_user 13 = .ok (.getfield 12, 3) := by decide +kernel
theorem dX12_user_16 : decode cX12_user 16 = .ok (.getfield 46, 3) := by decide +kernel
theorem dX12_user_19 : decode cX12_user 19 = .ok (.if_icmp .gt 17, 3) := by decide +kernel
theorem dX12_user_22 : decode cX12_user 22 = .ok (.aload_n 0, 1) := by decide +kernel
theorem dX12_user_23 : decode cX12_user 23 = .ok (.getfield 12, 3) := by decide +kernel
theorem dX12_user_26 : decode cX12_user 26 = .ok (.getfield 46, 3) := by decide +kernel
theorem dX12_user_29 : decode cX12_user 29 = .ok (.iload_n 1, 1) := by decide +kernel
theorem dX12_user_30 : decode cX12_user 30 = .ok (.isub, 1) := by decide +kernel
theorem dX12_user_31 : decode cX12_user 31 = .ok (.bipush 64, 2) := by decide +kernel
theorem dX12_user_33 : decode cX12_user 33 = .ok (.if_icmp .le 13, 3) := by decide +kernel
theorem dX12_user_36 : decode cX12_user 36 = .ok (.new 61, 3) := by decide +kernel
theorem dX12_user_39 : decode cX12_user 39 = .ok (.dup, 1) := by decide +kernel
theorem dX12_user_40 : decode cX12_user 40 = .ok (.ldc 102, 2) := by decide +kernel
theorem dX12_user_42 : decode cX12_user 42 = .ok (.invokespecial 65, 3) := by decide +kernel
theorem dX12_user_45 : decode cX12_user 45 = .ok (.athrow, 1) := by decide +kernel
theorem dX12_user_46 : decode cX12_user 46 = .ok (.iload_n 2, 1) := by decide +kernel
theorem dX12_user_47 : decode cX12_user 47 = .ok (.ifCond .eq 30, 3) := by decide +kernel
theorem dX12_user_50 : decode cX12_user 50 = .ok (.aload_n 0, 1) := by decide +kernel
theorem dX12_user_51 : decode cX12_user 51 = .ok (.getfield 42, 3) := by decide +kernel
theorem dX12_user_54 : decode cX12_user 54 = .ok (.aload_n 0, 1) := by decide +kernel
theorem dX12_user_55 : decode cX12_user 55 = .ok (.getfield 12, 3) := by decide +kernel
theorem dX12_user_58 : decode cX12_user 58 = .ok (.iconst 0, 1) := by decide +kernel
theorem dX12_user_59 : decode cX12_user 59 = .ok (.iload_n 1, 1) := by decide +kernel
theorem dX12_user_60 : decode cX12_user 60 = .ok (.invokevirtual 104, 3) := by decide +kernel
theorem dX12_user_63 : decode cX12_user 63 = .ok (.iconst (-1), 1) := by decide +kernel
theorem dX12_user_64 : decode cX12_user 64 = .ok (.if_icmp .eq 13, 3) := by decide +kernel
theorem dX12_user_67 : decode cX12_user 67 = .ok (.new 61, 3) := by decide +kernel
theorem dX12_user_70 : decode cX12_user 70 = .ok (.dup, 1) := by decide +kernel
theorem dX12_user_71 : decode cX12_user 71 = .ok (.ldc 108, 2) := by decide +kernel
theorem dX12_user_73 : decode cX12_user 73 = .ok (.invokespecial 65, 3) := by decide +kernel
theorem dX12_user_76 : decode cX12_user 76 = .ok (.athrow, 1) := by decide +kernel
theorem dX12_user_77 : decode cX12_user 77 = .ok (.iload_n 2, 1) := by decide +kernel
theorem dX12_user_78 : decode cX12_user 78 = .ok (.ifCond .eq 25, 3) := by decide +kernel
theorem dX12_user_81 : decode cX12_user 81 = .ok (.aload_n 0, 1) := by decide +kernel
theorem dX12_user_82 : decode cX12_user 82 = .ok (.getfield 42, 3) := by decide +kernel
theorem dX12_user_85 : decode cX12_user 85 = .ok (.getfield 110, 3) := by decide +kernel
theorem dX12_user_88 : decode cX12_user 88 = .ok (.bipush 8, 2) := by decide +kernel
theorem dX12_user_90 : decode cX12_user 90 = .ok (.if_icmp .ne 13, 3) := by decide +kernel
theorem dX12_user_93 : decode cX12_user 93 = .ok (.new 51, 3) := by decide +kernel
theorem dX12_user_96 : decode cX12_user 96 = .ok (.dup, 1) := by decide +kernel
theorem dX12_user_97 : decode cX12_user 97 = .ok (.ldc 113, 2) := by decide +kernel
theorem dX12_user_99 : decode cX12_user 99 = .ok (.invokespecial 55, 3) := by decide +kernel
theorem dX12_user_102 : decode cX12_user 102 = .ok (.athrow, 1) := by decide +kernel
theorem dX12_user_103 : decode cX12_user 103 = .ok (.iload_n 2, 1) := by decide +kernel
theorem dX12_user_104 : decode cX12_user 104 = .ok (.ifCond .eq 18, 3) := by decide +kernel
theorem dX12_user_107 : decode cX12_user 107 = .ok (.aload_n 0, 1) := by decide +kernel
theorem dX12_user_108 : decode cX12_user 108 = .ok (.getfield 42, 3) := by decide +kernel
theorem dX12_user_111 : decode cX12_user 111 = .ok (.aload_n 0, 1) := by decide +kernel
theorem dX12_user_112 : decode cX12_user 112 = .ok (.getfield 12, 3) := by decide +kernel
theorem dX12_user_115 : decode cX12_user 115 = .ok (.iload_n 1, 1) := by decide +kernel
theorem dX12_user_116 : decode cX12_user 116 = .ok (.invokevirtual 115, 3) := by decide +kernel
theorem dX12_user_119 : decode cX12_user 119 = .ok (.goto 15, 3) := by decide +kernel
theorem dX12_user_122 : decode cX12_user 122 = .ok (.aload_n 0, 1) := by decide +kernel
theorem dX12_user_123 : decode cX12_user 123 = .ok (.getfield 35, 3) := by decide +kernel
theorem dX12_user_126 : decode cX12_user 126 = .ok (.aload_n 0, 1) := by decide +kernel
theorem dX12_user_127 : decode cX12_user 127 = .ok (.getfield 12, 3) := by decide +kernel
theorem dX12_user_130 : decode cX12_user 130 = .ok (.iload_n 1, 1) := by decide +kernel
theorem dX12_user_131 : decode cX12_user 131 = .ok (.invokevirtual 119, 3) := by decide +kernel
theorem dX12_user_134 : decode cX12_user 134 = .ok (.aload_n 0, 1) := by decide +kernel
theorem dX12_user_135 : decode cX12_user 135 = .ok (.getfield 12, 3) := by decide +kernel
theorem dX12_user_138 : decode cX12_user 138 = .ok (.invokevirtual 99, 3) := by decide +kernel
theorem dX12_user_141 : decode cX12_user 141 = .ok (.aload_n 0, 1) := by decide +kernel
theorem dX12_user_142 : decode cX12_user 142 = .ok (.getfield 42, 3) := by decide +kernel
theorem dX12_user_145 : decode cX12_user 145 = .ok (.getfield 110, 3) := by decide +kernel
theorem dX12_user_148 : decode cX12_user 148 = .ok (.ireturn, 1) := by decide +kernel
theorem dX12_allow_0 : decode cX12_allow 0 = .ok (.iload_n 1, 1) := by decide +kernel
theorem dX12_allow_1 : decode cX12_allow 1 = .ok (.ifCond .lt 14, 3) := by decide +kernel
theorem dX12_allow_4 : decode cX12_allow 4 = .ok (.iload_n 1, 1) := by decide +kernel
theorem dX12_allow_5 : decode cX12_allow 5 = .ok (.aload_n 0, 1) := by decide +kernel
theorem dX12_allow_6 : decode cX12_allow 6 = .ok (.getfield 42, 3) := by decide +kernel
theorem dX12_allow_9 : decode cX12_allow 9 = .ok (.getfield 110, 3) := by decide +kernel
theorem dX12_allow_12 : decode cX12_allow 12 = .ok (.if_icmp .lt 13, 3) := by decide +kernel
theorem dX12_allow_15 : decode cX12_allow 15 = .ok (.new 69, 3) := by decide +kernel
theorem dX12_allow_18 : decode cX12_allow 18 = .ok (.dup, 1) := by decide +kernel
theorem dX12_allow_19 : decode cX12_allow 19 = .ok (.ldc 122, 2) := by decide +kernel
theorem dX12_allow_21 : decode cX12_allow 21 = .ok (.invokespecial 73, 3) := by decide +kernel
theorem dX12_allow_24 : decode cX12_allow 24 = .ok (.athrow, 1) := by decide +kernel
theorem dX12_allow_25 : decode cX12_allow 25 = .ok (.aload_n 0, 1) := by decide +kernel
theorem dX12_allow_26 : decode cX12_allow 26 = .ok (.getfield 12, 3) := by decide +kernel
theorem dX12_allow_29 : decode cX12_allow 29 = .ok (.getfield 46, 3) := by decide +kernel
theorem dX12_allow_32 : decode cX12_allow 32 = .ok (.bipush 32, 2) := by decide +kernel
theorem dX12_allow_34 : decode cX12_allow 34 = .ok (.if_icmp .eq 13, 3) := by decide +kernel
theorem dX12_allow_37 : decode cX12_allow 37 = .ok (.new 61, 3) := by decide +kernel
theorem dX12_allow_40 : decode cX12_allow 40 = .ok (.dup, 1) := by decide +kernel
theorem dX12_allow_41 : decode cX12_allow 41 = .ok (.ldc 124, 2) := by decide +kernel
theorem dX12_allow_43 : decode cX12_allow 43 = .ok (.invokespecial 65, 3) := by decide +kernel
theorem dX12_allow_46 : decode cX12_allow 46 = .ok (.athrow, 1) := by decide +kernel
theorem dX12_allow_47 : decode cX12_allow 47 = .ok (.aload_n 0, 1) := by decide +kernel
theorem dX12_allow_48 : decode cX12_allow 48 = .ok (.getfield 42, 3) := by decide +kernel
theorem dX12_allow_51 : decode cX12_allow 51 = .ok (.getfield 126, 3) := by decide +kernel
theorem dX12_allow_54 : decode cX12_allow 54 = .ok (.iload_n 1, 1) := by decide +kernel
theorem dX12_allow_55 : decode cX12_allow 55 = .ok (.aaload, 1) := by decide +kernel
theorem dX12_allow_56 : decode cX12_allow 56 = .ok (.aload_n 0, 1) := by decide +kernel
theorem dX12_allow_57 : decode cX12_allow 57 = .ok (.getfield 12, 3) := by decide +kernel
theorem dX12_allow_60 : decode cX12_allow 60 = .ok (.invokevirtual 96, 3) := by decide +kernel
theorem dX12_allow_63 : decode cX12_allow 63 = .ok (.aload_n 0, 1) := by decide +kernel
theorem dX12_allow_64 : decode cX12_allow 64 = .ok (.getfield 12, 3) := by decide +kernel
theorem dX12_allow_67 : decode cX12_allow 67 = .ok (.invokevirtual 99, 3) := by decide +kernel
theorem dX12_allow_70 : decode cX12_allow 70 = .ok (.return_, 1) := by decide +kernel
theorem dX12_set_0 : decode cX12_set 0 = .ok (.aload_n 0, 1) := by decide +kernel
theorem dX12_set_1 : decode cX12_set 1 = .ok (.iload_n 1, 1) := by decide +kernel
theorem dX12_set_2 : decode cX12_set 2 = .ok (.invokevirtual 129, 3) := by decide +kernel
theorem dX12_set_5 : decode cX12_set 5 = .ok (.astore 4, 2) := by decide +kernel
theorem dX12_set_7 : decode cX12_set 7 = .ok (.aload 4, 2) := by decide +kernel
theorem dX12_set_9 : decode cX12_set 9 = .ok (.ifnull 12, 3) := by decide +kernel
theorem dX12_set_12 : decode cX12_set 12 = .ok (.iload_n 2, 1) := by decide +kernel
theorem dX12_set_13 : decode cX12_set 13 = .ok (.ifCond .lt 8, 3) := by decide +kernel
theorem dX12_set_16 : decode cX12_set 16 = .ok (.iload_n 2, 1) := by decide +kernel
theorem dX12_set_17 : decode cX12_set 17 = .ok (.iconst 4, 1) := by decide +kernel
theorem dX12_set_18 : decode cX12_set 18 = .ok (.if_icmp .le 13, 3) := by decide +kernel
theorem dX12_set_21 : decode cX12_set 21 = .ok (.new 69, 3) := by decide +kernel
theorem dX12_set_24 : decode cX12_set 24 = .ok (.dup, 1) := by decide +kernel
theorem dX12_set_25 : decode cX12_set 25 = .ok (.ldc 133, 2) := by decide +kernel
theorem dX12_set_27 : decode cX12_set 27 = .ok (.invokespecial 73, 3) := by decide +kernel
theorem dX12_set_30 : decode cX12_set 30 = .ok (.athrow, 1) := by decide +kernel
theorem dX12_set_31 : decode cX12_set 31 = .ok (.iload_n 2, 1) := by decide +kernel
theorem dX12_set_32 : decode cX12_set 32 = .ok (.iload_n 3, 1) := by decide +kernel
theorem dX12_set_33 : decode cX12_set 33 = .ok (.invokestatic 135, 3) := by decide +kernel
theorem dX12_set_36 : decode cX12_set 36 = .ok (.ifCond .ne 13, 3) := by decide +kernel
theorem dX12_set_39 : decode cX12_set 39 = .ok (.new 61, 3) := by decide +kernel
theorem dX12_set_42 : decode cX12_set 42 = .ok (.dup, 1) := by decide +kernel
theorem dX12_set_43 : decode cX12_set 43 = .ok (.ldc 139, 2) := by decide +kernel
theorem dX12_set_45 : decode cX12_set 45 = .ok (.invokespecial 65, 3) := by decide +kernel
theorem dX12_set_48 : decode cX12_set 48 = .ok (.athrow, 1) := by decide +kernel
theorem dX12_set_49 : decode cX12_set 49 = .ok (.aload 4, 2) := by decide +kernel
theorem dX12_set_51 : decode cX12_set 51 = .ok (.getfield 141, 3) := by decide +kernel
theorem dX12_set_54 : decode cX12_set 54 = .ok (.iload_n 2, 1) := by decide +kernel
theorem dX12_set_55 : decode cX12_set 55 = .ok (.iaload, 1) := by decide +kernel
theorem dX12_set_56 : decode cX12_set 56 = .ok (.istore 5, 2) := by decide +kernel
theorem dX12_set_58 : decode cX12_set 58 = .ok (.aload 4, 2) := by decide +kernel
theorem dX12_set_60 : decode cX12_set 60 = .ok (.getfield 141, 3) := by decide +kernel
theorem dX12_set_63 : decode cX12_set 63 = .ok (.iload_n 2, 1) := by decide +kernel
theorem dX12_set_64 : decode cX12_set 64 = .ok (.iload_n 3, 1) := by decide +kernel
theorem dX12_set_65 : decode cX12_set 65 = .ok (.iastore, 1) := by decide +kernel
theorem dX12_set_66 : decode cX12_set 66 = .ok (.aload 4, 2) := by decide +kernel
theorem dX12_set_68 : decode cX12_set 68 = .ok (.getfield 147, 3) := by decide +kernel
theorem dX12_set_71 : decode cX12_set 71 = .ok (.aload 4, 2) := by decide +kernel
theorem dX12_set_73 : decode cX12_set 73 = .ok (.getfield 141, 3) := by decide +kernel
theorem dX12_set_76 : decode cX12_set 76 = .ok (.iconst 0, 1) := by decide +kernel
theorem dX12_set_77 : decode cX12_set 77 = .ok (.iaload, 1) := by decide +kernel
theorem dX12_set_78 : decode cX12_set 78 = .ok (.aload 4, 2) := by decide +kernel
theorem dX12_set_80 : decode cX12_set 80 = .ok (.getfield 141, 3) := by decide +kernel
theorem dX12_set_83 : decode cX12_set 83 = .ok (.iconst 1, 1) := by decide +kernel
theorem dX12_set_84 : decode cX12_set 84 = .ok (.iaload, 1) := by decide +kernel
theorem dX12_set_85 : decode cX12_set 85 = .ok (.invokevirtual 151, 3) := by decide +kernel
theorem dX12_set_88 : decode cX12_set 88 = .ok (.iload 5, 2) := by decide +kernel
theorem dX12_set_90 : decode cX12_set 90 = .ok (.ireturn, 1) := by decide +kernel
theorem dX12_port_0 : decode cX12_port 0 = .ok (.iload_n 1, 1) := by decide +kernel
theorem dX12_port_1 : decode cX12_port 1 = .ok (.invokestatic 157, 3) := by decide +kernel
theorem dX12_port_4 : decode cX12_port 4 = .ok (.ifCond .ne 13, 3) := by decide +kernel
theorem dX12_port_7 : decode cX12_port 7 = .ok (.new 69, 3) := by decide +kernel
theorem dX12_port_10 : decode cX12_port 10 = .ok (.dup, 1) := by decide +kernel
theorem dX12_port_11 : decode cX12_port 11 = .ok (.ldc 161, 2) := by decide +kernel
theorem dX12_port_13 : decode cX12_port 13 = .ok (.invokespecial 73, 3) := by decide +kernel
theorem dX12_port_16 : decode cX12_port 16 = .ok (.athrow, 1) := by decide +kernel
theorem dX12_port_17 : decode cX12_port 17 = .ok (.aload_n 0, 1) := by decide +kernel
theorem dX12_port_18 : decode cX12_port 18 = .ok (.getfield 42, 3) := by decide +kernel
theorem dX12_port_21 : decode cX12_port 21 = .ok (.iload_n 1, 1) := by decide +kernel
theorem dX12_port_22 : decode cX12_port 22 = .ok (.iload_n 2, 1) := by decide +kernel
theorem dX12_port_23 : decode cX12_port 23 = .ok (.invokevirtual 163, 3) := by decide +kernel
theorem dX12_port_26 : decode cX12_port 26 = .ok (.return_, 1) := by decide +kernel
theorem dX12_start_0 : decode cX12_start 0 = .ok (.aload_n 0, 1) := by decide +kernel
theorem dX12_start_1 : decode cX12_start 1 = .ok (.getfield 42, 3) := by decide +kernel
theorem dX12_start_4 : decode cX12_start 4 = .ok (.invokevirtual 167, 3) := by decide +kernel
theorem dX12_start_7 : decode cX12_start 7 = .ok (.ifCond .ne 13, 3) := by decide +kernel
theorem dX12_start_10 : decode cX12_start 10 = .ok (.new 51, 3) := by decide +kernel
theorem dX12_start_13 : decode cX12_start 13 = .ok (.dup, 1) := by decide +kernel
theorem dX12_start_14 : decode cX12_start 14 = .ok (.ldc 171, 2) := by decide +kernel
theorem dX12_start_16 : decode cX12_start 16 = .ok (.invokespecial 55, 3) := by decide +kernel
theorem dX12_start_19 : decode cX12_start 19 = .ok (.athrow, 1) := by decide +kernel
theorem dX12_start_20 : decode cX12_start 20 = .ok (.aload_n 0, 1) := by decide +kernel
theorem dX12_start_21 : decode cX12_start 21 = .ok (.getfield 18, 3) := by decide +kernel
theorem dX12_start_24 : decode cX12_start 24 = .ok (.iconst 0, 1) := by decide +kernel
theorem dX12_start_25 : decode cX12_start 25 = .ok (.aaload, 1) := by decide +kernel
theorem dX12_start_26 : decode cX12_start 26 = .ok (.invokevirtual 99, 3) := by decide +kernel
theorem dX12_start_29 : decode cX12_start 29 = .ok (.aload_n 0, 1) := by decide +kernel
theorem dX12_start_30 : decode cX12_start 30 = .ok (.getfield 18, 3) := by decide +kernel
theorem dX12_start_33 : decode cX12_start 33 = .ok (.iconst 1, 1) := by decide +kernel
theorem dX12_start_34 : decode cX12_start 34 = .ok (.aaload, 1) := by decide +kernel
theorem dX12_start_35 : decode cX12_start 35 = .ok (.invokevirtual 99, 3) := by decide +kernel
theorem dX12_start_38 : decode cX12_start 38 = .ok (.aload_n 0, 1) := by decide +kernel
theorem dX12_start_39 : decode cX12_start 39 = .ok (.getfield 35, 3) := by decide +kernel
theorem dX12_start_42 : decode cX12_start 42 = .ok (.invokevirtual 173, 3) := by decide +kernel
theorem dX12_start_45 : decode cX12_start 45 = .ok (.aload_n 0, 1) := by decide +kernel
theorem dX12_start_46 : decode cX12_start 46 = .ok (.getfield 42, 3) := by decide +kernel
theorem dX12_start_49 : decode cX12_start 49 = .ok (.invokevirtual 176, 3) := by decide +kernel
theorem dX12_start_52 : decode cX12_start 52 = .ok (.return_, 1) := by decide +kernel
theorem dX12_move_0 : decode cX12_move 0 = .ok (.aload_n 0, 1) := by decide +kernel
theorem dX12_move_1 : decode cX12_move 1 = .ok (.iload_n 1, 1) := by decide +kernel
theorem dX12_move_2 : decode cX12_move 2 = .ok (.invokevirtual 129, 3) := by decide +kernel
theorem dX12_move_5 : decode cX12_move 5 = .ok (.astore_n 3, 1) := by decide +kernel
theorem dX12_move_6 : decode cX12_move 6 = .ok (.aload_n 3, 1) := by decide +kernel
theorem dX12_move_7 : decode cX12_move 7 = .ok (.ifnonnull 13, 3) := by decide +kernel
theorem dX12_move_10 : decode cX12_move 10 = .ok (.new 69, 3) := by decide +kernel
theorem dX12_move_13 : decode cX12_move 13 = .ok (.dup, 1) := by decide +kernel
theorem dX12_move_14 : decode cX12_move 14 = .ok (.ldc 177, 2) := by decide +kernel
theorem dX12_move_16 : decode cX12_move 16 = .ok (.invokespecial 73, 3) := by decide +kernel
theorem dX12_move_19 : decode cX12_move 19 = .ok (.athrow, 1) := by decide +kernel
theorem dX12_move_20 : decode cX12_move 20 = .ok (.iload_n 2, 1) := by decide +kernel
theorem dX12_move_21 : decode cX12_move 21 = .ok (.iconst 1, 1) := by decide +kernel
theorem dX12_move_22 : decode cX12_move 22 = .ok (.if_icmp .ge 13, 3) := by decide +kernel
theorem dX12_move_25 : decode cX12_move 25 = .ok (.new 61, 3) := by decide +kernel
theorem dX12_move_28 : decode cX12_move 28 = .ok (.dup, 1) := by decide +kernel
theorem dX12_move_29 : decode cX12_move 29 = .ok (.ldc 179, 2) := by decide +kernel
theorem dX12_move_31 : decode cX12_move 31 = .ok (.invokespecial 65, 3) := by decide +kernel
theorem dX12_move_34 : decode cX12_move 34 = .ok (.athrow, 1) := by decide +kernel
theorem dX12_move_35 : decode cX12_move 35 = .ok (.aload_n 0, 1) := by decide +kernel
theorem dX12_move_36 : decode cX12_move 36 = .ok (.getfield 18, 3) := by decide +kernel
theorem dX12_move_39 : decode cX12_move 39 = .ok (.iload_n 1, 1) := by decide +kernel
theorem dX12_move_40 : decode cX12_move 40 = .ok (.aaload, 1) := by decide +kernel
theorem dX12_move_41 : decode cX12_move 41 = .ok (.astore 4, 2) := by decide +kernel
theorem dX12_move_43 : decode cX12_move 43 = .ok (.iload_n 2, 1) := by decide +kernel
theorem dX12_move_44 : decode cX12_move 44 = .ok (.aload 4, 2) := by decide +kernel
theorem dX12_move_46 : decode cX12_move 46 = .ok (.getfield 46, 3) := by decide +kernel
theorem dX12_move_49 : decode cX12_move 49 = .ok (.invokestatic 181, 3) := by decide +kernel
theorem dX12_move_52 : decode cX12_move 52 = .ok (.istore 5, 2) := by decide +kernel
theorem dX12_move_54 : decode cX12_move 54 = .ok (.iconst 0, 1) := by decide +kernel
theorem dX12_move_55 : decode cX12_move 55 = .ok (.istore 6, 2) := by decide +kernel
theorem dX12_move_57 : decode cX12_move 57 = .ok (.iload 6, 2) := by decide +kernel
theorem dX12_move_59 : decode cX12_move 59 = .ok (.iload 5, 2) := by decide +kernel
theorem dX12_move_61 : decode cX12_move 61 = .ok (.if_icmp .ge 49, 3) := by decide +kernel
theorem dX12_move_64 : decode cX12_move 64 = .ok (.aload_n 3, 1) := by decide +kernel
theorem dX12_move_65 : decode cX12_move 65 = .ok (.aload 4, 2) := by decide +kernel
theorem dX12_move_67 : decode cX12_move 67 = .ok (.invokevirtual 187, 3) := by decide +kernel
theorem dX12_move_70 : decode cX12_move 70 = .ok (.invokevirtual 191, 3) := by decide +kernel
theorem dX12_move_73 : decode cX12_move 73 = .ok (.istore 7, 2) := by decide +kernel
theorem dX12_move_75 : decode cX12_move 75 = .ok (.iload 7, 2) := by decide +kernel
theorem dX12_move_77 : decode cX12_move 77 = .ok (.iconst (-1), 1) := by decide +kernel
theorem dX12_move_78 : decode cX12_move 78 = .ok (.if_icmp .eq 26, 3) := by decide +kernel
theorem dX12_move_81 : decode cX12_move 81 = .ok (.aload_n 3, 1) := by decide +kernel
theorem dX12_move_82 : decode cX12_move 82 = .ok (.iload 7, 2) := by decide +kernel
theorem dX12_move_84 : decode cX12_move 84 = .ok (.invokevirtual 195, 3) := by decide +kernel
theorem dX12_move_87 : decode cX12_move 87 = .ok (.istore 8, 2) := by decide +kernel
theorem dX12_move_89 : decode cX12_move 89 = .ok (.iload 8, 2) := by decide +kernel
theorem dX12_move_91 : decode cX12_move 91 = .ok (.ifCond .eq 9, 3) := by decide +kernel
theorem dX12_move_94 : decode cX12_move 94 = .ok (.aload_n 3, 1) := by decide +kernel
theorem dX12_move_95 : decode cX12_move 95 = .ok (.iload 8, 2) := by decide +kernel
theorem dX12_move_97 : decode cX12_move 97 = .ok (.invokevirtual 198, 3) := by decide +kernel
theorem dX12_move_100 : decode cX12_move 100 = .ok (.aload_n 3, 1) := by decide +kernel
theorem dX12_move_101 : decode cX12_move 101 = .ok (.invokevirtual 201, 3) := by decide +kernel
theorem dX12_move_104 : decode cX12_move 104 = .ok (.iinc 6 1, 3) := by decide +kernel
theorem dX12_move_107 : decode cX12_move 107 = .ok (.goto (-50), 3) := by decide +kernel
theorem dX12_move_110 : decode cX12_move 110 = .ok (.aload 4, 2) := by decide +kernel
theorem dX12_move_112 : decode cX12_move 112 = .ok (.getfield 46, 3) := by decide +kernel
theorem dX12_move_115 : decode cX12_move 115 = .ok (.ireturn, 1) := by decide +kernel
theorem dX12_flip_0 : decode cX12_flip 0 = .ok (.aload_n 0, 1) := by decide +kernel
theorem dX12_flip_1 : decode cX12_flip 1 = .ok (.iload_n 1, 1) := by decide +kernel
theorem dX12_flip_2 : decode cX12_flip 2 = .ok (.invokevirtual 129, 3) := by decide +kernel
theorem dX12_flip_5 : decode cX12_flip 5 = .ok (.ifnonnull 13, 3) := by decide +kernel
theorem dX12_flip_8 : decode cX12_flip 8 = .ok (.new 69, 3) := by decide +kernel
theorem dX12_flip_11 : decode cX12_flip 11 = .ok (.dup, 1) := by decide +kernel
theorem dX12_flip_12 : decode cX12_flip 12 = .ok (.ldc 177, 2) := by decide +kernel
theorem dX12_flip_14 : decode cX12_flip 14 = .ok (.invokespecial 73, 3) := by decide +kernel
theorem dX12_flip_17 : decode cX12_flip 17 = .ok (.athrow, 1) := by decide +kernel
theorem dX12_flip_18 : decode cX12_flip 18 = .ok (.iload_n 2, 1) := by decide +kernel
theorem dX12_flip_19 : decode cX12_flip 19 = .ok (.ifCond .lt 16, 3) := by decide +kernel
theorem dX12_flip_22 : decode cX12_flip 22 = .ok (.iload_n 2, 1) := by decide +kernel
theorem dX12_flip_23 : decode cX12_flip 23 = .ok (.aload_n 0, 1) := by decide +kernel
theorem dX12_flip_24 : decode cX12_flip 24 = .ok (.getfield 18, 3) := by decide +kernel
theorem dX12_flip_27 : decode cX12_flip 27 = .ok (.iload_n 1, 1) := by decide +kernel
theorem dX12_flip_28 : decode cX12_flip 28 = .ok (.aaload, 1) := by decide +kernel
theorem dX12_flip_29 : decode cX12_flip 29 = .ok (.getfield 46, 3) := by decide +kernel
theorem dX12_flip_32 : decode cX12_flip 32 = .ok (.if_icmp .lt 13, 3) := by decide +kernel
theorem dX12_flip_35 : decode cX12_flip 35 = .ok (.new 204, 3) := by decide +kernel
theorem dX12_flip_38 : decode cX12_flip 38 = .ok (.dup, 1) := by decide +kernel
theorem dX12_flip_39 : decode cX12_flip 39 = .ok (.ldc 206, 2) := by decide +kernel
theorem dX12_flip_41 : decode cX12_flip 41 = .ok (.invokespecial 208, 3) := by decide +kernel
theorem dX12_flip_44 : decode cX12_flip 44 = .ok (.athrow, 1) := by decide +kernel
theorem dX12_flip_45 : decode cX12_flip 45 = .ok (.aload_n 0, 1) := by decide +kernel
theorem dX12_flip_46 : decode cX12_flip 46 = .ok (.getfield 18, 3) := by decide +kernel
theorem dX12_flip_49 : decode cX12_flip 49 = .ok (.iload_n 1, 1) := by decide +kernel
theorem dX12_flip_50 : decode cX12_flip 50 = .ok (.aaload, 1) := by decide +kernel
theorem dX12_flip_51 : decode cX12_flip 51 = .ok (.iload_n 2, 1) := by decide +kernel
theorem dX12_flip_52 : decode cX12_flip 52 = .ok (.invokevirtual 209, 3) := by decide +kernel
theorem dX12_flip_55 : decode cX12_flip 55 = .ok (.iload_n 3, 1) := by decide +kernel
theorem dX12_flip_56 : decode cX12_flip 56 = .ok (.ixor, 1) := by decide +kernel
theorem dX12_flip_57 : decode cX12_flip 57 = .ok (.sipush 255, 3) := by decide +kernel
theorem dX12_flip_60 : decode cX12_flip 60 = .ok (.iand, 1) := by decide +kernel
theorem dX12_flip_61 : decode cX12_flip 61 = .ok (.istore 4, 2) := by decide +kernel
theorem dX12_flip_63 : decode cX12_flip 63 = .ok (.aload_n 0, 1) := by decide +kernel
theorem dX12_flip_64 : decode cX12_flip 64 = .ok (.getfield 18, 3) := by decide +kernel
theorem dX12_flip_67 : decode cX12_flip 67 = .ok (.iload_n 1, 1) := by decide +kernel
theorem dX12_flip_68 : decode cX12_flip 68 = .ok (.aaload, 1) := by decide +kernel
theorem dX12_flip_69 : decode cX12_flip 69 = .ok (.iload_n 2, 1) := by decide +kernel
theorem dX12_flip_70 : decode cX12_flip 70 = .ok (.iload 4, 2) := by decide +kernel
theorem dX12_flip_72 : decode cX12_flip 72 = .ok (.invokevirtual 212, 3) := by decide +kernel
theorem dX12_flip_75 : decode cX12_flip 75 = .ok (.iload 4, 2) := by decide +kernel
theorem dX12_flip_77 : decode cX12_flip 77 = .ok (.ireturn, 1) := by decide +kernel
theorem dX12_seen_0 : decode cX12_seen 0 = .ok (.aload_n 0, 1) := by decide +kernel
theorem dX12_seen_1 : decode cX12_seen 1 = .ok (.iload_n 1, 1) := by decide +kernel
theorem dX12_seen_2 : decode cX12_seen 2 = .ok (.invokevirtual 129, 3) := by decide +kernel
theorem dX12_seen_5 : decode cX12_seen 5 = .ok (.ifnonnull 13, 3) := by decide +kernel
theorem dX12_seen_8 : decode cX12_seen 8 = .ok (.new 69, 3) := by decide +kernel
theorem dX12_seen_11 : decode cX12_seen 11 = .ok (.dup, 1) := by decide +kernel
theorem dX12_seen_12 : decode cX12_seen 12 = .ok (.ldc 177, 2) := by decide +kernel
theorem dX12_seen_14 : decode cX12_seen 14 = .ok (.invokespecial 73, 3) := by decide +kernel
theorem dX12_seen_17 : decode cX12_seen 17 = .ok (.athrow, 1) := by decide +kernel
theorem dX12_seen_18 : decode cX12_seen 18 = .ok (.iload_n 2, 1) := by decide +kernel
theorem dX12_seen_19 : decode cX12_seen 19 = .ok (.ifCond .lt 16, 3) := by decide +kernel
theorem dX12_seen_22 : decode cX12_seen 22 = .ok (.iload_n 2, 1) := by decide +kernel
theorem dX12_seen_23 : decode cX12_seen 23 = .ok (.aload_n 0, 1) := by decide +kernel
theorem dX12_seen_24 : decode cX12_seen 24 = .ok (.getfield 18, 3) := by decide +kernel
theorem dX12_seen_27 : decode cX12_seen 27 = .ok (.iload_n 1, 1) := by decide +kernel
theorem dX12_seen_28 : decode cX12_seen 28 = .ok (.aaload, 1) := by decide +kernel
theorem dX12_seen_29 : decode cX12_seen 29 = .ok (.getfield 46, 3) := by decide +kernel
theorem dX12_seen_32 : decode cX12_seen 32 = .ok (.if_icmp .lt 13, 3) := by decide +kernel
theorem dX12_seen_35 : decode cX12_seen 35 = .ok (.new 204, 3) := by decide +kernel
theorem dX12_seen_38 : decode cX12_seen 38 = .ok (.dup, 1) := by decide +kernel
theorem dX12_seen_39 : decode cX12_seen 39 = .ok (.ldc 206, 2) := by decide +kernel
theorem dX12_seen_41 : decode cX12_seen 41 = .ok (.invokespecial 208, 3) := by decide +kernel
theorem dX12_seen_44 : decode cX12_seen 44 = .ok (.athrow, 1) := by decide +kernel
theorem dX12_seen_45 : decode cX12_seen 45 = .ok (.aload_n 0, 1) := by decide +kernel
theorem dX12_seen_46 : decode cX12_seen 46 = .ok (.getfield 18, 3) := by decide +kernel
theorem dX12_seen_49 : decode cX12_seen 49 = .ok (.iload_n 1, 1) := by decide +kernel
theorem dX12_seen_50 : decode cX12_seen 50 = .ok (.aaload, 1) := by decide +kernel
theorem dX12_seen_51 : decode cX12_seen 51 = .ok (.iload_n 2, 1) := by decide +kernel
theorem dX12_seen_52 : decode cX12_seen 52 = .ok (.invokevirtual 209, 3) := by decide +kernel
theorem dX12_seen_55 : decode cX12_seen 55 = .ok (.ireturn, 1) := by decide +kernel
theorem dX12_inject_0 : decode cX12_inject 0 = .ok (.aload_n 0, 1) := by decide +kernel
theorem dX12_inject_1 : decode cX12_inject 1 = .ok (.iload_n 1, 1) := by decide +kernel
theorem dX12_inject_2 : decode cX12_inject 2 = .ok (.invokevirtual 129, 3) := by decide +kernel
theorem dX12_inject_5 : decode cX12_inject 5 = .ok (.ifnonnull 13, 3) := by decide +kernel
theorem dX12_inject_8 : decode cX12_inject 8 = .ok (.new 69, 3) := by decide +kernel
theorem dX12_inject_11 : decode cX12_inject 11 = .ok (.dup, 1) := by decide +kernel
theorem dX12_inject_12 : decode cX12_inject 12 = .ok (.ldc 177, 2) := by decide +kernel
theorem dX12_inject_14 : decode cX12_inject 14 = .ok (.invokespecial 73, 3) := by decide +kernel
theorem dX12_inject_17 : decode cX12_inject 17 = .ok (.athrow, 1) := by decide +kernel
theorem dX12_inject_18 : decode cX12_inject 18 = .ok (.aload_n 0, 1) := by decide +kernel
theorem dX12_inject_19 : decode cX12_inject 19 = .ok (.getfield 18, 3) := by decide +kernel
theorem dX12_inject_22 : decode cX12_inject 22 = .ok (.iload_n 1, 1) := by decide +kernel
theorem dX12_inject_23 : decode cX12_inject 23 = .ok (.aaload, 1) := by decide +kernel
theorem dX12_inject_24 : decode cX12_inject 24 = .ok (.getfield 46, 3) := by decide +kernel
theorem dX12_inject_27 : decode cX12_inject 27 = .ok (.aload_n 0, 1) := by decide +kernel
theorem dX12_inject_28 : decode cX12_inject 28 = .ok (.getfield 12, 3) := by decide +kernel
theorem dX12_inject_31 : decode cX12_inject 31 = .ok (.getfield 46, 3) := by decide +kernel
theorem dX12_inject_34 : decode cX12_inject 34 = .ok (.iadd, 1) := by decide +kernel
theorem dX12_inject_35 : decode cX12_inject 35 = .ok (.ldc 215, 2) := by decide +kernel
theorem dX12_inject_37 : decode cX12_inject 37 = .ok (.if_icmp .le 13, 3) := by decide +kernel
theorem dX12_inject_40 : decode cX12_inject 40 = .ok (.new 51, 3) := by decide +kernel
theorem dX12_inject_43 : decode cX12_inject 43 = .ok (.dup, 1) := by decide +kernel
theorem dX12_inject_44 : decode cX12_inject 44 = .ok (.ldc 216, 2) := by decide +kernel
theorem dX12_inject_46 : decode cX12_inject 46 = .ok (.invokespecial 55, 3) := by decide +kernel
theorem dX12_inject_49 : decode cX12_inject 49 = .ok (.athrow, 1) := by decide +kernel
theorem dX12_inject_50 : decode cX12_inject 50 = .ok (.aload_n 0, 1) := by decide +kernel
theorem dX12_inject_51 : decode cX12_inject 51 = .ok (.getfield 18, 3) := by decide +kernel
theorem dX12_inject_54 : decode cX12_inject 54 = .ok (.iload_n 1, 1) := by decide +kernel
theorem dX12_inject_55 : decode cX12_inject 55 = .ok (.aaload, 1) := by decide +kernel
theorem dX12_inject_56 : decode cX12_inject 56 = .ok (.aload_n 0, 1) := by decide +kernel
theorem dX12_inject_57 : decode cX12_inject 57 = .ok (.getfield 12, 3) := by decide +kernel
theorem dX12_inject_60 : decode cX12_inject 60 = .ok (.invokevirtual 218, 3) := by decide +kernel
theorem dX12_inject_63 : decode cX12_inject 63 = .ok (.aload_n 0, 1) := by decide +kernel
theorem dX12_inject_64 : decode cX12_inject 64 = .ok (.getfield 12, 3) := by decide +kernel
theorem dX12_inject_67 : decode cX12_inject 67 = .ok (.invokevirtual 99, 3) := by decide +kernel
theorem dX12_inject_70 : decode cX12_inject 70 = .ok (.aload_n 0, 1) := by decide +kernel
theorem dX12_inject_71 : decode cX12_inject 71 = .ok (.getfield 18, 3) := by decide +kernel
theorem dX12_inject_74 : decode cX12_inject 74 = .ok (.iload_n 1, 1) := by decide +kernel
theorem dX12_inject_75 : decode cX12_inject 75 = .ok (.aaload, 1) := by decide +kernel
theorem dX12_inject_76 : decode cX12_inject 76 = .ok (.getfield 46, 3) := by decide +kernel
theorem dX12_inject_79 : decode cX12_inject 79 = .ok (.ireturn, 1) := by decide +kernel
theorem dX12_open_0 : decode cX12_open 0 = .ok (.iload_n 1, 1) := by decide +kernel
theorem dX12_open_1 : decode cX12_open 1 = .ok (.ifCond .lt 26, 3) := by decide +kernel
theorem dX12_open_4 : decode cX12_open 4 = .ok (.iload_n 1, 1) := by decide +kernel
theorem dX12_open_5 : decode cX12_open 5 = .ok (.ldc 221, 2) := by decide +kernel
theorem dX12_open_7 : decode cX12_open 7 = .ok (.if_icmp .gt 20, 3) := by decide +kernel
theorem dX12_open_10 : decode cX12_open 10 = .ok (.iload_n 1, 1) := by decide +kernel
theorem dX12_open_11 : decode cX12_open 11 = .ok (.ifCond .eq 26, 3) := by decide +kernel
theorem dX12_open_14 : decode cX12_open 14 = .ok (.aload_n 0, 1) := by decide +kernel
theorem dX12_open_15 : decode cX12_open 15 = .ok (.getfield 12, 3) := by decide +kernel
theorem dX12_open_18 : decode cX12_open 18 = .ok (.getfield 46, 3) := by decide +kernel
theorem dX12_open_21 : decode cX12_open 21 = .ok (.sipush 255, 3) := by decide +kernel
theorem dX12_open_24 : decode cX12_open 24 = .ok (.if_icmp .le 13, 3) := by decide +kernel
theorem dX12_open_27 : decode cX12_open 27 = .ok (.new 61, 3) := by decide +kernel
theorem dX12_open_30 : decode cX12_open 30 = .ok (.dup, 1) := by decide +kernel
theorem dX12_open_31 : decode cX12_open 31 = .ok (.ldc 222, 2) := by decide +kernel
theorem dX12_open_33 : decode cX12_open 33 = .ok (.invokespecial 65, 3) := by decide +kernel
theorem dX12_open_36 : decode cX12_open 36 = .ok (.athrow, 1) := by decide +kernel
theorem dX12_open_37 : decode cX12_open 37 = .ok (.aload_n 0, 1) := by decide +kernel
theorem dX12_open_38 : decode cX12_open 38 = .ok (.getfield 35, 3) := by decide +kernel
theorem dX12_open_41 : decode cX12_open 41 = .ok (.getfield 224, 3) := by decide +kernel
theorem dX12_open_44 : decode cX12_open 44 = .ok (.iconst 1, 1) := by decide +kernel
theorem dX12_open_45 : decode cX12_open 45 = .ok (.if_icmp .ne 24, 3) := by decide +kernel
theorem dX12_open_48 : decode cX12_open 48 = .ok (.aload_n 0, 1) := by decide +kernel
theorem dX12_open_49 : decode cX12_open 49 = .ok (.getfield 35, 3) := by decide +kernel
theorem dX12_open_52 : decode cX12_open 52 = .ok (.getfield 227, 3) := by decide +kernel
theorem dX12_open_55 : decode cX12_open 55 = .ok (.ifCond .eq 14, 3) := by decide +kernel
theorem dX12_open_58 : decode cX12_open 58 = .ok (.aload_n 0, 1) := by decide +kernel
theorem dX12_open_59 : decode cX12_open 59 = .ok (.getfield 35, 3) := by decide +kernel
theorem dX12_open_62 : decode cX12_open 62 = .ok (.invokevirtual 231, 3) := by decide +kernel
theorem dX12_open_65 : decode cX12_open 65 = .ok (.iconst (-1), 1) := by decide +kernel
theorem dX12_open_66 : decode cX12_open 66 = .ok (.if_icmp .ne 13, 3) := by decide +kernel
theorem dX12_open_69 : decode cX12_open 69 = .ok (.new 51, 3) := by decide +kernel
theorem dX12_open_72 : decode cX12_open 72 = .ok (.dup, 1) := by decide +kernel
theorem dX12_open_73 : decode cX12_open 73 = .ok (.ldc 234, 2) := by decide +kernel
theorem dX12_open_75 : decode cX12_open 75 = .ok (.invokespecial 55, 3) := by decide +kernel
theorem dX12_open_78 : decode cX12_open 78 = .ok (.athrow, 1) := by decide +kernel
theorem dX12_open_79 : decode cX12_open 79 = .ok (.aload_n 0, 1) := by decide +kernel
theorem dX12_open_80 : decode cX12_open 80 = .ok (.getfield 35, 3) := by decide +kernel
theorem dX12_open_83 : decode cX12_open 83 = .ok (.iload_n 1, 1) := by decide +kernel
theorem dX12_open_84 : decode cX12_open 84 = .ok (.aload_n 0, 1) := by decide +kernel
theorem dX12_open_85 : decode cX12_open 85 = .ok (.getfield 12, 3) := by decide +kernel
theorem dX12_open_88 : decode cX12_open 88 = .ok (.invokevirtual 236, 3) := by decide +kernel
theorem dX12_open_91 : decode cX12_open 91 = .ok (.istore_n 2, 1) := by decide +kernel
theorem dX12_open_92 : decode cX12_open 92 = .ok (.aload_n 0, 1) := by decide +kernel
theorem dX12_open_93 : decode cX12_open 93 = .ok (.getfield 12, 3) := by decide +kernel
theorem dX12_open_96 : decode cX12_open 96 = .ok (.invokevirtual 99, 3) := by decide +kernel
theorem dX12_open_99 : decode cX12_open 99 = .ok (.iload_n 2, 1) := by decide +kernel
theorem dX12_open_100 : decode cX12_open 100 = .ok (.ireturn, 1) := by decide +kernel
theorem dX12_exec_0 : decode cX12_exec 0 = .ok (.aload_n 0, 1) := by decide +kernel
theorem dX12_exec_1 : decode cX12_exec 1 = .ok (.getfield 35, 3) := by decide +kernel
theorem dX12_exec_4 : decode cX12_exec 4 = .ok (.iload_n 1, 1) := by decide +kernel
theorem dX12_exec_5 : decode cX12_exec 5 = .ok (.invokevirtual 240, 3) := by decide +kernel
theorem dX12_exec_8 : decode cX12_exec 8 = .ok (.astore_n 2, 1) := by decide +kernel
theorem dX12_exec_9 : decode cX12_exec 9 = .ok (.aload_n 2, 1) := by decide +kernel
theorem dX12_exec_10 : decode cX12_exec 10 = .ok (.ifnonnull 13, 3) := by decide +kernel
theorem dX12_exec_13 : decode cX12_exec 13 = .ok (.new 69, 3) := by decide +kernel
theorem dX12_exec_16 : decode cX12_exec 16 = .ok (.dup, 1) := by decide +kernel
theorem dX12_exec_17 : decode cX12_exec 17 = .ok (.ldc 244, 2) := by decide +kernel
theorem dX12_exec_19 : decode cX12_exec 19 = .ok (.invokespecial 73, 3) := by decide +kernel
theorem dX12_exec_22 : decode cX12_exec 22 = .ok (.athrow, 1) := by decide +kernel
theorem dX12_exec_23 : decode cX12_exec 23 = .ok (.aload_n 0, 1) := by decide +kernel
theorem dX12_exec_24 : decode cX12_exec 24 = .ok (.getfield 12, 3) := by decide +kernel
theorem dX12_exec_27 : decode cX12_exec 27 = .ok (.getfield 46, 3) := by decide +kernel
theorem dX12_exec_30 : decode cX12_exec 30 = .ok (.sipush 1000, 3) := by decide +kernel
theorem dX12_exec_33 : decode cX12_exec 33 = .ok (.if_icmp .le 13, 3) := by decide +kernel
theorem dX12_exec_36 : decode cX12_exec 36 = .ok (.new 61, 3) := by decide +kernel
theorem dX12_exec_39 : decode cX12_exec 39 = .ok (.dup, 1) := by decide +kernel
theorem dX12_exec_40 : decode cX12_exec 40 = .ok (.ldc 246, 2) := by decide +kernel
theorem dX12_exec_42 : decode cX12_exec 42 = .ok (.invokespecial 65, 3) := by decide +kernel
theorem dX12_exec_45 : decode cX12_exec 45 = .ok (.athrow, 1) := by decide +kernel
theorem dX12_exec_46 : decode cX12_exec 46 = .ok (.aload_n 2, 1) := by decide +kernel
theorem dX12_exec_47 : decode cX12_exec 47 = .ok (.getfield 248, 3) := by decide +kernel
theorem dX12_exec_50 : decode cX12_exec 50 = .ok (.iconst 1, 1) := by decide +kernel
theorem dX12_exec_51 : decode cX12_exec 51 = .ok (.if_icmp .ne 24, 3) := by decide +kernel
theorem dX12_exec_54 : decode cX12_exec 54 = .ok (.aload_n 2, 1) := by decide +kernel
theorem dX12_exec_55 : decode cX12_exec 55 = .ok (.sipush 176, 3) := by decide +kernel
theorem dX12_exec_58 : decode cX12_exec 58 = .ok (.invokevirtual 251, 3) := by decide +kernel
theorem dX12_exec_61 : decode cX12_exec 61 = .ok (.ifCond .ne 14, 3) := by decide +kernel
theorem dX12_exec_64 : decode cX12_exec 64 = .ok (.aload_n 0, 1) := by decide +kernel
theorem dX12_exec_65 : decode cX12_exec 65 = .ok (.getfield 35, 3) := by decide +kernel
theorem dX12_exec_68 : decode cX12_exec 68 = .ok (.getfield 224, 3) := by decide +kernel
theorem dX12_exec_71 : decode cX12_exec 71 = .ok (.iconst 1, 1) := by decide +kernel
theorem dX12_exec_72 : decode cX12_exec 72 = .ok (.if_icmp .eq 13, 3) := by decide +kernel
theorem dX12_exec_75 : decode cX12_exec 75 = .ok (.new 51, 3) := by decide +kernel
theorem dX12_exec_78 : decode cX12_exec 78 = .ok (.dup, 1) := by decide +kernel
theorem dX12_exec_79 : decode cX12_exec 79 = .ok (.ldc 254, 2) := by decide +kernel
theorem dX12_exec_81 : decode cX12_exec 81 = .ok (.invokespecial 55, 3) := by decide +kernel
theorem dX12_exec_84 : decode cX12_exec 84 = .ok (.athrow, 1) := by decide +kernel
theorem dX12_exec_85 : decode cX12_exec 85 = .ok (.aload_n 0, 1) := by decide +kernel
theorem dX12_exec_86 : decode cX12_exec 86 = .ok (.getfield 35, 3) := by decide +kernel
theorem dX12_exec_89 : decode cX12_exec 89 = .ok (.aload_n 2, 1) := by decide +kernel
theorem dX12_exec_90 : decode cX12_exec 90 = .ok (.aload_n 0, 1) := by decide +kernel
theorem dX12_exec_91 : decode cX12_exec 91 = .ok (.getfield 12, 3) := by decide +kernel
theorem dX12_exec_94 : decode cX12_exec 94 = .ok (.invokevirtual 256, 3) := by decide +kernel
theorem dX12_exec_97 : decode cX12_exec 97 = .ok (.aload_n 0, 1) := by decide +kernel
theorem dX12_exec_98 : decode cX12_exec 98 = .ok (.getfield 12, 3) := by decide +kernel
theorem dX12_exec_101 : decode cX12_exec 101 = .ok (.invokevirtual 99, 3) := by decide +kernel
theorem dX12_exec_104 : decode cX12_exec 104 = .ok (.return_, 1) := by decide +kernel
theorem dX12_write_0 : decode cX12_write 0 = .ok (.iload_n 2, 1) := by decide +kernel
theorem dX12_write_1 : decode cX12_write 1 = .ok (.ifCond .eq 14, 3) := by decide +kernel
theorem dX12_write_4 : decode cX12_write 4 = .ok (.aload_n 0, 1) := by decide +kernel
theorem dX12_write_5 : decode cX12_write 5 = .ok (.getfield 42, 3) := by decide +kernel
theorem dX12_write_8 : decode cX12_write 8 = .ok (.iload_n 1, 1) := by decide +kernel
theorem dX12_write_9 : decode cX12_write 9 = .ok (.invokevirtual 260, 3) := by decide +kernel
theorem dX12_write_12 : decode cX12_write 12 = .ok (.goto 11, 3) := by decide +kernel
theorem dX12_write_15 : decode cX12_write 15 = .ok (.aload_n 0, 1) := by decide +kernel
theorem dX12_write_16 : decode cX12_write 16 = .ok (.getfield 35, 3) := by decide +kernel
theorem dX12_write_19 : decode cX12_write 19 = .ok (.iload_n 1, 1) := by decide +kernel
theorem dX12_write_20 : decode cX12_write 20 = .ok (.invokevirtual 240, 3) := by decide +kernel
theorem dX12_write_23 : decode cX12_write 23 = .ok (.astore_n 3, 1) := by decide +kernel
theorem dX12_write_24 : decode cX12_write 24 = .ok (.aload_n 3, 1) := by decide +kernel
theorem dX12_write_25 : decode cX12_write 25 = .ok (.ifnonnull 14, 3) := by decide +kernel
theorem dX12_write_28 : decode cX12_write 28 = .ok (.new 69, 3) := by decide +kernel
theorem dX12_write_31 : decode cX12_write 31 = .ok (.dup, 1) := by decide +kernel
theorem dX12_write_32 : decode cX12_write 32 = .ok (.ldc_w 263, 3) := by decide +kernel
theorem dX12_write_35 : decode cX12_write 35 = .ok (.invokespecial 73, 3) := by decide +kernel
theorem dX12_write_38 : decode cX12_write 38 = .ok (.athrow, 1) := by decide +kernel
theorem dX12_write_39 : decode cX12_write 39 = .ok (.aload_n 3, 1) := by decide +kernel
theorem dX12_write_40 : decode cX12_write 40 = .ok (.bipush 52, 2) := by decide +kernel
theorem dX12_write_42 : decode cX12_write 42 = .ok (.invokevirtual 251, 3) := by decide +kernel
theorem dX12_write_45 : decode cX12_write 45 = .ok (.ifCond .ne 24, 3) := by decide +kernel
theorem dX12_write_48 : decode cX12_write 48 = .ok (.aload_n 3, 1) := by decide +kernel
theorem dX12_write_49 : decode cX12_write 49 = .ok (.getfield 265, 3) := by decide +kernel
theorem dX12_write_52 : decode cX12_write 52 = .ok (.getfield 46, 3) := by decide +kernel
theorem dX12_write_55 : decode cX12_write 55 = .ok (.aload_n 0, 1) := by decide +kernel
theorem dX12_write_56 : decode cX12_write 56 = .ok (.getfield 12, 3) := by decide +kernel
theorem dX12_write_59 : decode cX12_write 59 = .ok (.getfield 46, 3) := by decide +kernel
theorem dX12_write_62 : decode cX12_write 62 = .ok (.iadd, 1) := by decide +kernel
theorem dX12_write_63 : decode cX12_write 63 = .ok (.sipush 16384, 3) := by decide +kernel
theorem dX12_write_66 : decode cX12_write 66 = .ok (.if_icmp .le 14, 3) := by decide +kernel
theorem dX12_write_69 : decode cX12_write 69 = .ok (.new 51, 3) := by decide +kernel
theorem dX12_write_72 : decode cX12_write 72 = .ok (.dup, 1) := by decide +kernel
theorem dX12_write_73 : decode cX12_write 73 = .ok (.ldc_w 268, 3) := by decide +kernel
theorem dX12_write_76 : decode cX12_write 76 = .ok (.invokespecial 55, 3) := by decide +kernel
theorem dX12_write_79 : decode cX12_write 79 = .ok (.athrow, 1) := by decide +kernel
theorem dX12_write_80 : decode cX12_write 80 = .ok (.aload_n 3, 1) := by decide +kernel
theorem dX12_write_81 : decode cX12_write 81 = .ok (.getfield 265, 3) := by decide +kernel
theorem dX12_write_84 : decode cX12_write 84 = .ok (.aload_n 0, 1) := by decide +kernel
theorem dX12_write_85 : decode cX12_write 85 = .ok (.getfield 12, 3) := by decide +kernel
theorem dX12_write_88 : decode cX12_write 88 = .ok (.invokevirtual 218, 3) := by decide +kernel
theorem dX12_write_91 : decode cX12_write 91 = .ok (.aload_n 0, 1) := by decide +kernel
theorem dX12_write_92 : decode cX12_write 92 = .ok (.getfield 12, 3) := by decide +kernel
theorem dX12_write_95 : decode cX12_write 95 = .ok (.invokevirtual 99, 3) := by decide +kernel
theorem dX12_write_98 : decode cX12_write 98 = .ok (.iload_n 2, 1) := by decide +kernel
theorem dX12_write_99 : decode cX12_write 99 = .ok (.ifCond .eq 13, 3) := by decide +kernel
theorem dX12_write_102 : decode cX12_write 102 = .ok (.aload_n 0, 1) := by decide +kernel
theorem dX12_write_103 : decode cX12_write 103 = .ok (.getfield 42, 3) := by decide +kernel
theorem dX12_write_106 : decode cX12_write 106 = .ok (.invokevirtual 270, 3) := by decide +kernel
theorem dX12_write_109 : decode cX12_write 109 = .ok (.goto 10, 3) := by decide +kernel
theorem dX12_write_112 : decode cX12_write 112 = .ok (.aload_n 0, 1) := by decide +kernel
theorem dX12_write_113 : decode cX12_write 113 = .ok (.getfield 35, 3) := by decide +kernel
theorem dX12_write_116 : decode cX12_write 116 = .ok (.invokevirtual 271, 3) := by decide +kernel
theorem dX12_write_119 : decode cX12_write 119 = .ok (.aload_n 3, 1) := by decide +kernel
theorem dX12_write_120 : decode cX12_write 120 = .ok (.getfield 265, 3) := by decide +kernel
theorem dX12_write_123 : decode cX12_write 123 = .ok (.getfield 46, 3) := by decide +kernel
theorem dX12_write_126 : decode cX12_write 126 = .ok (.ireturn, 1) := by decide +kernel
theorem dX12_read_0 : decode cX12_read 0 = .ok (.iload_n 2, 1) := by decide +kernel
theorem dX12_read_1 : decode cX12_read 1 = .ok (.ifCond .lt 8, 3) := by decide +kernel
theorem dX12_read_4 : decode cX12_read 4 = .ok (.iload_n 2, 1) := by decide +kernel
theorem dX12_read_5 : decode cX12_read 5 = .ok (.iconst 2, 1) := by decide +kernel
theorem dX12_read_6 : decode cX12_read 6 = .ok (.if_icmp .le 14, 3) := by decide +kernel
theorem dX12_read_9 : decode cX12_read 9 = .ok (.new 69, 3) := by decide +kernel
theorem dX12_read_12 : decode cX12_read 12 = .ok (.dup, 1) := by decide +kernel
theorem dX12_read_13 : decode cX12_read 13 = .ok (.ldc_w 272, 3) := by decide +kernel
theorem dX12_read_16 : decode cX12_read 16 = .ok (.invokespecial 73, 3) := by decide +kernel
theorem dX12_read_19 : decode cX12_read 19 = .ok (.athrow, 1) := by decide +kernel
theorem dX12_read_20 : decode cX12_read 20 = .ok (.iload_n 2, 1) := by decide +kernel
theorem dX12_read_21 : decode cX12_read 21 = .ok (.iconst 2, 1) := by decide +kernel
theorem dX12_read_22 : decode cX12_read 22 = .ok (.if_icmp .ne 14, 3) := by decide +kernel
theorem dX12_read_25 : decode cX12_read 25 = .ok (.aload_n 0, 1) := by decide +kernel
theorem dX12_read_26 : decode cX12_read 26 = .ok (.getfield 42, 3) := by decide +kernel
theorem dX12_read_29 : decode cX12_read 29 = .ok (.iload_n 1, 1) := by decide +kernel
theorem dX12_read_30 : decode cX12_read 30 = .ok (.invokevirtual 260, 3) := by decide +kernel
theorem dX12_read_33 : decode cX12_read 33 = .ok (.goto 11, 3) := by decide +kernel
theorem dX12_read_36 : decode cX12_read 36 = .ok (.aload_n 0, 1) := by decide +kernel
theorem dX12_read_37 : decode cX12_read 37 = .ok (.getfield 35, 3) := by decide +kernel
theorem dX12_read_40 : decode cX12_read 40 = .ok (.iload_n 1, 1) := by decide +kernel
theorem dX12_read_41 : decode cX12_read 41 = .ok (.invokevirtual 274, 3) := by decide +kernel
theorem dX12_read_44 : decode cX12_read 44 = .ok (.astore 4, 2) := by decide +kernel
theorem dX12_read_46 : decode cX12_read 46 = .ok (.aload 4, 2) := by decide +kernel
theorem dX12_read_48 : decode cX12_read 48 = .ok (.ifnonnull 14, 3) := by decide +kernel
theorem dX12_read_51 : decode cX12_read 51 = .ok (.new 69, 3) := by decide +kernel
theorem dX12_read_54 : decode cX12_read 54 = .ok (.dup, 1) := by decide +kernel
theorem dX12_read_55 : decode cX12_read 55 = .ok (.ldc_w 263, 3) := by decide +kernel
theorem dX12_read_58 : decode cX12_read 58 = .ok (.invokespecial 73, 3) := by decide +kernel
theorem dX12_read_61 : decode cX12_read 61 = .ok (.athrow, 1) := by decide +kernel
theorem dX12_read_62 : decode cX12_read 62 = .ok (.iload_n 3, 1) := by decide +kernel
theorem dX12_read_63 : decode cX12_read 63 = .ok (.iconst 1, 1) := by decide +kernel
theorem dX12_read_64 : decode cX12_read 64 = .ok (.if_icmp .lt 9, 3) := by decide +kernel
theorem dX12_read_67 : decode cX12_read 67 = .ok (.iload_n 3, 1) := by decide +kernel
theorem dX12_read_68 : decode cX12_read 68 = .ok (.bipush 7, 2) := by decide +kernel
theorem dX12_read_70 : decode cX12_read 70 = .ok (.if_icmp .le 14, 3) := by decide +kernel
theorem dX12_read_73 : decode cX12_read 73 = .ok (.new 61, 3) := by decide +kernel
theorem dX12_read_76 : decode cX12_read 76 = .ok (.dup, 1) := by decide +kernel
theorem dX12_read_77 : decode cX12_read 77 = .ok (.ldc_w 277, 3) := by decide +kernel
theorem dX12_read_80 : decode cX12_read 80 = .ok (.invokespecial 65, 3) := by decide +kernel
theorem dX12_read_83 : decode cX12_read 83 = .ok (.athrow, 1) := by decide +kernel
theorem dX12_read_84 : decode cX12_read 84 = .ok (.iload_n 2, 1) := by decide +kernel
theorem dX12_read_85 : decode cX12_read 85 = .ok (.iconst 1, 1) := by decide +kernel
theorem dX12_read_86 : decode cX12_read 86 = .ok (.if_icmp .ne 11, 3) := by decide +kernel
theorem dX12_read_89 : decode cX12_read 89 = .ok (.aload 4, 2) := by decide +kernel
theorem dX12_read_91 : decode cX12_read 91 = .ok (.getfield 279, 3) := by decide +kernel
theorem dX12_read_94 : decode cX12_read 94 = .ok (.goto 8, 3) := by decide +kernel
theorem dX12_read_97 : decode cX12_read 97 = .ok (.aload 4, 2) := by decide +kernel
theorem dX12_read_99 : decode cX12_read 99 = .ok (.getfield 282, 3) := by decide +kernel
theorem dX12_read_102 : decode cX12_read 102 = .ok (.astore 5, 2) := by decide +kernel
theorem dX12_read_104 : decode cX12_read 104 = .ok (.iload_n 3, 1) := by decide +kernel
theorem dX12_read_105 : decode cX12_read 105 = .ok (.aload 5, 2) := by decide +kernel
theorem dX12_read_107 : decode cX12_read 107 = .ok (.getfield 46, 3) := by decide +kernel
theorem dX12_read_110 : decode cX12_read 110 = .ok (.invokestatic 181, 3) := by decide +kernel
theorem dX12_read_113 : decode cX12_read 113 = .ok (.istore 6, 2) := by decide +kernel
theorem dX12_read_115 : decode cX12_read 115 = .ok (.lconst 0, 1) := by decide +kernel
theorem dX12_read_116 : decode cX12_read 116 = .ok (.lstore 7, 2) := by decide +kernel
theorem dX12_read_118 : decode cX12_read 118 = .ok (.iconst 0, 1) := by decide +kernel
theorem dX12_read_119 : decode cX12_read 119 = .ok (.istore 9, 2) := by decide +kernel
theorem dX12_read_121 : decode cX12_read 121 = .ok (.iload 9, 2) := by decide +kernel
theorem dX12_read_123 : decode cX12_read 123 = .ok (.iload 6, 2) := by decide +kernel
theorem dX12_read_125 : decode cX12_read 125 = .ok (.if_icmp .ge 23, 3) := by decide +kernel
theorem dX12_read_128 : decode cX12_read 128 = .ok (.lload 7, 2) := by decide +kernel
theorem dX12_read_130 : decode cX12_read 130 = .ok (.bipush 8, 2) := by decide +kernel
theorem dX12_read_132 : decode cX12_read 132 = .ok (.lshl, 1) := by decide +kernel
theorem dX12_read_133 : decode cX12_read 133 = .ok (.aload 5, 2) := by decide +kernel
theorem dX12_read_135 : decode cX12_read 135 = .ok (.invokevirtual 187, 3) := by decide +kernel
theorem dX12_read_138 : decode cX12_read 138 = .ok (.i2l, 1) := by decide +kernel
theorem dX12_read_139 : decode cX12_read 139 = .ok (.lor, 1) := by decide +kernel
theorem dX12_read_140 : decode cX12_read 140 = .ok (.lstore 7, 2) := by decide +kernel
theorem dX12_read_142 : decode cX12_read 142 = .ok (.iinc 9 1, 3) := by decide +kernel
theorem dX12_read_145 : decode cX12_read 145 = .ok (.goto (-24), 3) := by decide +kernel
theorem dX12_read_148 : decode cX12_read 148 = .ok (.iload 6, 2) := by decide +kernel
theorem dX12_read_150 : decode cX12_read 150 = .ok (.ifCond .le 20, 3) := by decide +kernel
theorem dX12_read_153 : decode cX12_read 153 = .ok (.iload_n 2, 1) := by decide +kernel
theorem dX12_read_154 : decode cX12_read 154 = .ok (.iconst 2, 1) := by decide +kernel
theorem dX12_read_155 : decode cX12_read 155 = .ok (.if_icmp .ne 15, 3) := by decide +kernel
theorem dX12_read_158 : decode cX12_read 158 = .ok (.aload_n 0, 1) := by decide +kernel
theorem dX12_read_159 : decode cX12_read 159 = .ok (.getfield 42, 3) := by decide +kernel
theorem dX12_read_162 : decode cX12_read 162 = .ok (.aload 4, 2) := by decide +kernel
theorem dX12_read_164 : decode cX12_read 164 = .ok (.invokevirtual 285, 3) := by decide +kernel
theorem dX12_read_167 : decode cX12_read 167 = .ok (.goto 17, 3) := by decide +kernel
theorem dX12_read_170 : decode cX12_read 170 = .ok (.iload 6, 2) := by decide +kernel
theorem dX12_read_172 : decode cX12_read 172 = .ok (.ifCond .le 12, 3) := by decide +kernel
theorem dX12_read_175 : decode cX12_read 175 = .ok (.aload_n 0, 1) := by decide +kernel
theorem dX12_read_176 : decode cX12_read 176 = .ok (.getfield 35, 3) := by decide +kernel
theorem dX12_read_179 : decode cX12_read 179 = .ok (.aload 4, 2) := by decide +kernel
theorem dX12_read_181 : decode cX12_read 181 = .ok (.invokevirtual 289, 3) := by decide +kernel
theorem dX12_read_184 : decode cX12_read 184 = .ok (.iload 6, 2) := by decide +kernel
theorem dX12_read_186 : decode cX12_read 186 = .ok (.i2l, 1) := by decide +kernel
theorem dX12_read_187 : decode cX12_read 187 = .ok (.bipush 56, 2) := by decide +kernel
theorem dX12_read_189 : decode cX12_read 189 = .ok (.lshl, 1) := by decide +kernel
theorem dX12_read_190 : decode cX12_read 190 = .ok (.lload 7, 2) := by decide +kernel
theorem dX12_read_192 : decode cX12_read 192 = .ok (.lor, 1) := by decide +kernel
theorem dX12_read_193 : decode cX12_read 193 = .ok (.lreturn, 1) := by decide +kernel
theorem dX12_finish_0 : decode cX12_finish 0 = .ok (.iload_n 2, 1) := by decide +kernel
theorem dX12_finish_1 : decode cX12_finish 1 = .ok (.ifCond .lt 8, 3) := by decide +kernel
theorem dX12_finish_4 : decode cX12_finish 4 = .ok (.iload_n 2, 1) := by decide +kernel
theorem dX12_finish_5 : decode cX12_finish 5 = .ok (.iconst 2, 1) := by decide +kernel
theorem dX12_finish_6 : decode cX12_finish 6 = .ok (.if_icmp .le 14, 3) := by decide +kernel
theorem dX12_finish_9 : decode cX12_finish 9 = .ok (.new 69, 3) := by decide +kernel
theorem dX12_finish_12 : decode cX12_finish 12 = .ok (.dup, 1) := by decide +kernel
theorem dX12_finish_13 : decode cX12_finish 13 = .ok (.ldc_w 290, 3) := by decide +kernel
theorem dX12_finish_16 : decode cX12_finish 16 = .ok (.invokespecial 73, 3) := by decide +kernel
theorem dX12_finish_19 : decode cX12_finish 19 = .ok (.athrow, 1) := by decide +kernel
theorem dX12_finish_20 : decode cX12_finish 20 = .ok (.iload_n 2, 1) := by decide +kernel
theorem dX12_finish_21 : decode cX12_finish 21 = .ok (.iconst 2, 1) := by decide +kernel
theorem dX12_finish_22 : decode cX12_finish 22 = .ok (.if_icmp .ne 14, 3) := by decide +kernel
theorem dX12_finish_25 : decode cX12_finish 25 = .ok (.aload_n 0, 1) := by decide +kernel
theorem dX12_finish_26 : decode cX12_finish 26 = .ok (.getfield 42, 3) := by decide +kernel
theorem dX12_finish_29 : decode cX12_finish 29 = .ok (.iload_n 1, 1) := by decide +kernel
theorem dX12_finish_30 : decode cX12_finish 30 = .ok (.invokevirtual 260, 3) := by decide +kernel
theorem dX12_finish_33 : decode cX12_finish 33 = .ok (.goto 11, 3) := by decide +kernel
theorem dX12_finish_36 : decode cX12_finish 36 = .ok (.aload_n 0, 1) := by decide +kernel
theorem dX12_finish_37 : decode cX12_finish 37 = .ok (.getfield 35, 3) := by decide +kernel
theorem dX12_finish_40 : decode cX12_finish 40 = .ok (.iload_n 1, 1) := by decide +kernel
theorem dX12_finish_41 : decode cX12_finish 41 = .ok (.invokevirtual 240, 3) := by decide +kernel
theorem dX12_finish_44 : decode cX12_finish 44 = .ok (.astore_n 3, 1) := by decide +kernel
theorem dX12_finish_45 : decode cX12_finish 45 = .ok (.aload_n 3, 1) := by decide +kernel
theorem dX12_finish_46 : decode cX12_finish 46 = .ok (.ifnonnull 14, 3) := by decide +kernel
theorem dX12_finish_49 : decode cX12_finish 49 = .ok (.new 69, 3) := by decide +kernel
theorem dX12_finish_52 : decode cX12_finish 52 = .ok (.dup, 1) := by decide +kernel
theorem dX12_finish_53 : decode cX12_finish 53 = .ok (.ldc_w 263, 3) := by decide +kernel
theorem dX12_finish_56 : decode cX12_finish 56 = .ok (.invokespecial 73, 3) := by decide +kernel
theorem dX12_finish_59 : decode cX12_finish 59 = .ok (.athrow, 1) := by decide +kernel
theorem dX12_finish_60 : decode cX12_finish 60 = .ok (.iload_n 2, 1) := by decide +kernel
theorem dX12_finish_61 : decode cX12_finish 61 = .ok (.iconst 1, 1) := by decide +kernel
theorem dX12_finish_62 : decode cX12_finish 62 = .ok (.if_icmp .eq 11, 3) := by decide +kernel
theorem dX12_finish_65 : decode cX12_finish 65 = .ok (.aload_n 3, 1) := by decide +kernel
theorem dX12_finish_66 : decode cX12_finish 66 = .ok (.iconst 4, 1) := by decide +kernel
theorem dX12_finish_67 : decode cX12_finish 67 = .ok (.invokevirtual 251, 3) := by decide +kernel
theorem dX12_finish_70 : decode cX12_finish 70 = .ok (.ifCond .ne 17, 3) := by decide +kernel
theorem dX12_finish_73 : decode cX12_finish 73 = .ok (.iload_n 2, 1) := by decide +kernel
theorem dX12_finish_74 : decode cX12_finish 74 = .ok (.iconst 2, 1) := by decide +kernel
theorem dX12_finish_75 : decode cX12_finish 75 = .ok (.if_icmp .eq 23, 3) := by decide +kernel
theorem dX12_finish_78 : decode cX12_finish 78 = .ok (.aload_n 3, 1) := by decide +kernel
theorem dX12_finish_79 : decode cX12_finish 79 = .ok (.bipush 16, 2) := by decide +kernel
theorem dX12_finish_81 : decode cX12_finish 81 = .ok (.invokevirtual 251, 3) := by decide +kernel
theorem dX12_finish_84 : decode cX12_finish 84 = .ok (.ifCond .eq 14, 3) := by decide +kernel
theorem dX12_finish_87 : decode cX12_finish 87 = .ok (.new 51, 3) := by decide +kernel
theorem dX12_finish_90 : decode cX12_finish 90 = .ok (.dup, 1) := by decide +kernel
theorem dX12_finish_91 : decode cX12_finish 91 = .ok (.ldc_w 292, 3) := by decide +kernel
theorem dX12_finish_94 : decode cX12_finish 94 = .ok (.invokespecial 55, 3) := by decide +kernel
theorem dX12_finish_97 : decode cX12_finish 97 = .ok (.athrow, 1) := by decide +kernel
theorem dX12_finish_98 : decode cX12_finish 98 = .ok (.iload_n 2, 1) := by decide +kernel
theorem dX12_finish_99 : decode cX12_finish 99 = .ok (.iconst 1, 1) := by decide +kernel
theorem dX12_finish_100 : decode cX12_finish 100 = .ok (.if_icmp .ne 19, 3) := by decide +kernel
theorem dX12_finish_103 : decode cX12_finish 103 = .ok (.aload_n 3, 1) := by decide +kernel
theorem dX12_finish_104 : decode cX12_finish 104 = .ok (.bipush 16, 2) := by decide +kernel
theorem dX12_finish_106 : decode cX12_finish 106 = .ok (.invokevirtual 294, 3) := by decide +kernel
theorem dX12_finish_109 : decode cX12_finish 109 = .ok (.aload_n 3, 1) := by decide +kernel
theorem dX12_finish_110 : decode cX12_finish 110 = .ok (.getfield 265, 3) := by decide +kernel
theorem dX12_finish_113 : decode cX12_finish 113 = .ok (.invokevirtual 99, 3) := by decide +kernel
theorem dX12_finish_116 : decode cX12_finish 116 = .ok (.goto 8, 3) := by decide +kernel
theorem dX12_finish_119 : decode cX12_finish 119 = .ok (.aload_n 3, 1) := by decide +kernel
theorem dX12_finish_120 : decode cX12_finish 120 = .ok (.iconst 4, 1) := by decide +kernel
theorem dX12_finish_121 : decode cX12_finish 121 = .ok (.invokevirtual 294, 3) := by decide +kernel
theorem dX12_finish_124 : decode cX12_finish 124 = .ok (.iload_n 2, 1) := by decide +kernel
theorem dX12_finish_125 : decode cX12_finish 125 = .ok (.iconst 2, 1) := by decide +kernel
theorem dX12_finish_126 : decode cX12_finish 126 = .ok (.if_icmp .ne 13, 3) := by decide +kernel
theorem dX12_finish_129 : decode cX12_finish 129 = .ok (.aload_n 0, 1) := by decide +kernel
theorem dX12_finish_130 : decode cX12_finish 130 = .ok (.getfield 42, 3) := by decide +kernel
theorem dX12_finish_133 : decode cX12_finish 133 = .ok (.invokevirtual 270, 3) := by decide +kernel
theorem dX12_finish_136 : decode cX12_finish 136 = .ok (.goto 10, 3) := by decide +kernel
theorem dX12_finish_139 : decode cX12_finish 139 = .ok (.aload_n 0, 1) := by decide +kernel
theorem dX12_finish_140 : decode cX12_finish 140 = .ok (.getfield 35, 3) := by decide +kernel
theorem dX12_finish_143 : decode cX12_finish 143 = .ok (.invokevirtual 271, 3) := by decide +kernel
theorem dX12_finish_146 : decode cX12_finish 146 = .ok (.return_, 1) := by decide +kernel
theorem dX12_rekey_0 : decode cX12_rekey 0 = .ok (.aload_n 0, 1) := by decide +kernel
theorem dX12_rekey_1 : decode cX12_rekey 1 = .ok (.iload_n 1, 1) := by decide +kernel
theorem dX12_rekey_2 : decode cX12_rekey 2 = .ok (.invokevirtual 129, 3) := by decide +kernel
theorem dX12_rekey_5 : decode cX12_rekey 5 = .ok (.astore_n 2, 1) := by decide +kernel
theorem dX12_rekey_6 : decode cX12_rekey 6 = .ok (.aload_n 2, 1) := by decide +kernel
theorem dX12_rekey_7 : decode cX12_rekey 7 = .ok (.ifnonnull 13, 3) := by decide +kernel
theorem dX12_rekey_10 : decode cX12_rekey 10 = .ok (.new 69, 3) := by decide +kernel
theorem dX12_rekey_13 : decode cX12_rekey 13 = .ok (.dup, 1) := by decide +kernel
theorem dX12_rekey_14 : decode cX12_rekey 14 = .ok (.ldc 177, 2) := by decide +kernel
theorem dX12_rekey_16 : decode cX12_rekey 16 = .ok (.invokespecial 73, 3) := by decide +kernel
theorem dX12_rekey_19 : decode cX12_rekey 19 = .ok (.athrow, 1) := by decide +kernel
theorem dX12_rekey_20 : decode cX12_rekey 20 = .ok (.aload_n 2, 1) := by decide +kernel
theorem dX12_rekey_21 : decode cX12_rekey 21 = .ok (.getfield 297, 3) := by decide +kernel
theorem dX12_rekey_24 : decode cX12_rekey 24 = .ok (.iconst 1, 1) := by decide +kernel
theorem dX12_rekey_25 : decode cX12_rekey 25 = .ok (.if_icmp .ne 23, 3) := by decide +kernel
theorem dX12_rekey_28 : decode cX12_rekey 28 = .ok (.aload_n 2, 1) := by decide +kernel
theorem dX12_rekey_29 : decode cX12_rekey 29 = .ok (.getfield 147, 3) := by decide +kernel
theorem dX12_rekey_32 : decode cX12_rekey 32 = .ok (.getfield 298, 3) := by decide +kernel
theorem dX12_rekey_35 : decode cX12_rekey 35 = .ok (.ifCond .eq 13, 3) := by decide +kernel
theorem dX12_rekey_38 : decode cX12_rekey 38 = .ok (.aload_n 2, 1) := by decide +kernel
theorem dX12_rekey_39 : decode cX12_rekey 39 = .ok (.getfield 147, 3) := by decide +kernel
theorem dX12_rekey_42 : decode cX12_rekey 42 = .ok (.getfield 301, 3) := by decide +kernel
theorem dX12_rekey_45 : decode cX12_rekey 45 = .ok (.ifCond .eq 14, 3) := by decide +kernel
theorem dX12_rekey_48 : decode cX12_rekey 48 = .ok (.new 51, 3) := by decide +kernel
theorem dX12_rekey_51 : decode cX12_rekey 51 = .ok (.dup, 1) := by decide +kernel
theorem dX12_rekey_52 : decode cX12_rekey 52 = .ok (.ldc_w 304, 3) := by decide +kernel
theorem dX12_rekey_55 : decode cX12_rekey 55 = .ok (.invokespecial 55, 3) := by decide +kernel
theorem dX12_rekey_58 : decode cX12_rekey 58 = .ok (.athrow, 1) := by decide +kernel
theorem dX12_rekey_59 : decode cX12_rekey 59 = .ok (.aload_n 2, 1) := by decide +kernel
theorem dX12_rekey_60 : decode cX12_rekey 60 = .ok (.invokevirtual 306, 3) := by decide +kernel
theorem dX12_rekey_63 : decode cX12_rekey 63 = .ok (.return_, 1) := by decide +kernel
theorem dX12_quit_0 : decode cX12_quit 0 = .ok (.aload_n 0, 1) := by decide +kernel
theorem dX12_quit_1 : decode cX12_quit 1 = .ok (.iload_n 1, 1) := by decide +kernel
theorem dX12_quit_2 : decode cX12_quit 2 = .ok (.invokevirtual 129, 3) := by decide +kernel
theorem dX12_quit_5 : decode cX12_quit 5 = .ok (.astore_n 2, 1) := by decide +kernel
theorem dX12_quit_6 : decode cX12_quit 6 = .ok (.aload_n 2, 1) := by decide +kernel
theorem dX12_quit_7 : decode cX12_quit 7 = .ok (.ifnonnull 13, 3) := by decide +kernel
theorem dX12_quit_10 : decode cX12_quit 10 = .ok (.new 69, 3) := by decide +kernel
theorem dX12_quit_13 : decode cX12_quit 13 = .ok (.dup, 1) := by decide +kernel
theorem dX12_quit_14 : decode cX12_quit 14 = .ok (.ldc 177, 2) := by decide +kernel
theorem dX12_quit_16 : decode cX12_quit 16 = .ok (.invokespecial 73, 3) := by decide +kernel
theorem dX12_quit_19 : decode cX12_quit 19 = .ok (.athrow, 1) := by decide +kernel
theorem dX12_quit_20 : decode cX12_quit 20 = .ok (.aload_n 2, 1) := by decide +kernel
theorem dX12_quit_21 : decode cX12_quit 21 = .ok (.getfield 297, 3) := by decide +kernel
theorem dX12_quit_24 : decode cX12_quit 24 = .ok (.iconst 1, 1) := by decide +kernel
theorem dX12_quit_25 : decode cX12_quit 25 = .ok (.if_icmp .eq 14, 3) := by decide +kernel
theorem dX12_quit_28 : decode cX12_quit 28 = .ok (.new 51, 3) := by decide +kernel
theorem dX12_quit_31 : decode cX12_quit 31 = .ok (.dup, 1) := by decide +kernel
theorem dX12_quit_32 : decode cX12_quit 32 = .ok (.ldc_w 309, 3) := by decide +kernel
theorem dX12_quit_35 : decode cX12_quit 35 = .ok (.invokespecial 55, 3) := by decide +kernel
theorem dX12_quit_38 : decode cX12_quit 38 = .ok (.athrow, 1) := by decide +kernel
theorem dX12_quit_39 : decode cX12_quit 39 = .ok (.aload_n 2, 1) := by decide +kernel
theorem dX12_quit_40 : decode cX12_quit 40 = .ok (.invokevirtual 311, 3) := by decide +kernel
theorem dX12_quit_43 : decode cX12_quit 43 = .ok (.return_, 1) := by decide +kernel
theorem dX12_about_0 : decode cX12_about 0 = .ok (.aload_n 0, 1) := by decide +kernel
theorem dX12_about_1 : decode cX12_about 1 = .ok (.iload_n 1, 1) := by decide +kernel
theorem dX12_about_2 : decode cX12_about 2 = .ok (.invokevirtual 129, 3) := by decide +kernel
theorem dX12_about_5 : decode cX12_about 5 = .ok (.astore_n 3, 1) := by decide +kernel
theorem dX12_about_6 : decode cX12_about 6 = .ok (.aload_n 3, 1) := by decide +kernel
theorem dX12_about_7 : decode cX12_about 7 = .ok (.ifnonnull 13, 3) := by decide +kernel
theorem dX12_about_10 : decode cX12_about 10 = .ok (.new 69, 3) := by decide +kernel
theorem dX12_about_13 : decode cX12_about 13 = .ok (.dup, 1) := by decide +kernel
theorem dX12_about_14 : decode cX12_about 14 = .ok (.ldc 177, 2) := by decide +kernel
theorem dX12_about_16 : decode cX12_about 16 = .ok (.invokespecial 73, 3) := by decide +kernel
theorem dX12_about_19 : decode cX12_about 19 = .ok (.athrow, 1) := by decide +kernel
theorem dX12_about_20 : decode cX12_about 20 = .ok (.iload_n 2, 1) := by decide +kernel
theorem dX12_about_21 : decode cX12_about 21 = .ok (.ifCond .lt 9, 3) := by decide +kernel
theorem dX12_about_24 : decode cX12_about 24 = .ok (.iload_n 2, 1) := by decide +kernel
theorem dX12_about_25 : decode cX12_about 25 = .ok (.bipush 12, 2) := by decide +kernel
theorem dX12_about_27 : decode cX12_about 27 = .ok (.if_icmp .le 14, 3) := by decide +kernel
theorem dX12_about_30 : decode cX12_about 30 = .ok (.new 61, 3) := by decide +kernel
theorem dX12_about_33 : decode cX12_about 33 = .ok (.dup, 1) := by decide +kernel
theorem dX12_about_34 : decode cX12_about 34 = .ok (.ldc_w 314, 3) := by decide +kernel
theorem dX12_about_37 : decode cX12_about 37 = .ok (.invokespecial 65, 3) := by decide +kernel
theorem dX12_about_40 : decode cX12_about 40 = .ok (.athrow, 1) := by decide +kernel
theorem dX12_about_41 : decode cX12_about 41 = .ok (.iload_n 2, 1) := by decide +kernel
theorem dX12_about_42 : decode cX12_about 42 = .ok (.iconst 5, 1) := by decide +kernel
theorem dX12_about_43 : decode cX12_about 43 = .ok (.if_icmp .ne 13, 3) := by decide +kernel
theorem dX12_about_46 : decode cX12_about 46 = .ok (.aload_n 0, 1) := by decide +kernel
theorem dX12_about_47 : decode cX12_about 47 = .ok (.getfield 18, 3) := by decide +kernel
theorem dX12_about_50 : decode cX12_about 50 = .ok (.iload_n 1, 1) := by decide +kernel
theorem dX12_about_51 : decode cX12_about 51 = .ok (.aaload, 1) := by decide +kernel
theorem dX12_about_52 : decode cX12_about 52 = .ok (.getfield 46, 3) := by decide +kernel
theorem dX12_about_55 : decode cX12_about 55 = .ok (.ireturn, 1) := by decide +kernel
theorem dX12_about_56 : decode cX12_about 56 = .ok (.iload_n 2, 1) := by decide +kernel
theorem dX12_about_57 : decode cX12_about 57 = .ok (.bipush 12, 2) := by decide +kernel
theorem dX12_about_59 : decode cX12_about 59 = .ok (.if_icmp .ne 16, 3) := by decide +kernel
theorem dX12_about_62 : decode cX12_about 62 = .ok (.aload_n 0, 1) := by decide +kernel
theorem dX12_about_63 : decode cX12_about 63 = .ok (.getfield 42, 3) := by decide +kernel
theorem dX12_about_66 : decode cX12_about 66 = .ok (.getfield 316, 3) := by decide +kernel
theorem dX12_about_69 : decode cX12_about 69 = .ok (.getfield 320, 3) := by decide +kernel
theorem dX12_about_72 : decode cX12_about 72 = .ok (.goto 8, 3) := by decide +kernel
theorem dX12_about_75 : decode cX12_about 75 = .ok (.aload_n 3, 1) := by decide +kernel
theorem dX12_about_76 : decode cX12_about 76 = .ok (.iload_n 2, 1) := by decide +kernel
theorem dX12_about_77 : decode cX12_about 77 = .ok (.invokevirtual 323, 3) := by decide +kernel
theorem dX12_about_80 : decode cX12_about 80 = .ok (.ireturn, 1) := by decide +kernel
theorem dX12_channel_0 : decode cX12_channel 0 = .ok (.aload_n 0, 1) := by decide +kernel
theorem dX12_channel_1 : decode cX12_channel 1 = .ok (.getfield 35, 3) := by decide +kernel
theorem dX12_channel_4 : decode cX12_channel 4 = .ok (.iload_n 1, 1) := by decide +kernel
theorem dX12_channel_5 : decode cX12_channel 5 = .ok (.invokevirtual 274, 3) := by decide +kernel
theorem dX12_channel_8 : decode cX12_channel 8 = .ok (.astore_n 3, 1) := by decide +kernel
theorem dX12_channel_9 : decode cX12_channel 9 = .ok (.aload_n 3, 1) := by decide +kernel
theorem dX12_channel_10 : decode cX12_channel 10 = .ok (.ifnonnull 14, 3) := by decide +kernel
theorem dX12_channel_13 : decode cX12_channel 13 = .ok (.new 69, 3) := by decide +kernel
theorem dX12_channel_16 : decode cX12_channel 16 = .ok (.dup, 1) := by decide +kernel
theorem dX12_channel_17 : decode cX12_channel 17 = .ok (.ldc_w 326, 3) := by decide +kernel
theorem dX12_channel_20 : decode cX12_channel 20 = .ok (.invokespecial 73, 3) := by decide +kernel
theorem dX12_channel_23 : decode cX12_channel 23 = .ok (.athrow, 1) := by decide +kernel
theorem dX12_channel_24 : decode cX12_channel 24 = .ok (.iload_n 2, 1) := by decide +kernel
theorem dX12_channel_25 : decode cX12_channel 25 = .ok (.ifCond .lt 9, 3) := by decide +kernel
theorem dX12_channel_28 : decode cX12_channel 28 = .ok (.iload_n 2, 1) := by decide +kernel
theorem dX12_channel_29 : decode cX12_channel 29 = .ok (.bipush 10, 2) := by decide +kernel
theorem dX12_channel_31 : decode cX12_channel 31 = .ok (.if_icmp .le 14, 3) := by decide +kernel
theorem dX12_channel_34 : decode cX12_channel 34 = .ok (.new 61, 3) := by decide +kernel
theorem dX12_channel_37 : decode cX12_channel 37 = .ok (.dup, 1) := by decide +kernel
theorem dX12_channel_38 : decode cX12_channel 38 = .ok (.ldc_w 314, 3) := by decide +kernel
theorem dX12_channel_41 : decode cX12_channel 41 = .ok (.invokespecial 65, 3) := by decide +kernel
theorem dX12_channel_44 : decode cX12_channel 44 = .ok (.athrow, 1) := by decide +kernel
theorem dX12_channel_45 : decode cX12_channel 45 = .ok (.aload_n 3, 1) := by decide +kernel
theorem dX12_channel_46 : decode cX12_channel 46 = .ok (.iload_n 2, 1) := by decide +kernel
theorem dX12_channel_47 : decode cX12_channel 47 = .ok (.invokevirtual 328, 3) := by decide +kernel
theorem dX12_channel_50 : decode cX12_channel 50 = .ok (.ireturn, 1) := by decide +kernel
theorem dX12_count_0 : decode cX12_count 0 = .ok (.iload_n 1, 1) := by decide +kernel
theorem dX12_count_1 : decode cX12_count 1 = .ok (.ifCond .ne 11, 3) := by decide +kernel
theorem dX12_count_4 : decode cX12_count 4 = .ok (.aload_n 0, 1) := by decide +kernel
theorem dX12_count_5 : decode cX12_count 5 = .ok (.getfield 12, 3) := by decide +kernel
theorem dX12_count_8 : decode cX12_count 8 = .ok (.getfield 46, 3) := by decide +kernel
theorem dX12_count_11 : decode cX12_count 11 = .ok (.ireturn, 1) := by decide +kernel
theorem dX12_count_12 : decode cX12_count 12 = .ok (.iload_n 1, 1) := by decide +kernel
theorem dX12_count_13 : decode cX12_count 13 = .ok (.iconst 1, 1) := by decide +kernel
theorem dX12_count_14 : decode cX12_count 14 = .ok (.if_icmp .ne 11, 3) := by decide +kernel
theorem dX12_count_17 : decode cX12_count 17 = .ok (.aload_n 0, 1) := by decide +kernel
theorem dX12_count_18 : decode cX12_count 18 = .ok (.getfield 42, 3) := by decide +kernel
theorem dX12_count_21 : decode cX12_count 21 = .ok (.getfield 110, 3) := by decide +kernel
theorem dX12_count_24 : decode cX12_count 24 = .ok (.ireturn, 1) := by decide +kernel
theorem dX12_count_25 : decode cX12_count 25 = .ok (.iload_n 1, 1) := by decide +kernel
theorem dX12_count_26 : decode cX12_count 26 = .ok (.iconst 2, 1) := by decide +kernel
theorem dX12_count_27 : decode cX12_count 27 = .ok (.if_icmp .ne 11, 3) := by decide +kernel
theorem dX12_count_30 : decode cX12_count 30 = .ok (.aload_n 0, 1) := by decide +kernel
theorem dX12_count_31 : decode cX12_count 31 = .ok (.getfield 42, 3) := by decide +kernel
theorem dX12_count_34 : decode cX12_count 34 = .ok (.invokevirtual 329, 3) := by decide +kernel
theorem dX12_count_37 : decode cX12_count 37 = .ok (.ireturn, 1) := by decide +kernel
theorem dX12_count_38 : decode cX12_count 38 = .ok (.iload_n 1, 1) := by decide +kernel
theorem dX12_count_39 : decode cX12_count 39 = .ok (.iconst 3, 1) := by decide +kernel
theorem dX12_count_40 : decode cX12_count 40 = .ok (.if_icmp .ne 11, 3) := by decide +kernel
theorem dX12_count_43 : decode cX12_count 43 = .ok (.aload_n 0, 1) := by decide +kernel
theorem dX12_count_44 : decode cX12_count 44 = .ok (.getfield 42, 3) := by decide +kernel
theorem dX12_count_47 : decode cX12_count 47 = .ok (.invokevirtual 332, 3) := by decide +kernel
theorem dX12_count_50 : decode cX12_count 50 = .ok (.ireturn, 1) := by decide +kernel
theorem dX12_count_51 : decode cX12_count 51 = .ok (.iload_n 1, 1) := by decide +kernel
theorem dX12_count_52 : decode cX12_count 52 = .ok (.iconst 4, 1) := by decide +kernel
theorem dX12_count_53 : decode cX12_count 53 = .ok (.if_icmp .ne 16, 3) := by decide +kernel
theorem dX12_count_56 : decode cX12_count 56 = .ok (.aload_n 0, 1) := by decide +kernel
theorem dX12_count_57 : decode cX12_count 57 = .ok (.getfield 42, 3) := by decide +kernel
theorem dX12_count_60 : decode cX12_count 60 = .ok (.getfield 316, 3) := by decide +kernel
theorem dX12_count_63 : decode cX12_count 63 = .ok (.invokevirtual 335, 3) := by decide +kernel
theorem dX12_count_66 : decode cX12_count 66 = .ok (.goto 4, 3) := by decide +kernel
theorem dX12_count_69 : decode cX12_count 69 = .ok (.iconst (-1), 1) := by decide +kernel
theorem dX12_count_70 : decode cX12_count 70 = .ok (.ireturn, 1) := by decide +kernel
theorem dX12_endOf_0 : decode cX12_endOf 0 = .ok (.iload_n 1, 1) := by decide +kernel
theorem dX12_endOf_1 : decode cX12_endOf 1 = .ok (.ifCond .ne 8, 3) := by decide +kernel
theorem dX12_endOf_4 : decode cX12_endOf 4 = .ok (.aload_n 0, 1) := by decide +kernel
theorem dX12_endOf_5 : decode cX12_endOf 5 = .ok (.getfield 35, 3) := by decide +kernel
theorem dX12_endOf_8 : decode cX12_endOf 8 = .ok (.areturn, 1) := by decide +kernel
theorem dX12_endOf_9 : decode cX12_endOf 9 = .ok (.iload_n 1, 1) := by decide +kernel
theorem dX12_endOf_10 : decode cX12_endOf 10 = .ok (.iconst 1, 1) := by decide +kernel
theorem dX12_endOf_11 : decode cX12_endOf 11 = .ok (.if_icmp .ne 10, 3) := by decide +kernel
theorem dX12_endOf_14 : decode cX12_endOf 14 = .ok (.aload_n 0, 1) := by decide +kernel
theorem dX12_endOf_15 : decode cX12_endOf 15 = .ok (.getfield 42, 3) := by decide +kernel
theorem dX12_endOf_18 : decode cX12_endOf 18 = .ok (.goto 4, 3) := by decide +kernel
theorem dX12_endOf_21 : decode cX12_endOf 21 = .ok (.aconst_null, 1) := by decide +kernel
theorem dX12_endOf_22 : decode cX12_endOf 22 = .ok (.areturn, 1) := by decide +kernel
theorem dX12_isSetting_0 : decode cX12_isSetting 0 = .ok (.iload_n 0, 1) := by decide +kernel
theorem dX12_isSetting_1 : decode cX12_isSetting 1 = .ok (.iconst 2, 1) := by decide +kernel
theorem dX12_isSetting_2 : decode cX12_isSetting 2 = .ok (.if_icmp .ne 21, 3) := by decide +kernel
theorem dX12_isSetting_5 : decode cX12_isSetting 5 = .ok (.iload_n 1, 1) := by decide +kernel
theorem dX12_isSetting_6 : decode cX12_isSetting 6 = .ok (.iconst 1, 1) := by decide +kernel
theorem dX12_isSetting_7 : decode cX12_isSetting 7 = .ok (.if_icmp .lt 14, 3) := by decide +kernel
theorem dX12_isSetting_10 : decode cX12_isSetting 10 = .ok (.iload_n 1, 1) := by decide +kernel
theorem dX12_isSetting_11 : decode cX12_isSetting 11 = .ok (.sipush 16384, 3) := by decide +kernel
theorem dX12_isSetting_14 : decode cX12_isSetting 14 = .ok (.if_icmp .gt 7, 3) := by decide +kernel
theorem dX12_isSetting_17 : decode cX12_isSetting 17 = .ok (.iconst 1, 1) := by decide +kernel
theorem dX12_isSetting_18 : decode cX12_isSetting 18 = .ok (.goto 4, 3) := by decide +kernel
theorem dX12_isSetting_21 : decode cX12_isSetting 21 = .ok (.iconst 0, 1) := by decide +kernel
theorem dX12_isSetting_22 : decode cX12_isSetting 22 = .ok (.ireturn, 1) := by decide +kernel
theorem dX12_isSetting_23 : decode cX12_isSetting 23 = .ok (.iload_n 0, 1) := by decide +kernel
theorem dX12_isSetting_24 : decode cX12_isSetting 24 = .ok (.iconst 3, 1) := by decide +kernel
theorem dX12_isSetting_25 : decode cX12_isSetting 25 = .ok (.if_icmp .ne 22, 3) := by decide +kernel
theorem dX12_isSetting_28 : decode cX12_isSetting 28 = .ok (.iload_n 1, 1) := by decide +kernel
theorem dX12_isSetting_29 : decode cX12_isSetting 29 = .ok (.bipush 16, 2) := by decide +kernel
theorem dX12_isSetting_31 : decode cX12_isSetting 31 = .ok (.if_icmp .lt 14, 3) := by decide +kernel
theorem dX12_isSetting_34 : decode cX12_isSetting 34 = .ok (.iload_n 1, 1) := by decide +kernel
theorem dX12_isSetting_35 : decode cX12_isSetting 35 = .ok (.ldc_w 338, 3) := by decide +kernel
theorem dX12_isSetting_38 : decode cX12_isSetting 38 = .ok (.if_icmp .gt 7, 3) := by decide +kernel
theorem dX12_isSetting_41 : decode cX12_isSetting 41 = .ok (.iconst 1, 1) := by decide +kernel
theorem dX12_isSetting_42 : decode cX12_isSetting 42 = .ok (.goto 4, 3) := by decide +kernel
theorem dX12_isSetting_45 : decode cX12_isSetting 45 = .ok (.iconst 0, 1) := by decide +kernel
theorem dX12_isSetting_46 : decode cX12_isSetting 46 = .ok (.ireturn, 1) := by decide +kernel
theorem dX12_isSetting_47 : decode cX12_isSetting 47 = .ok (.iload_n 0, 1) := by decide +kernel
theorem dX12_isSetting_48 : decode cX12_isSetting 48 = .ok (.iconst 4, 1) := by decide +kernel
theorem dX12_isSetting_49 : decode cX12_isSetting 49 = .ok (.if_icmp .ne 23, 3) := by decide +kernel
theorem dX12_isSetting_52 : decode cX12_isSetting 52 = .ok (.iload_n 1, 1) := by decide +kernel
theorem dX12_isSetting_53 : decode cX12_isSetting 53 = .ok (.sipush 256, 3) := by decide +kernel
theorem dX12_isSetting_56 : decode cX12_isSetting 56 = .ok (.if_icmp .lt 14, 3) := by decide +kernel
theorem dX12_isSetting_59 : decode cX12_isSetting 59 = .ok (.iload_n 1, 1) := by decide +kernel
theorem dX12_isSetting_60 : decode cX12_isSetting 60 = .ok (.ldc_w 339, 3) := by decide +kernel
theorem dX12_isSetting_63 : decode cX12_isSetting 63 = .ok (.if_icmp .gt 7, 3) := by decide +kernel
theorem dX12_isSetting_66 : decode cX12_isSetting 66 = .ok (.iconst 1, 1) := by decide +kernel
theorem dX12_isSetting_67 : decode cX12_isSetting 67 = .ok (.goto 4, 3) := by decide +kernel
theorem dX12_isSetting_70 : decode cX12_isSetting 70 = .ok (.iconst 0, 1) := by decide +kernel
theorem dX12_isSetting_71 : decode cX12_isSetting 71 = .ok (.ireturn, 1) := by decide +kernel
theorem dX12_isSetting_72 : decode cX12_isSetting 72 = .ok (.iload_n 1, 1) := by decide +kernel
theorem dX12_isSetting_73 : decode cX12_isSetting 73 = .ok (.iconst 1, 1) := by decide +kernel
theorem dX12_isSetting_74 : decode cX12_isSetting 74 = .ok (.if_icmp .eq 20, 3) := by decide +kernel
theorem dX12_isSetting_77 : decode cX12_isSetting 77 = .ok (.iload_n 1, 1) := by decide +kernel
theorem dX12_isSetting_78 : decode cX12_isSetting 78 = .ok (.iconst 2, 1) := by decide +kernel
theorem dX12_isSetting_79 : decode cX12_isSetting 79 = .ok (.if_icmp .eq 15, 3) := by decide +kernel
theorem dX12_isSetting_82 : decode cX12_isSetting 82 = .ok (.iload_n 1, 1) := by decide +kernel
theorem dX12_isSetting_83 : decode cX12_isSetting 83 = .ok (.bipush 12, 2) := by decide +kernel
theorem dX12_isSetting_85 : decode cX12_isSetting 85 = .ok (.if_icmp .eq 9, 3) := by decide +kernel
theorem dX12_isSetting_88 : decode cX12_isSetting 88 = .ok (.iload_n 1, 1) := by decide +kernel
theorem dX12_isSetting_89 : decode cX12_isSetting 89 = .ok (.bipush 21, 2) := by decide +kernel
theorem dX12_isSetting_91 : decode cX12_isSetting 91 = .ok (.if_icmp .ne 7, 3) := by decide +kernel
theorem dX12_isSetting_94 : decode cX12_isSetting 94 = .ok (.iconst 1, 1) := by decide +kernel
theorem dX12_isSetting_95 : decode cX12_isSetting 95 = .ok (.goto 4, 3) := by decide +kernel
theorem dX12_isSetting_98 : decode cX12_isSetting 98 = .ok (.iconst 0, 1) := by decide +kernel
theorem dX12_isSetting_99 : decode cX12_isSetting 99 = .ok (.ireturn, 1) := by decide +kernel
theorem dX13_init_0 : decode cX13_init 0 = .ok (.aload_n 0, 1) := by decide +kernel
theorem dX13_init_1 : decode cX13_init 1 = .ok (.invokespecial 1, 3) := by decide +kernel
theorem dX13_init_4 : decode cX13_init 4 = .ok (.aload_n 0, 1) := by decide +kernel
theorem dX13_init_5 : decode cX13_init 5 = .ok (.sipush 240, 3) := by decide +kernel
theorem dX13_init_8 : decode cX13_init 8 = .ok (.newarray .int, 2) := by decide +kernel
theorem dX13_init_10 : decode cX13_init 10 = .ok (.putfield 7, 3) := by decide +kernel
theorem dX13_init_13 : decode cX13_init 13 = .ok (.aload_n 0, 1) := by decide +kernel
theorem dX13_init_14 : decode cX13_init 14 = .ok (.bipush 16, 2) := by decide +kernel
theorem dX13_init_16 : decode cX13_init 16 = .ok (.newarray .int, 2) := by decide +kernel
theorem dX13_init_18 : decode cX13_init 18 = .ok (.putfield 13, 3) := by decide +kernel
theorem dX13_init_21 : decode cX13_init 21 = .ok (.aload_n 0, 1) := by decide +kernel
theorem dX13_init_22 : decode cX13_init 22 = .ok (.bipush 16, 2) := by decide +kernel
theorem dX13_init_24 : decode cX13_init 24 = .ok (.newarray .int, 2) := by decide +kernel
theorem dX13_init_26 : decode cX13_init 26 = .ok (.putfield 16, 3) := by decide +kernel
theorem dX13_init_29 : decode cX13_init 29 = .ok (.aload_n 0, 1) := by decide +kernel
theorem dX13_init_30 : decode cX13_init 30 = .ok (.iconst 4, 1) := by decide +kernel
theorem dX13_init_31 : decode cX13_init 31 = .ok (.newarray .int, 2) := by decide +kernel
theorem dX13_init_33 : decode cX13_init 33 = .ok (.putfield 19, 3) := by decide +kernel
theorem dX13_init_36 : decode cX13_init 36 = .ok (.aload_n 0, 1) := by decide +kernel
theorem dX13_init_37 : decode cX13_init 37 = .ok (.bipush 16, 2) := by decide +kernel
theorem dX13_init_39 : decode cX13_init 39 = .ok (.newarray .int, 2) := by decide +kernel
theorem dX13_init_41 : decode cX13_init 41 = .ok (.putfield 22, 3) := by decide +kernel
theorem dX13_init_44 : decode cX13_init 44 = .ok (.aload_n 0, 1) := by decide +kernel
theorem dX13_init_45 : decode cX13_init 45 = .ok (.bipush 32, 2) := by decide +kernel
theorem dX13_init_47 : decode cX13_init 47 = .ok (.newarray .byte, 2) := by decide +kernel
theorem dX13_init_49 : decode cX13_init 49 = .ok (.putfield 25, 3) := by decide +kernel
theorem dX13_init_52 : decode cX13_init 52 = .ok (.aload_n 0, 1) := by decide +kernel
theorem dX13_init_53 : decode cX13_init 53 = .ok (.aload_n 1, 1) := by decide +kernel
theorem dX13_init_54 : decode cX13_init 54 = .ok (.putfield 29, 3) := by decide +kernel
theorem dX13_init_57 : decode cX13_init 57 = .ok (.return_, 1) := by decide +kernel
theorem dX13_box_0 : decode cX13_box 0 = .ok (.sipush 256, 3) := by decide +kernel
theorem dX13_box_3 : decode cX13_box 3 = .ok (.newarray .int, 2) := by decide +kernel
theorem dX13_box_5 : decode cX13_box 5 = .ok (.astore_n 0, 1) := by decide +kernel
theorem dX13_box_6 : decode cX13_box 6 = .ok (.iconst 0, 1) := by decide +kernel
theorem dX13_box_7 : decode cX13_box 7 = .ok (.istore_n 1, 1) := by decide +kernel
theorem dX13_box_8 : decode cX13_box 8 = .ok (.iload_n 1, 1) := by decide +kernel
theorem dX13_box_9 : decode cX13_box 9 = .ok (.sipush 256, 3) := by decide +kernel
theorem dX13_box_12 : decode cX13_box 12 = .ok (.if_icmp .ge 73, 3) := by decide +kernel
theorem dX13_box_15 : decode cX13_box 15 = .ok (.iconst 1, 1) := by decide +kernel
theorem dX13_box_16 : decode cX13_box 16 = .ok (.istore_n 2, 1) := by decide +kernel
theorem dX13_box_17 : decode cX13_box 17 = .ok (.iconst 0, 1) := by decide +kernel
theorem dX13_box_18 : decode cX13_box 18 = .ok (.istore_n 3, 1) := by decide +kernel
theorem dX13_box_19 : decode cX13_box 19 = .ok (.iload_n 3, 1) := by decide +kernel
theorem dX13_box_20 : decode cX13_box 20 = .ok (.sipush 254, 3) := by decide +kernel
theorem dX13_box_23 : decode cX13_box 23 = .ok (.if_icmp .ge 15, 3) := by decide +kernel
theorem dX13_box_26 : decode cX13_box 26 = .ok (.iload_n 2, 1) := by decide +kernel
theorem dX13_box_27 : decode cX13_box 27 = .ok (.iload_n 1, 1) := by decide +kernel
theorem dX13_box_28 : decode cX13_box 28 = .ok (.invokestatic 32, 3) := by decide +kernel
theorem dX13_box_31 : decode cX13_box 31 = .ok (.istore_n 2, 1) := by decide +kernel
theorem dX13_box_32 : decode cX13_box 32 = .ok (.iinc 3 1, 3) := by decide +kernel
theorem dX13_box_35 : decode cX13_box 35 = .ok (.goto (-16), 3) := by decide +kernel
theorem dX13_box_38 : decode cX13_box 38 = .ok (.bipush 99, 2) := by decide +kernel
theorem dX13_box_40 : decode cX13_box 40 = .ok (.istore_n 3, 1) := by decide +kernel
theorem dX13_box_41 : decode cX13_box 41 = .ok (.iconst 0, 1) := by decide +kernel
theorem dX13_box_42 : decode cX13_box 42 = .ok (.istore 4, 2) := by decide +kernel
theorem dX13_box_44 : decode cX13_box 44 = .ok (.iload 4, 2) := by decide +kernel
theorem dX13_box_46 : decode cX13_box 46 = .ok (.iconst 5, 1) := by decide +kernel
theorem dX13_box_47 : decode cX13_box 47 = .ok (.if_icmp .ge 28, 3) := by decide +kernel
theorem dX13_box_50 : decode cX13_box 50 = .ok (.iload_n 3, 1) := by decide +kernel
theorem dX13_box_51 : decode cX13_box 51 = .ok (.iload_n 2, 1) := by decide +kernel
theorem dX13_box_52 : decode cX13_box 52 = .ok (.iload 4, 2) := by decide +kernel
theorem dX13_box_54 : decode cX13_box 54 = .ok (.ishl, 1) := by decide +kernel
theorem dX13_box_55 : decode cX13_box 55 = .ok (.iload_n 2, 1) := by decide +kernel
theorem dX13_box_56 : decode cX13_box 56 = .ok (.bipush 8, 2) := by decide +kernel
theorem dX13_box_58 : decode cX13_box 58 = .ok (.iload 4, 2) := by decide +kernel
theorem dX13_box_60 : decode cX13_box 60 = .ok (.isub, 1) := by decide +kernel
theorem dX13_box_61 : decode cX13_box 61 = .ok (.ishr, 1) := by decide +kernel
theorem dX13_box_62 : decode cX13_box 62 = .ok (.ior, 1) := by decide +kernel
theorem dX13_box_63 : decode cX13_box 63 = .ok (.sipush 255, 3) := by decide +kernel
theorem dX13_box_66 : decode cX13_box 66 = .ok (.iand, 1) := by decide +kernel
theorem dX13_box_67 : decode cX13_box 67 = .ok (.ixor, 1) := by decide +kernel
theorem dX13_box_68 : decode cX13_box 68 = .ok (.istore_n 3, 1) := by decide +kernel
theorem dX13_box_69 : decode cX13_box 69 = .ok (.iinc 4 1, 3) := by decide +kernel
theorem dX13_box_72 : decode cX13_box 72 = .ok (.goto (-28), 3) := by decide +kernel
theorem dX13_box_75 : decode cX13_box 75 = .ok (.aload_n 0, 1) := by decide +kernel
theorem dX13_box_76 : decode cX13_box 76 = .ok (.iload_n 1, 1) := by decide +kernel
theorem dX13_box_77 : decode cX13_box 77 = .ok (.iload_n 3, 1) := by decide +kernel
theorem dX13_box_78 : decode cX13_box 78 = .ok (.iastore, 1) := by decide +kernel
theorem dX13_box_79 : decode cX13_box 79 = .ok (.iinc 1 1, 3) := by decide +kernel
theorem dX13_box_82 : decode cX13_box 82 = .ok (.goto (-74), 3) := by decide +kernel
theorem dX13_box_85 : decode cX13_box 85 = .ok (.aload_n 0, 1) := by decide +kernel
theorem dX13_box_86 : decode cX13_box 86 = .ok (.areturn, 1) := by decide +kernel
theorem dX13_times_0 : decode cX13_times 0 = .ok (.iconst 0, 1) := by decide +kernel
theorem dX13_times_1 : decode cX13_times 1 = .ok (.istore_n 2, 1) := by decide +kernel
theorem dX13_times_2 : decode cX13_times 2 = .ok (.iload_n 0, 1) := by decide +kernel
theorem dX13_times_3 : decode cX13_times 3 = .ok (.istore_n 3, 1) := by decide +kernel
theorem dX13_times_4 : decode cX13_times 4 = .ok (.iconst 0, 1) := by decide +kernel
theorem dX13_times_5 : decode cX13_times 5 = .ok (.istore 4, 2) := by decide +kernel
theorem dX13_times_7 : decode cX13_times 7 = .ok (.iload 4, 2) := by decide +kernel
theorem dX13_times_9 : decode cX13_times 9 = .ok (.bipush 8, 2) := by decide +kernel
theorem dX13_times_11 : decode cX13_times 11 = .ok (.if_icmp .ge 41, 3) := by decide +kernel
theorem dX13_times_14 : decode cX13_times 14 = .ok (.iload_n 1, 1) := by decide +kernel
theorem dX13_times_15 : decode cX13_times 15 = .ok (.iload 4, 2) := by decide +kernel
theorem dX13_times_17 : decode cX13_times 17 = .ok (.ishr, 1) := by decide +kernel
theorem dX13_times_18 : decode cX13_times 18 = .ok (.iconst 1, 1) := by decide +kernel
theorem dX13_times_19 : decode cX13_times 19 = .ok (.iand, 1) := by decide +kernel
theorem dX13_times_20 : decode cX13_times 20 = .ok (.iconst 1, 1) := by decide +kernel
theorem dX13_times_21 : decode cX13_times 21 = .ok (.if_icmp .ne 7, 3) := by decide +kernel
theorem dX13_times_24 : decode cX13_times 24 = .ok (.iload_n 2, 1) := by decide +kernel
theorem dX13_times_25 : decode cX13_times 25 = .ok (.iload_n 3, 1) := by decide +kernel
theorem dX13_times_26 : decode cX13_times 26 = .ok (.ixor, 1) := by decide +kernel
theorem dX13_times_27 : decode cX13_times 27 = .ok (.istore_n 2, 1) := by decide +kernel
theorem dX13_times_28 : decode cX13_times 28 = .ok (.iload_n 3, 1) := by decide +kernel
theorem dX13_times_29 : decode cX13_times 29 = .ok (.iconst 1, 1) := by decide +kernel
theorem dX13_times_30 : decode cX13_times 30 = .ok (.ishl, 1) := by decide +kernel
theorem dX13_times_31 : decode cX13_times 31 = .ok (.iload_n 3, 1) := by decide +kernel
theorem dX13_times_32 : decode cX13_times 32 = .ok (.bipush 127, 2) := by decide +kernel
theorem dX13_times_34 : decode cX13_times 34 = .ok (.if_icmp .le 9, 3) := by decide +kernel
theorem dX13_times_37 : decode cX13_times 37 = .ok (.sipush 283, 3) := by decide +kernel
theorem dX13_times_40 : decode cX13_times 40 = .ok (.goto 4, 3) := by decide +kernel
theorem dX13_times_43 : decode cX13_times 43 = .ok (.iconst 0, 1) := by decide +kernel
theorem dX13_times_44 : decode cX13_times 44 = .ok (.ixor, 1) := by decide +kernel
theorem dX13_times_45 : decode cX13_times 45 = .ok (.istore_n 3, 1) := by decide +kernel
theorem dX13_times_46 : decode cX13_times 46 = .ok (.iinc 4 1, 3) := by decide +kernel
theorem dX13_times_49 : decode cX13_times 49 = .ok (.goto (-42), 3) := by decide +kernel
theorem dX13_times_52 : decode cX13_times 52 = .ok (.iload_n 2, 1) := by decide +kernel
theorem dX13_times_53 : decode cX13_times 53 = .ok (.ireturn, 1) := by decide +kernel
theorem dX14_init_0 : decode cX14_init 0 = .ok (.aload_n 0, 1) := by decide +kernel
theorem dX14_init_1 : decode cX14_init 1 = .ok (.invokespecial 1, 3) := by decide +kernel
theorem dX14_init_4 : decode cX14_init 4 = .ok (.aload_n 0, 1) := by decide +kernel
theorem dX14_init_5 : decode cX14_init 5 = .ok (.bipush 64, 2) := by decide +kernel
theorem dX14_init_7 : decode cX14_init 7 = .ok (.newarray .byte, 2) := by decide +kernel
theorem dX14_init_9 : decode cX14_init 9 = .ok (.putfield 7, 3) := by decide +kernel
theorem dX14_init_12 : decode cX14_init 12 = .ok (.aload_n 0, 1) := by decide +kernel
theorem dX14_init_13 : decode cX14_init 13 = .ok (.bipush 16, 2) := by decide +kernel
theorem dX14_init_15 : decode cX14_init 15 = .ok (.newarray .long, 2) := by decide +kernel
theorem dX14_init_17 : decode cX14_init 17 = .ok (.putfield 13, 3) := by decide +kernel
theorem dX14_init_20 : decode cX14_init 20 = .ok (.aload_n 0, 1) := by decide +kernel
theorem dX14_init_21 : decode cX14_init 21 = .ok (.sipush 256, 3) := by decide +kernel
theorem dX14_init_24 : decode cX14_init 24 = .ok (.newarray .long, 2) := by decide +kernel
theorem dX14_init_26 : decode cX14_init 26 = .ok (.putfield 17, 3) := by decide +kernel
theorem dX14_init_29 : decode cX14_init 29 = .ok (.aload_n 0, 1) := by decide +kernel
theorem dX14_init_30 : decode cX14_init 30 = .ok (.bipush 16, 2) := by decide +kernel
theorem dX14_init_32 : decode cX14_init 32 = .ok (.newarray .long, 2) := by decide +kernel
theorem dX14_init_34 : decode cX14_init 34 = .ok (.putfield 20, 3) := by decide +kernel
theorem dX14_init_37 : decode cX14_init 37 = .ok (.aload_n 0, 1) := by decide +kernel
theorem dX14_init_38 : decode cX14_init 38 = .ok (.sipush 256, 3) := by decide +kernel
theorem dX14_init_41 : decode cX14_init 41 = .ok (.newarray .long, 2) := by decide +kernel
theorem dX14_init_43 : decode cX14_init 43 = .ok (.putfield 23, 3) := by decide +kernel
theorem dX14_init_46 : decode cX14_init 46 = .ok (.aload_n 0, 1) := by decide +kernel
theorem dX14_init_47 : decode cX14_init 47 = .ok (.bipush 16, 2) := by decide +kernel
theorem dX14_init_49 : decode cX14_init 49 = .ok (.newarray .long, 2) := by decide +kernel
theorem dX14_init_51 : decode cX14_init 51 = .ok (.putfield 26, 3) := by decide +kernel
theorem dX14_init_54 : decode cX14_init 54 = .ok (.aload_n 0, 1) := by decide +kernel
theorem dX14_init_55 : decode cX14_init 55 = .ok (.bipush 16, 2) := by decide +kernel
theorem dX14_init_57 : decode cX14_init 57 = .ok (.newarray .long, 2) := by decide +kernel
theorem dX14_init_59 : decode cX14_init 59 = .ok (.putfield 29, 3) := by decide +kernel
theorem dX14_init_62 : decode cX14_init 62 = .ok (.aload_n 0, 1) := by decide +kernel
theorem dX14_init_63 : decode cX14_init 63 = .ok (.bipush 16, 2) := by decide +kernel
theorem dX14_init_65 : decode cX14_init 65 = .ok (.newarray .long, 2) := by decide +kernel
theorem dX14_init_67 : decode cX14_init 67 = .ok (.putfield 32, 3) := by decide +kernel
theorem dX14_init_70 : decode cX14_init 70 = .ok (.aload_n 0, 1) := by decide +kernel
theorem dX14_init_71 : decode cX14_init 71 = .ok (.bipush 16, 2) := by decide +kernel
theorem dX14_init_73 : decode cX14_init 73 = .ok (.newarray .long, 2) := by decide +kernel
theorem dX14_init_75 : decode cX14_init 75 = .ok (.putfield 35, 3) := by decide +kernel
theorem dX14_init_78 : decode cX14_init 78 = .ok (.aload_n 0, 1) := by decide +kernel
theorem dX14_init_79 : decode cX14_init 79 = .ok (.bipush 16, 2) := by decide +kernel
theorem dX14_init_81 : decode cX14_init 81 = .ok (.newarray .long, 2) := by decide +kernel
theorem dX14_init_83 : decode cX14_init 83 = .ok (.putfield 38, 3) := by decide +kernel
theorem dX14_init_86 : decode cX14_init 86 = .ok (.aload_n 0, 1) := by decide +kernel
theorem dX14_init_87 : decode cX14_init 87 = .ok (.bipush 16, 2) := by decide +kernel
theorem dX14_init_89 : decode cX14_init 89 = .ok (.newarray .long, 2) := by decide +kernel
theorem dX14_init_91 : decode cX14_init 91 = .ok (.putfield 41, 3) := by decide +kernel
theorem dX14_init_94 : decode cX14_init 94 = .ok (.aload_n 0, 1) := by decide +kernel
theorem dX14_init_95 : decode cX14_init 95 = .ok (.bipush 16, 2) := by decide +kernel
theorem dX14_init_97 : decode cX14_init 97 = .ok (.newarray .long, 2) := by decide +kernel
theorem dX14_init_99 : decode cX14_init 99 = .ok (.putfield 44, 3) := by decide +kernel
theorem dX14_init_102 : decode cX14_init 102 = .ok (.aload_n 0, 1) := by decide +kernel
theorem dX14_init_103 : decode cX14_init 103 = .ok (.bipush 16, 2) := by decide +kernel
theorem dX14_init_105 : decode cX14_init 105 = .ok (.newarray .long, 2) := by decide +kernel
theorem dX14_init_107 : decode cX14_init 107 = .ok (.putfield 47, 3) := by decide +kernel
theorem dX14_init_110 : decode cX14_init 110 = .ok (.aload_n 0, 1) := by decide +kernel
theorem dX14_init_111 : decode cX14_init 111 = .ok (.bipush 16, 2) := by decide +kernel
theorem dX14_init_113 : decode cX14_init 113 = .ok (.newarray .long, 2) := by decide +kernel
theorem dX14_init_115 : decode cX14_init 115 = .ok (.putfield 50, 3) := by decide +kernel
theorem dX14_init_118 : decode cX14_init 118 = .ok (.aload_n 0, 1) := by decide +kernel
theorem dX14_init_119 : decode cX14_init 119 = .ok (.bipush 16, 2) := by decide +kernel
theorem dX14_init_121 : decode cX14_init 121 = .ok (.newarray .long, 2) := by decide +kernel
theorem dX14_init_123 : decode cX14_init 123 = .ok (.putfield 53, 3) := by decide +kernel
theorem dX14_init_126 : decode cX14_init 126 = .ok (.aload_n 0, 1) := by decide +kernel
theorem dX14_init_127 : decode cX14_init 127 = .ok (.bipush 16, 2) := by decide +kernel
theorem dX14_init_129 : decode cX14_init 129 = .ok (.newarray .long, 2) := by decide +kernel
theorem dX14_init_131 : decode cX14_init 131 = .ok (.putfield 56, 3) := by decide +kernel
theorem dX14_init_134 : decode cX14_init 134 = .ok (.aload_n 0, 1) := by decide +kernel
theorem dX14_init_135 : decode cX14_init 135 = .ok (.bipush 16, 2) := by decide +kernel
theorem dX14_init_137 : decode cX14_init 137 = .ok (.newarray .long, 2) := by decide +kernel
theorem dX14_init_139 : decode cX14_init 139 = .ok (.putfield 59, 3) := by decide +kernel
theorem dX14_init_142 : decode cX14_init 142 = .ok (.aload_n 0, 1) := by decide +kernel
theorem dX14_init_143 : decode cX14_init 143 = .ok (.bipush 16, 2) := by decide +kernel
theorem dX14_init_145 : decode cX14_init 145 = .ok (.newarray .long, 2) := by decide +kernel
theorem dX14_init_147 : decode cX14_init 147 = .ok (.putfield 62, 3) := by decide +kernel
theorem dX14_init_150 : decode cX14_init 150 = .ok (.aload_n 0, 1) := by decide +kernel
theorem dX14_init_151 : decode cX14_init 151 = .ok (.bipush 16, 2) := by decide +kernel
theorem dX14_init_153 : decode cX14_init 153 = .ok (.newarray .long, 2) := by decide +kernel
theorem dX14_init_155 : decode cX14_init 155 = .ok (.putfield 65, 3) := by decide +kernel
theorem dX14_init_158 : decode cX14_init 158 = .ok (.aload_n 0, 1) := by decide +kernel
theorem dX14_init_159 : decode cX14_init 159 = .ok (.bipush 16, 2) := by decide +kernel
theorem dX14_init_161 : decode cX14_init 161 = .ok (.newarray .long, 2) := by decide +kernel
theorem dX14_init_163 : decode cX14_init 163 = .ok (.putfield 68, 3) := by decide +kernel
theorem dX14_init_166 : decode cX14_init 166 = .ok (.aload_n 0, 1) := by decide +kernel
theorem dX14_init_167 : decode cX14_init 167 = .ok (.bipush 16, 2) := by decide +kernel
theorem dX14_init_169 : decode cX14_init 169 = .ok (.newarray .long, 2) := by decide +kernel
theorem dX14_init_171 : decode cX14_init 171 = .ok (.putfield 71, 3) := by decide +kernel
theorem dX14_init_174 : decode cX14_init 174 = .ok (.aload_n 0, 1) := by decide +kernel
theorem dX14_init_175 : decode cX14_init 175 = .ok (.bipush 16, 2) := by decide +kernel
theorem dX14_init_177 : decode cX14_init 177 = .ok (.newarray .long, 2) := by decide +kernel
theorem dX14_init_179 : decode cX14_init 179 = .ok (.putfield 74, 3) := by decide +kernel
theorem dX14_init_182 : decode cX14_init 182 = .ok (.aload_n 0, 1) := by decide +kernel
theorem dX14_init_183 : decode cX14_init 183 = .ok (.bipush 16, 2) := by decide +kernel
theorem dX14_init_185 : decode cX14_init 185 = .ok (.newarray .long, 2) := by decide +kernel
theorem dX14_init_187 : decode cX14_init 187 = .ok (.putfield 77, 3) := by decide +kernel
theorem dX14_init_190 : decode cX14_init 190 = .ok (.aload_n 0, 1) := by decide +kernel
theorem dX14_init_191 : decode cX14_init 191 = .ok (.bipush 16, 2) := by decide +kernel
theorem dX14_init_193 : decode cX14_init 193 = .ok (.newarray .long, 2) := by decide +kernel
theorem dX14_init_195 : decode cX14_init 195 = .ok (.putfield 80, 3) := by decide +kernel
theorem dX14_init_198 : decode cX14_init 198 = .ok (.aload_n 0, 1) := by decide +kernel
theorem dX14_init_199 : decode cX14_init 199 = .ok (.bipush 16, 2) := by decide +kernel
theorem dX14_init_201 : decode cX14_init 201 = .ok (.newarray .long, 2) := by decide +kernel
theorem dX14_init_203 : decode cX14_init 203 = .ok (.putfield 83, 3) := by decide +kernel
theorem dX14_init_206 : decode cX14_init 206 = .ok (.aload_n 0, 1) := by decide +kernel
theorem dX14_init_207 : decode cX14_init 207 = .ok (.bipush 16, 2) := by decide +kernel
theorem dX14_init_209 : decode cX14_init 209 = .ok (.newarray .long, 2) := by decide +kernel
theorem dX14_init_211 : decode cX14_init 211 = .ok (.putfield 86, 3) := by decide +kernel
theorem dX14_init_214 : decode cX14_init 214 = .ok (.aload_n 0, 1) := by decide +kernel
theorem dX14_init_215 : decode cX14_init 215 = .ok (.bipush 16, 2) := by decide +kernel
theorem dX14_init_217 : decode cX14_init 217 = .ok (.newarray .long, 2) := by decide +kernel
theorem dX14_init_219 : decode cX14_init 219 = .ok (.putfield 89, 3) := by decide +kernel
theorem dX14_init_222 : decode cX14_init 222 = .ok (.aload_n 0, 1) := by decide +kernel
theorem dX14_init_223 : decode cX14_init 223 = .ok (.bipush 16, 2) := by decide +kernel
theorem dX14_init_225 : decode cX14_init 225 = .ok (.newarray .long, 2) := by decide +kernel
theorem dX14_init_227 : decode cX14_init 227 = .ok (.putfield 92, 3) := by decide +kernel
theorem dX14_init_230 : decode cX14_init 230 = .ok (.aload_n 0, 1) := by decide +kernel
theorem dX14_init_231 : decode cX14_init 231 = .ok (.bipush 16, 2) := by decide +kernel
theorem dX14_init_233 : decode cX14_init 233 = .ok (.newarray .long, 2) := by decide +kernel
theorem dX14_init_235 : decode cX14_init 235 = .ok (.putfield 95, 3) := by decide +kernel
theorem dX14_init_238 : decode cX14_init 238 = .ok (.aload_n 0, 1) := by decide +kernel
theorem dX14_init_239 : decode cX14_init 239 = .ok (.bipush 16, 2) := by decide +kernel
theorem dX14_init_241 : decode cX14_init 241 = .ok (.newarray .long, 2) := by decide +kernel
theorem dX14_init_243 : decode cX14_init 243 = .ok (.putfield 98, 3) := by decide +kernel
theorem dX14_init_246 : decode cX14_init 246 = .ok (.aload_n 0, 1) := by decide +kernel
theorem dX14_init_247 : decode cX14_init 247 = .ok (.bipush 32, 2) := by decide +kernel
theorem dX14_init_249 : decode cX14_init 249 = .ok (.newarray .byte, 2) := by decide +kernel
theorem dX14_init_251 : decode cX14_init 251 = .ok (.putfield 101, 3) := by decide +kernel
theorem dX14_init_254 : decode cX14_init 254 = .ok (.aload_n 0, 1) := by decide +kernel
theorem dX14_init_255 : decode cX14_init 255 = .ok (.bipush 32, 2) := by decide +kernel
theorem dX14_init_257 : decode cX14_init 257 = .ok (.newarray .byte, 2) := by decide +kernel
theorem dX14_init_259 : decode cX14_init 259 = .ok (.putfield 104, 3) := by decide +kernel
theorem dX14_init_262 : decode cX14_init 262 = .ok (.aload_n 0, 1) := by decide +kernel
theorem dX14_init_263 : decode cX14_init 263 = .ok (.bipush 32, 2) := by decide +kernel
theorem dX14_init_265 : decode cX14_init 265 = .ok (.newarray .byte, 2) := by decide +kernel
theorem dX14_init_267 : decode cX14_init 267 = .ok (.putfield 107, 3) := by decide +kernel
theorem dX14_init_270 : decode cX14_init 270 = .ok (.aload_n 0, 1) := by decide +kernel
theorem dX14_init_271 : decode cX14_init 271 = .ok (.sipush 512, 3) := by decide +kernel
theorem dX14_init_274 : decode cX14_init 274 = .ok (.newarray .byte, 2) := by decide +kernel
theorem dX14_init_276 : decode cX14_init 276 = .ok (.putfield 110, 3) := by decide +kernel
theorem dX14_init_279 : decode cX14_init 279 = .ok (.aload_n 0, 1) := by decide +kernel
theorem dX14_init_280 : decode cX14_init 280 = .ok (.bipush 8, 2) := by decide +kernel
theorem dX14_init_282 : decode cX14_init 282 = .ok (.newarray .int, 2) := by decide +kernel
theorem dX14_init_284 : decode cX14_init 284 = .ok (.dup, 1) := by decide +kernel
theorem dX14_init_285 : decode cX14_init 285 = .ok (.iconst 0, 1) := by decide +kernel
theorem dX14_init_286 : decode cX14_init 286 = .ok (.ldc 113, 2) := by decide +kernel
theorem dX14_init_288 : decode cX14_init 288 = .ok (.iastore, 1) := by decide +kernel
theorem dX14_init_289 : decode cX14_init 289 = .ok (.dup, 1) := by decide +kernel
theorem dX14_init_290 : decode cX14_init 290 = .ok (.iconst 1, 1) := by decide +kernel
theorem dX14_init_291 : decode cX14_init 291 = .ok (.sipush 23797, 3) := by decide +kernel
theorem dX14_init_294 : decode cX14_init 294 = .ok (.iastore, 1) := by decide +kernel
theorem dX14_init_295 : decode cX14_init 295 = .ok (.dup, 1) := by decide +kernel
theorem dX14_init_296 : decode cX14_init 296 = .ok (.iconst 2, 1) := by decide +kernel
theorem dX14_init_297 : decode cX14_init 297 = .ok (.sipush 25370, 3) := by decide +kernel
theorem dX14_init_300 : decode cX14_init 300 = .ok (.iastore, 1) := by decide +kernel
theorem dX14_init_301 : decode cX14_init 301 = .ok (.dup, 1) := by decide +kernel
theorem dX14_init_302 : decode cX14_init 302 = .ok (.iconst 3, 1) := by decide +kernel
theorem dX14_init_303 : decode cX14_init 303 = .ok (.sipush 22546, 3) := by decide +kernel
theorem dX14_init_306 : decode cX14_init 306 = .ok (.iastore, 1) := by decide +kernel
theorem dX14_init_307 : decode cX14_init 307 = .ok (.dup, 1) := by decide +kernel
theorem dX14_init_308 : decode cX14_init 308 = .ok (.iconst 4, 1) := by decide +kernel
theorem dX14_init_309 : decode cX14_init 309 = .ok (.ldc 114, 2) := by decide +kernel
theorem dX14_init_311 : decode cX14_init 311 = .ok (.iastore, 1) := by decide +kernel
theorem dX14_init_312 : decode cX14_init 312 = .ok (.dup, 1) := by decide +kernel
theorem dX14_init_313 : decode cX14_init 313 = .ok (.iconst 5, 1) := by decide +kernel
theorem dX14_init_314 : decode cX14_init 314 = .ok (.ldc 115, 2) := by decide +kernel
theorem dX14_init_316 : decode cX14_init 316 = .ok (.iastore, 1) := by decide +kernel
theorem dX14_init_317 : decode cX14_init 317 = .ok (.dup, 1) := by decide +kernel
theorem dX14_init_318 : decode cX14_init 318 = .ok (.bipush 6, 2) := by decide +kernel
theorem dX14_init_320 : decode cX14_init 320 = .ok (.ldc 116, 2) := by decide +kernel
theorem dX14_init_322 : decode cX14_init 322 = .ok (.iastore, 1) := by decide +kernel
theorem dX14_init_323 : decode cX14_init 323 = .ok (.dup, 1) := by decide +kernel
theorem dX14_init_324 : decode cX14_init 324 = .ok (.bipush 7, 2) := by decide +kernel
theorem dX14_init_326 : decode cX14_init 326 = .ok (.sipush 5342, 3) := by decide +kernel
theorem dX14_init_329 : decode cX14_init 329 = .ok (.iastore, 1) := by decide +kernel
theorem dX14_init_330 : decode cX14_init 330 = .ok (.putfield 117, 3) := by decide +kernel
theorem dX14_init_333 : decode cX14_init 333 = .ok (.aload_n 0, 1) := by decide +kernel
theorem dX14_init_334 : decode cX14_init 334 = .ok (.aload_n 1, 1) := by decide +kernel
theorem dX14_init_335 : decode cX14_init 335 = .ok (.putfield 121, 3) := by decide +kernel
theorem dX14_init_338 : decode cX14_init 338 = .ok (.iconst 0, 1) := by decide +kernel
theorem dX14_init_339 : decode cX14_init 339 = .ok (.istore_n 2, 1) := by decide +kernel
theorem dX14_init_340 : decode cX14_init 340 = .ok (.iload_n 2, 1) := by decide +kernel
theorem dX14_init_341 : decode cX14_init 341 = .ok (.bipush 16, 2) := by decide +kernel
theorem dX14_init_343 : decode cX14_init 343 = .ok (.if_icmp .ge 40, 3) := by decide +kernel
theorem dX14_init_346 : decode cX14_init 346 = .ok (.aload_n 0, 1) := by decide +kernel
theorem dX14_init_347 : decode cX14_init 347 = .ok (.getfield 13, 3) := by decide +kernel
theorem dX14_init_350 : decode cX14_init 350 = .ok (.iload_n 2, 1) := by decide +kernel
theorem dX14_init_351 : decode cX14_init 351 = .ok (.iload_n 2, 1) := by decide +kernel
theorem dX14_init_352 : decode cX14_init 352 = .ok (.ifCond .ne 9, 3) := by decide +kernel
theorem dX14_init_355 : decode cX14_init 355 = .ok (.ldc2_w 125, 3) := by decide +kernel
theorem dX14_init_358 : decode cX14_init 358 = .ok (.goto 18, 3) := by decide +kernel
theorem dX14_init_361 : decode cX14_init 361 = .ok (.iload_n 2, 1) := by decide +kernel
theorem dX14_init_362 : decode cX14_init 362 = .ok (.bipush 15, 2) := by decide +kernel
theorem dX14_init_364 : decode cX14_init 364 = .ok (.if_icmp .ne 9, 3) := by decide +kernel
theorem dX14_init_367 : decode cX14_init 367 = .ok (.ldc2_w 127, 3) := by decide +kernel
theorem dX14_init_370 : decode cX14_init 370 = .ok (.goto 6, 3) := by decide +kernel
theorem dX14_init_373 : decode cX14_init 373 = .ok (.ldc2_w 129, 3) := by decide +kernel
theorem dX14_init_376 : decode cX14_init 376 = .ok (.lastore, 1) := by decide +kernel
theorem dX14_init_377 : decode cX14_init 377 = .ok (.iinc 2 1, 3) := by decide +kernel
theorem dX14_init_380 : decode cX14_init 380 = .ok (.goto (-40), 3) := by decide +kernel
theorem dX14_init_383 : decode cX14_init 383 = .ok (.aload_n 0, 1) := by decide +kernel
theorem dX14_init_384 : decode cX14_init 384 = .ok (.getfield 17, 3) := by decide +kernel
theorem dX14_init_387 : decode cX14_init 387 = .ok (.aload_n 0, 1) := by decide +kernel
theorem dX14_init_388 : decode cX14_init 388 = .ok (.getfield 13, 3) := by decide +kernel
theorem dX14_init_391 : decode cX14_init 391 = .ok (.aload_n 0, 1) := by decide +kernel
theorem dX14_init_392 : decode cX14_init 392 = .ok (.getfield 56, 3) := by decide +kernel
theorem dX14_init_395 : decode cX14_init 395 = .ok (.invokestatic 131, 3) := by decide +kernel
theorem dX14_init_398 : decode cX14_init 398 = .ok (.iconst 0, 1) := by decide +kernel
theorem dX14_init_399 : decode cX14_init 399 = .ok (.istore_n 2, 1) := by decide +kernel
theorem dX14_init_400 : decode cX14_init 400 = .ok (.iload_n 2, 1) := by decide +kernel
theorem dX14_init_401 : decode cX14_init 401 = .ok (.bipush 16, 2) := by decide +kernel
theorem dX14_init_403 : decode cX14_init 403 = .ok (.if_icmp .ge 44, 3) := by decide +kernel
theorem dX14_init_406 : decode cX14_init 406 = .ok (.aload_n 0, 1) := by decide +kernel
theorem dX14_init_407 : decode cX14_init 407 = .ok (.getfield 20, 3) := by decide +kernel
theorem dX14_init_410 : decode cX14_init 410 = .ok (.iload_n 2, 1) := by decide +kernel
theorem dX14_init_411 : decode cX14_init 411 = .ok (.iload_n 2, 1) := by decide +kernel
theorem dX14_init_412 : decode cX14_init 412 = .ok (.bipush 8, 2) := by decide +kernel
theorem dX14_init_414 : decode cX14_init 414 = .ok (.if_icmp .ge 13, 3) := by decide +kernel
theorem dX14_init_417 : decode cX14_init 417 = .ok (.aload_n 0, 1) := by decide +kernel
theorem dX14_init_418 : decode cX14_init 418 = .ok (.getfield 117, 3) := by decide +kernel
theorem dX14_init_421 : decode cX14_init 421 = .ok (.iload_n 2, 1) := by decide +kernel
theorem dX14_init_422 : decode cX14_init 422 = .ok (.iaload, 1) := by decide +kernel
theorem dX14_init_423 : decode cX14_init 423 = .ok (.i2l, 1) := by decide +kernel
theorem dX14_init_424 : decode cX14_init 424 = .ok (.goto 16, 3) := by decide +kernel
theorem dX14_init_427 : decode cX14_init 427 = .ok (.iload_n 2, 1) := by decide +kernel
theorem dX14_init_428 : decode cX14_init 428 = .ok (.bipush 15, 2) := by decide +kernel
theorem dX14_init_430 : decode cX14_init 430 = .ok (.if_icmp .ne 9, 3) := by decide +kernel
theorem dX14_init_433 : decode cX14_init 433 = .ok (.ldc2_w 135, 3) := by decide +kernel
theorem dX14_init_436 : decode cX14_init 436 = .ok (.goto 4, 3) := by decide +kernel
theorem dX14_init_439 : decode cX14_init 439 = .ok (.lconst 0, 1) := by decide +kernel
theorem dX14_init_440 : decode cX14_init 440 = .ok (.lastore, 1) := by decide +kernel
theorem dX14_init_441 : decode cX14_init 441 = .ok (.iinc 2 1, 3) := by decide +kernel
theorem dX14_init_444 : decode cX14_init 444 = .ok (.goto (-44), 3) := by decide +kernel
theorem dX14_init_447 : decode cX14_init 447 = .ok (.aload_n 0, 1) := by decide +kernel
theorem dX14_init_448 : decode cX14_init 448 = .ok (.getfield 23, 3) := by decide +kernel
theorem dX14_init_451 : decode cX14_init 451 = .ok (.aload_n 0, 1) := by decide +kernel
theorem dX14_init_452 : decode cX14_init 452 = .ok (.getfield 20, 3) := by decide +kernel
theorem dX14_init_455 : decode cX14_init 455 = .ok (.aload_n 0, 1) := by decide +kernel
theorem dX14_init_456 : decode cX14_init 456 = .ok (.getfield 56, 3) := by decide +kernel
theorem dX14_init_459 : decode cX14_init 459 = .ok (.invokestatic 131, 3) := by decide +kernel
theorem dX14_init_462 : decode cX14_init 462 = .ok (.aload_n 0, 1) := by decide +kernel
theorem dX14_init_463 : decode cX14_init 463 = .ok (.getfield 86, 3) := by decide +kernel
theorem dX14_init_466 : decode cX14_init 466 = .ok (.iconst 1, 1) := by decide +kernel
theorem dX14_init_467 : decode cX14_init 467 = .ok (.invokestatic 137, 3) := by decide +kernel
theorem dX14_init_470 : decode cX14_init 470 = .ok (.aload_n 0, 1) := by decide +kernel
theorem dX14_init_471 : decode cX14_init 471 = .ok (.getfield 56, 3) := by decide +kernel
theorem dX14_init_474 : decode cX14_init 474 = .ok (.iconst 0, 1) := by decide +kernel
theorem dX14_init_475 : decode cX14_init 475 = .ok (.invokestatic 137, 3) := by decide +kernel
theorem dX14_init_478 : decode cX14_init 478 = .ok (.aload_n 0, 1) := by decide +kernel
theorem dX14_init_479 : decode cX14_init 479 = .ok (.getfield 59, 3) := by decide +kernel
theorem dX14_init_482 : decode cX14_init 482 = .ok (.iconst 0, 1) := by decide +kernel
theorem dX14_init_483 : decode cX14_init 483 = .ok (.invokestatic 137, 3) := by decide +kernel
theorem dX14_init_486 : decode cX14_init 486 = .ok (.aload_n 0, 1) := by decide +kernel
theorem dX14_init_487 : decode cX14_init 487 = .ok (.getfield 56, 3) := by decide +kernel
theorem dX14_init_490 : decode cX14_init 490 = .ok (.iconst 0, 1) := by decide +kernel
theorem dX14_init_491 : decode cX14_init 491 = .ok (.ldc2_w 141, 3) := by decide +kernel
theorem dX14_init_494 : decode cX14_init 494 = .ok (.lastore, 1) := by decide +kernel
theorem dX14_init_495 : decode cX14_init 495 = .ok (.aload_n 0, 1) := by decide +kernel
theorem dX14_init_496 : decode cX14_init 496 = .ok (.getfield 56, 3) := by decide +kernel
theorem dX14_init_499 : decode cX14_init 499 = .ok (.iconst 1, 1) := by decide +kernel
theorem dX14_init_500 : decode cX14_init 500 = .ok (.lconst 1, 1) := by decide +kernel
theorem dX14_init_501 : decode cX14_init 501 = .ok (.lastore, 1) := by decide +kernel
theorem dX14_init_502 : decode cX14_init 502 = .ok (.aload_n 0, 1) := by decide +kernel
theorem dX14_init_503 : decode cX14_init 503 = .ok (.getfield 59, 3) := by decide +kernel
theorem dX14_init_506 : decode cX14_init 506 = .ok (.iconst 0, 1) := by decide +kernel
theorem dX14_init_507 : decode cX14_init 507 = .ok (.ldc2_w 143, 3) := by decide +kernel
theorem dX14_init_510 : decode cX14_init 510 = .ok (.lastore, 1) := by decide +kernel
theorem dX14_init_511 : decode cX14_init 511 = .ok (.aload_n 0, 1) := by decide +kernel
theorem dX14_init_512 : decode cX14_init 512 = .ok (.getfield 59, 3) := by decide +kernel
theorem dX14_init_515 : decode cX14_init 515 = .ok (.iconst 1, 1) := by decide +kernel
theorem dX14_init_516 : decode cX14_init 516 = .ok (.lconst 1, 1) := by decide +kernel
theorem dX14_init_517 : decode cX14_init 517 = .ok (.lastore, 1) := by decide +kernel
theorem dX14_init_518 : decode cX14_init 518 = .ok (.aload_n 0, 1) := by decide +kernel
theorem dX14_init_519 : decode cX14_init 519 = .ok (.aload_n 0, 1) := by decide +kernel
theorem dX14_init_520 : decode cX14_init 520 = .ok (.getfield 62, 3) := by decide +kernel
theorem dX14_init_523 : decode cX14_init 523 = .ok (.aload_n 0, 1) := by decide +kernel
theorem dX14_init_524 : decode cX14_init 524 = .ok (.getfield 59, 3) := by decide +kernel
theorem dX14_init_527 : decode cX14_init 527 = .ok (.aload_n 0, 1) := by decide +kernel
theorem dX14_init_528 : decode cX14_init 528 = .ok (.getfield 13, 3) := by decide +kernel
theorem dX14_init_531 : decode cX14_init 531 = .ok (.invokevirtual 145, 3) := by decide +kernel
theorem dX14_init_534 : decode cX14_init 534 = .ok (.aload_n 0, 1) := by decide +kernel
theorem dX14_init_535 : decode cX14_init 535 = .ok (.aload_n 0, 1) := by decide +kernel
theorem dX14_init_536 : decode cX14_init 536 = .ok (.getfield 26, 3) := by decide +kernel
theorem dX14_init_539 : decode cX14_init 539 = .ok (.aload_n 0, 1) := by decide +kernel
theorem dX14_init_540 : decode cX14_init 540 = .ok (.getfield 56, 3) := by decide +kernel
theorem dX14_init_543 : decode cX14_init 543 = .ok (.aload_n 0, 1) := by decide +kernel
theorem dX14_init_544 : decode cX14_init 544 = .ok (.getfield 62, 3) := by decide +kernel
theorem dX14_init_547 : decode cX14_init 547 = .ok (.aload_n 0, 1) := by decide +kernel
theorem dX14_init_548 : decode cX14_init 548 = .ok (.getfield 13, 3) := by decide +kernel
theorem dX14_init_551 : decode cX14_init 551 = .ok (.aload_n 0, 1) := by decide +kernel
theorem dX14_init_552 : decode cX14_init 552 = .ok (.getfield 17, 3) := by decide +kernel
theorem dX14_init_555 : decode cX14_init 555 = .ok (.invokevirtual 148, 3) := by decide +kernel
theorem dX14_init_558 : decode cX14_init 558 = .ok (.aload_n 0, 1) := by decide +kernel
theorem dX14_init_559 : decode cX14_init 559 = .ok (.getfield 59, 3) := by decide +kernel
theorem dX14_init_562 : decode cX14_init 562 = .ok (.iconst 0, 1) := by decide +kernel
theorem dX14_init_563 : decode cX14_init 563 = .ok (.invokestatic 137, 3) := by decide +kernel
theorem dX14_init_566 : decode cX14_init 566 = .ok (.aload_n 0, 1) := by decide +kernel
theorem dX14_init_567 : decode cX14_init 567 = .ok (.getfield 26, 3) := by decide +kernel
theorem dX14_init_570 : decode cX14_init 570 = .ok (.aload_n 0, 1) := by decide +kernel
theorem dX14_init_571 : decode cX14_init 571 = .ok (.getfield 59, 3) := by decide +kernel
theorem dX14_init_574 : decode cX14_init 574 = .ok (.aload_n 0, 1) := by decide +kernel
theorem dX14_init_575 : decode cX14_init 575 = .ok (.getfield 26, 3) := by decide +kernel
theorem dX14_init_578 : decode cX14_init 578 = .ok (.aload_n 0, 1) := by decide +kernel
theorem dX14_init_579 : decode cX14_init 579 = .ok (.getfield 13, 3) := by decide +kernel
theorem dX14_init_582 : decode cX14_init 582 = .ok (.invokestatic 152, 3) := by decide +kernel
theorem dX14_init_585 : decode cX14_init 585 = .ok (.aload_n 0, 1) := by decide +kernel
theorem dX14_init_586 : decode cX14_init 586 = .ok (.getfield 56, 3) := by decide +kernel
theorem dX14_init_589 : decode cX14_init 589 = .ok (.iconst 2, 1) := by decide +kernel
theorem dX14_init_590 : decode cX14_init 590 = .ok (.invokestatic 137, 3) := by decide +kernel
theorem dX14_init_593 : decode cX14_init 593 = .ok (.iconst 0, 1) := by decide +kernel
theorem dX14_init_594 : decode cX14_init 594 = .ok (.istore_n 2, 1) := by decide +kernel
theorem dX14_init_595 : decode cX14_init 595 = .ok (.iload_n 2, 1) := by decide +kernel
theorem dX14_init_596 : decode cX14_init 596 = .ok (.bipush 16, 2) := by decide +kernel
theorem dX14_init_598 : decode cX14_init 598 = .ok (.if_icmp .ge 40, 3) := by decide +kernel
theorem dX14_init_601 : decode cX14_init 601 = .ok (.aload_n 0, 1) := by decide +kernel
theorem dX14_init_602 : decode cX14_init 602 = .ok (.getfield 65, 3) := by decide +kernel
theorem dX14_init_605 : decode cX14_init 605 = .ok (.iload_n 2, 1) := by decide +kernel
theorem dX14_init_606 : decode cX14_init 606 = .ok (.iload_n 2, 1) := by decide +kernel
theorem dX14_init_607 : decode cX14_init 607 = .ok (.ifCond .ne 9, 3) := by decide +kernel
theorem dX14_init_610 : decode cX14_init 610 = .ok (.ldc2_w 156, 3) := by decide +kernel
theorem dX14_init_613 : decode cX14_init 613 = .ok (.goto 18, 3) := by decide +kernel
theorem dX14_init_616 : decode cX14_init 616 = .ok (.iload_n 2, 1) := by decide +kernel
theorem dX14_init_617 : decode cX14_init 617 = .ok (.bipush 15, 2) := by decide +kernel
theorem dX14_init_619 : decode cX14_init 619 = .ok (.if_icmp .ne 9, 3) := by decide +kernel
theorem dX14_init_622 : decode cX14_init 622 = .ok (.ldc2_w 158, 3) := by decide +kernel
theorem dX14_init_625 : decode cX14_init 625 = .ok (.goto 6, 3) := by decide +kernel
theorem dX14_init_628 : decode cX14_init 628 = .ok (.ldc2_w 129, 3) := by decide +kernel
theorem dX14_init_631 : decode cX14_init 631 = .ok (.lastore, 1) := by decide +kernel
theorem dX14_init_632 : decode cX14_init 632 = .ok (.iinc 2 1, 3) := by decide +kernel
theorem dX14_init_635 : decode cX14_init 635 = .ok (.goto (-40), 3) := by decide +kernel
theorem dX14_init_638 : decode cX14_init 638 = .ok (.aload_n 0, 1) := by decide +kernel
theorem dX14_init_639 : decode cX14_init 639 = .ok (.aload_n 0, 1) := by decide +kernel
theorem dX14_init_640 : decode cX14_init 640 = .ok (.getfield 29, 3) := by decide +kernel
theorem dX14_init_643 : decode cX14_init 643 = .ok (.aload_n 0, 1) := by decide +kernel
theorem dX14_init_644 : decode cX14_init 644 = .ok (.getfield 56, 3) := by decide +kernel
theorem dX14_init_647 : decode cX14_init 647 = .ok (.aload_n 0, 1) := by decide +kernel
theorem dX14_init_648 : decode cX14_init 648 = .ok (.getfield 65, 3) := by decide +kernel
theorem dX14_init_651 : decode cX14_init 651 = .ok (.invokevirtual 160, 3) := by decide +kernel
theorem dX14_init_654 : decode cX14_init 654 = .ok (.aload_n 0, 1) := by decide +kernel
theorem dX14_init_655 : decode cX14_init 655 = .ok (.getfield 56, 3) := by decide +kernel
theorem dX14_init_658 : decode cX14_init 658 = .ok (.iconst 5, 1) := by decide +kernel
theorem dX14_init_659 : decode cX14_init 659 = .ok (.invokestatic 137, 3) := by decide +kernel
theorem dX14_init_662 : decode cX14_init 662 = .ok (.aload_n 0, 1) := by decide +kernel
theorem dX14_init_663 : decode cX14_init 663 = .ok (.aload_n 0, 1) := by decide +kernel
theorem dX14_init_664 : decode cX14_init 664 = .ok (.getfield 62, 3) := by decide +kernel
theorem dX14_init_667 : decode cX14_init 667 = .ok (.aload_n 0, 1) := by decide +kernel
theorem dX14_init_668 : decode cX14_init 668 = .ok (.getfield 56, 3) := by decide +kernel
theorem dX14_init_671 : decode cX14_init 671 = .ok (.aload_n 0, 1) := by decide +kernel
theorem dX14_init_672 : decode cX14_init 672 = .ok (.getfield 13, 3) := by decide +kernel
theorem dX14_init_675 : decode cX14_init 675 = .ok (.invokevirtual 145, 3) := by decide +kernel
theorem dX14_init_678 : decode cX14_init 678 = .ok (.aload_n 0, 1) := by decide +kernel
theorem dX14_init_679 : decode cX14_init 679 = .ok (.getfield 56, 3) := by decide +kernel
theorem dX14_init_682 : decode cX14_init 682 = .ok (.iconst 4, 1) := by decide +kernel
theorem dX14_init_683 : decode cX14_init 683 = .ok (.invokestatic 137, 3) := by decide +kernel
theorem dX14_init_686 : decode cX14_init 686 = .ok (.aload_n 0, 1) := by decide +kernel
theorem dX14_init_687 : decode cX14_init 687 = .ok (.aload_n 0, 1) := by decide +kernel
theorem dX14_init_688 : decode cX14_init 688 = .ok (.getfield 35, 3) := by decide +kernel
theorem dX14_init_691 : decode cX14_init 691 = .ok (.aload_n 0, 1) := by decide +kernel
theorem dX14_init_692 : decode cX14_init 692 = .ok (.getfield 56, 3) := by decide +kernel
theorem dX14_init_695 : decode cX14_init 695 = .ok (.aload_n 0, 1) := by decide +kernel
theorem dX14_init_696 : decode cX14_init 696 = .ok (.getfield 62, 3) := by decide +kernel
theorem dX14_init_699 : decode cX14_init 699 = .ok (.aload_n 0, 1) := by decide +kernel
theorem dX14_init_700 : decode cX14_init 700 = .ok (.getfield 13, 3) := by decide +kernel
theorem dX14_init_703 : decode cX14_init 703 = .ok (.aload_n 0, 1) := by decide +kernel
theorem dX14_init_704 : decode cX14_init 704 = .ok (.getfield 17, 3) := by decide +kernel
theorem dX14_init_707 : decode cX14_init 707 = .ok (.invokevirtual 148, 3) := by decide +kernel
theorem dX14_init_710 : decode cX14_init 710 = .ok (.iconst 0, 1) := by decide +kernel
theorem dX14_init_711 : decode cX14_init 711 = .ok (.istore_n 2, 1) := by decide +kernel
theorem dX14_init_712 : decode cX14_init 712 = .ok (.iload_n 2, 1) := by decide +kernel
theorem dX14_init_713 : decode cX14_init 713 = .ok (.bipush 32, 2) := by decide +kernel
theorem dX14_init_715 : decode cX14_init 715 = .ok (.if_icmp .ge 32, 3) := by decide +kernel
theorem dX14_init_718 : decode cX14_init 718 = .ok (.aload_n 0, 1) := by decide +kernel
theorem dX14_init_719 : decode cX14_init 719 = .ok (.getfield 101, 3) := by decide +kernel
theorem dX14_init_722 : decode cX14_init 722 = .ok (.iload_n 2, 1) := by decide +kernel
theorem dX14_init_723 : decode cX14_init 723 = .ok (.aload_n 0, 1) := by decide +kernel
theorem dX14_init_724 : decode cX14_init 724 = .ok (.getfield 35, 3) := by decide +kernel
theorem dX14_init_727 : decode cX14_init 727 = .ok (.iload_n 2, 1) := by decide +kernel
theorem dX14_init_728 : decode cX14_init 728 = .ok (.iconst 2, 1) := by decide +kernel
theorem dX14_init_729 : decode cX14_init 729 = .ok (.idiv, 1) := by decide +kernel
theorem dX14_init_730 : decode cX14_init 730 = .ok (.laload, 1) := by decide +kernel
theorem dX14_init_731 : decode cX14_init 731 = .ok (.bipush 8, 2) := by decide +kernel
theorem dX14_init_733 : decode cX14_init 733 = .ok (.iload_n 2, 1) := by decide +kernel
theorem dX14_init_734 : decode cX14_init 734 = .ok (.iconst 2, 1) := by decide +kernel
theorem dX14_init_735 : decode cX14_init 735 = .ok (.irem, 1) := by decide +kernel
theorem dX14_init_736 : decode cX14_init 736 = .ok (.imul, 1) := by decide +kernel
theorem dX14_init_737 : decode cX14_init 737 = .ok (.lshr, 1) := by decide +kernel
theorem dX14_init_738 : decode cX14_init 738 = .ok (.l2i, 1) := by decide +kernel
theorem dX14_init_739 : decode cX14_init 739 = .ok (.i2b, 1) := by decide +kernel
theorem dX14_init_740 : decode cX14_init 740 = .ok (.bastore, 1) := by decide +kernel
theorem dX14_init_741 : decode cX14_init 741 = .ok (.iinc 2 1, 3) := by decide +kernel
theorem dX14_init_744 : decode cX14_init 744 = .ok (.goto (-32), 3) := by decide +kernel
theorem dX14_init_747 : decode cX14_init 747 = .ok (.aload_n 0, 1) := by decide +kernel
theorem dX14_init_748 : decode cX14_init 748 = .ok (.invokevirtual 163, 3) := by decide +kernel
theorem dX14_init_751 : decode cX14_init 751 = .ok (.pop, 1) := by decide +kernel
theorem dX14_init_752 : decode cX14_init 752 = .ok (.aload_n 0, 1) := by decide +kernel
theorem dX14_init_753 : decode cX14_init 753 = .ok (.getfield 32, 3) := by decide +kernel
theorem dX14_init_756 : decode cX14_init 756 = .ok (.aload_n 0, 1) := by decide +kernel
theorem dX14_init_757 : decode cX14_init 757 = .ok (.getfield 44, 3) := by decide +kernel
theorem dX14_init_760 : decode cX14_init 760 = .ok (.invokestatic 167, 3) := by decide +kernel
theorem dX14_init_763 : decode cX14_init 763 = .ok (.return_, 1) := by decide +kernel
theorem dX14_power_0 : decode cX14_power 0 = .ok (.aload_n 0, 1) := by decide +kernel
theorem dX14_power_1 : decode cX14_power 1 = .ok (.getfield 68, 3) := by decide +kernel
theorem dX14_power_4 : decode cX14_power 4 = .ok (.iconst 1, 1) := by decide +kernel
theorem dX14_power_5 : decode cX14_power 5 = .ok (.invokestatic 137, 3) := by decide +kernel
theorem dX14_power_8 : decode cX14_power 8 = .ok (.sipush 255, 3) := by decide +kernel
theorem dX14_power_11 : decode cX14_power 11 = .ok (.istore 4, 2) := by decide +kernel
theorem dX14_power_13 : decode cX14_power 13 = .ok (.iload 4, 2) := by decide +kernel
theorem dX14_power_15 : decode cX14_power 15 = .ok (.ifCond .lt 64, 3) := by decide +kernel
theorem dX14_power_18 : decode cX14_power 18 = .ok (.aload_n 0, 1) := by decide +kernel
theorem dX14_power_19 : decode cX14_power 19 = .ok (.aload_n 0, 1) := by decide +kernel
theorem dX14_power_20 : decode cX14_power 20 = .ok (.getfield 68, 3) := by decide +kernel
theorem dX14_power_23 : decode cX14_power 23 = .ok (.aload_n 0, 1) := by decide +kernel
theorem dX14_power_24 : decode cX14_power 24 = .ok (.getfield 68, 3) := by decide +kernel
theorem dX14_power_27 : decode cX14_power 27 = .ok (.aload_n 0, 1) := by decide +kernel
theorem dX14_power_28 : decode cX14_power 28 = .ok (.getfield 68, 3) := by decide +kernel
theorem dX14_power_31 : decode cX14_power 31 = .ok (.aload_n 0, 1) := by decide +kernel
theorem dX14_power_32 : decode cX14_power 32 = .ok (.getfield 13, 3) := by decide +kernel
theorem dX14_power_35 : decode cX14_power 35 = .ok (.aload_n 0, 1) := by decide +kernel
theorem dX14_power_36 : decode cX14_power 36 = .ok (.getfield 17, 3) := by decide +kernel
theorem dX14_power_39 : decode cX14_power 39 = .ok (.invokevirtual 148, 3) := by decide +kernel
theorem dX14_power_42 : decode cX14_power 42 = .ok (.aload_n 3, 1) := by decide +kernel
theorem dX14_power_43 : decode cX14_power 43 = .ok (.iload 4, 2) := by decide +kernel
theorem dX14_power_45 : decode cX14_power 45 = .ok (.invokestatic 171, 3) := by decide +kernel
theorem dX14_power_48 : decode cX14_power 48 = .ok (.iconst 1, 1) := by decide +kernel
theorem dX14_power_49 : decode cX14_power 49 = .ok (.if_icmp .ne 24, 3) := by decide +kernel
theorem dX14_power_52 : decode cX14_power 52 = .ok (.aload_n 0, 1) := by decide +kernel
theorem dX14_power_53 : decode cX14_power 53 = .ok (.aload_n 0, 1) := by decide +kernel
theorem dX14_power_54 : decode cX14_power 54 = .ok (.getfield 68, 3) := by decide +kernel
theorem dX14_power_57 : decode cX14_power 57 = .ok (.aload_n 0, 1) := by decide +kernel
theorem dX14_power_58 : decode cX14_power 58 = .ok (.getfield 68, 3) := by decide +kernel
theorem dX14_power_61 : decode cX14_power 61 = .ok (.aload_n 2, 1) := by decide +kernel
theorem dX14_power_62 : decode cX14_power 62 = .ok (.aload_n 0, 1) := by decide +kernel
theorem dX14_power_63 : decode cX14_power 63 = .ok (.getfield 13, 3) := by decide +kernel
theorem dX14_power_66 : decode cX14_power 66 = .ok (.aload_n 0, 1) := by decide +kernel
theorem dX14_power_67 : decode cX14_power 67 = .ok (.getfield 17, 3) := by decide +kernel
theorem dX14_power_70 : decode cX14_power 70 = .ok (.invokevirtual 148, 3) := by decide +kernel
theorem dX14_power_73 : decode cX14_power 73 = .ok (.iinc 4 (-1), 3) := by decide +kernel
theorem dX14_power_76 : decode cX14_power 76 = .ok (.goto (-63), 3) := by decide +kernel
theorem dX14_power_79 : decode cX14_power 79 = .ok (.aload_n 1, 1) := by decide +kernel
theorem dX14_power_80 : decode cX14_power 80 = .ok (.aload_n 0, 1) := by decide +kernel
theorem dX14_power_81 : decode cX14_power 81 = .ok (.getfield 68, 3) := by decide +kernel
theorem dX14_power_84 : decode cX14_power 84 = .ok (.invokestatic 167, 3) := by decide +kernel
theorem dX14_power_87 : decode cX14_power 87 = .ok (.return_, 1) := by decide +kernel
theorem dX14_decode_0 : decode cX14_decode 0 = .ok (.iconst 0, 1) := by decide +kernel
theorem dX14_decode_1 : decode cX14_decode 1 = .ok (.istore_n 1, 1) := by decide +kernel
theorem dX14_decode_2 : decode cX14_decode 2 = .ok (.iload_n 1, 1) := by decide +kernel
theorem dX14_decode_3 : decode cX14_decode 3 = .ok (.bipush 16, 2) := by decide +kernel
theorem dX14_decode_5 : decode cX14_decode 5 = .ok (.if_icmp .ge 65, 3) := by decide +kernel
theorem dX14_decode_8 : decode cX14_decode 8 = .ok (.aload_n 0, 1) := by decide +kernel
theorem dX14_decode_9 : decode cX14_decode 9 = .ok (.getfield 47, 3) := by decide +kernel
theorem dX14_decode_12 : decode cX14_decode 12 = .ok (.iload_n 1, 1) := by decide +kernel
theorem dX14_decode_13 : decode cX14_decode 13 = .ok (.aload_n 0, 1) := by decide +kernel
theorem dX14_decode_14 : decode cX14_decode 14 = .ok (.getfield 101, 3) := by decide +kernel
theorem dX14_decode_17 : decode cX14_decode 17 = .ok (.iconst 2, 1) := by decide +kernel
theorem dX14_decode_18 : decode cX14_decode 18 = .ok (.iload_n 1, 1) := by decide +kernel
theorem dX14_decode_19 : decode cX14_decode 19 = .ok (.imul, 1) := by decide +kernel
theorem dX14_decode_20 : decode cX14_decode 20 = .ok (.baload, 1) := by decide +kernel
theorem dX14_decode_21 : decode cX14_decode 21 = .ok (.sipush 255, 3) := by decide +kernel
theorem dX14_decode_24 : decode cX14_decode 24 = .ok (.iand, 1) := by decide +kernel
theorem dX14_decode_25 : decode cX14_decode 25 = .ok (.iload_n 1, 1) := by decide +kernel
theorem dX14_decode_26 : decode cX14_decode 26 = .ok (.bipush 15, 2) := by decide +kernel
theorem dX14_decode_28 : decode cX14_decode 28 = .ok (.if_icmp .ne 16, 3) := by decide +kernel
theorem dX14_decode_31 : decode cX14_decode 31 = .ok (.aload_n 0, 1) := by decide +kernel
theorem dX14_decode_32 : decode cX14_decode 32 = .ok (.getfield 101, 3) := by decide +kernel
theorem dX14_decode_35 : decode cX14_decode 35 = .ok (.bipush 31, 2) := by decide +kernel
theorem dX14_decode_37 : decode cX14_decode 37 = .ok (.baload, 1) := by decide +kernel
theorem dX14_decode_38 : decode cX14_decode 38 = .ok (.bipush 127, 2) := by decide +kernel
theorem dX14_decode_40 : decode cX14_decode 40 = .ok (.iand, 1) := by decide +kernel
theorem dX14_decode_41 : decode cX14_decode 41 = .ok (.goto 17, 3) := by decide +kernel
theorem dX14_decode_44 : decode cX14_decode 44 = .ok (.aload_n 0, 1) := by decide +kernel
theorem dX14_decode_45 : decode cX14_decode 45 = .ok (.getfield 101, 3) := by decide +kernel
theorem dX14_decode_48 : decode cX14_decode 48 = .ok (.iconst 2, 1) := by decide +kernel
theorem dX14_decode_49 : decode cX14_decode 49 = .ok (.iload_n 1, 1) := by decide +kernel
theorem dX14_decode_50 : decode cX14_decode 50 = .ok (.imul, 1) := by decide +kernel
theorem dX14_decode_51 : decode cX14_decode 51 = .ok (.iconst 1, 1) := by decide +kernel
theorem dX14_decode_52 : decode cX14_decode 52 = .ok (.iadd, 1) := by decide +kernel
theorem dX14_decode_53 : decode cX14_decode 53 = .ok (.baload, 1) := by decide +kernel
theorem dX14_decode_54 : decode cX14_decode 54 = .ok (.sipush 255, 3) := by decide +kernel
theorem dX14_decode_57 : decode cX14_decode 57 = .ok (.iand, 1) := by decide +kernel
theorem dX14_decode_58 : decode cX14_decode 58 = .ok (.bipush 8, 2) := by decide +kernel
theorem dX14_decode_60 : decode cX14_decode 60 = .ok (.ishl, 1) := by decide +kernel
theorem dX14_decode_61 : decode cX14_decode 61 = .ok (.ior, 1) := by decide +kernel
theorem dX14_decode_62 : decode cX14_decode 62 = .ok (.i2l, 1) := by decide +kernel
theorem dX14_decode_63 : decode cX14_decode 63 = .ok (.lastore, 1) := by decide +kernel
theorem dX14_decode_64 : decode cX14_decode 64 = .ok (.iinc 1 1, 3) := by decide +kernel
theorem dX14_decode_67 : decode cX14_decode 67 = .ok (.goto (-65), 3) := by decide +kernel
theorem dX14_decode_70 : decode cX14_decode 70 = .ok (.aload_n 0, 1) := by decide +kernel
theorem dX14_decode_71 : decode cX14_decode 71 = .ok (.getfield 47, 3) := by decide +kernel
theorem dX14_decode_74 : decode cX14_decode 74 = .ok (.aload_n 0, 1) := by decide +kernel
theorem dX14_decode_75 : decode cX14_decode 75 = .ok (.getfield 13, 3) := by decide +kernel
theorem dX14_decode_78 : decode cX14_decode 78 = .ok (.invokestatic 175, 3) := by decide +kernel
theorem dX14_decode_81 : decode cX14_decode 81 = .ok (.ifCond .ne 5, 3) := by decide +kernel
theorem dX14_decode_84 : decode cX14_decode 84 = .ok (.iconst 0, 1) := by decide +kernel
theorem dX14_decode_85 : decode cX14_decode 85 = .ok (.ireturn, 1) := by decide +kernel
theorem dX14_decode_86 : decode cX14_decode 86 = .ok (.aload_n 0, 1) := by decide +kernel
theorem dX14_decode_87 : decode cX14_decode 87 = .ok (.aload_n 0, 1) := by decide +kernel
theorem dX14_decode_88 : decode cX14_decode 88 = .ok (.getfield 56, 3) := by decide +kernel
theorem dX14_decode_91 : decode cX14_decode 91 = .ok (.aload_n 0, 1) := by decide +kernel
theorem dX14_decode_92 : decode cX14_decode 92 = .ok (.getfield 47, 3) := by decide +kernel
theorem dX14_decode_95 : decode cX14_decode 95 = .ok (.aload_n 0, 1) := by decide +kernel
theorem dX14_decode_96 : decode cX14_decode 96 = .ok (.getfield 47, 3) := by decide +kernel
theorem dX14_decode_99 : decode cX14_decode 99 = .ok (.aload_n 0, 1) := by decide +kernel
theorem dX14_decode_100 : decode cX14_decode 100 = .ok (.getfield 13, 3) := by decide +kernel
theorem dX14_decode_103 : decode cX14_decode 103 = .ok (.aload_n 0, 1) := by decide +kernel
theorem dX14_decode_104 : decode cX14_decode 104 = .ok (.getfield 17, 3) := by decide +kernel
theorem dX14_decode_107 : decode cX14_decode 107 = .ok (.invokevirtual 148, 3) := by decide +kernel
theorem dX14_decode_110 : decode cX14_decode 110 = .ok (.aload_n 0, 1) := by decide +kernel
theorem dX14_decode_111 : decode cX14_decode 111 = .ok (.aload_n 0, 1) := by decide +kernel
theorem dX14_decode_112 : decode cX14_decode 112 = .ok (.getfield 59, 3) := by decide +kernel
theorem dX14_decode_115 : decode cX14_decode 115 = .ok (.aload_n 0, 1) := by decide +kernel
theorem dX14_decode_116 : decode cX14_decode 116 = .ok (.getfield 56, 3) := by decide +kernel
theorem dX14_decode_119 : decode cX14_decode 119 = .ok (.aload_n 0, 1) := by decide +kernel
theorem dX14_decode_120 : decode cX14_decode 120 = .ok (.getfield 26, 3) := by decide +kernel
theorem dX14_decode_123 : decode cX14_decode 123 = .ok (.aload_n 0, 1) := by decide +kernel
theorem dX14_decode_124 : decode cX14_decode 124 = .ok (.getfield 13, 3) := by decide +kernel
theorem dX14_decode_127 : decode cX14_decode 127 = .ok (.aload_n 0, 1) := by decide +kernel
theorem dX14_decode_128 : decode cX14_decode 128 = .ok (.getfield 17, 3) := by decide +kernel
theorem dX14_decode_131 : decode cX14_decode 131 = .ok (.invokevirtual 148, 3) := by decide +kernel
theorem dX14_decode_134 : decode cX14_decode 134 = .ok (.aload_n 0, 1) := by decide +kernel
theorem dX14_decode_135 : decode cX14_decode 135 = .ok (.getfield 56, 3) := by decide +kernel
theorem dX14_decode_138 : decode cX14_decode 138 = .ok (.aload_n 0, 1) := by decide +kernel
theorem dX14_decode_139 : decode cX14_decode 139 = .ok (.getfield 56, 3) := by decide +kernel
theorem dX14_decode_142 : decode cX14_decode 142 = .ok (.aload_n 0, 1) := by decide +kernel
theorem dX14_decode_143 : decode cX14_decode 143 = .ok (.getfield 86, 3) := by decide +kernel
theorem dX14_decode_146 : decode cX14_decode 146 = .ok (.aload_n 0, 1) := by decide +kernel
theorem dX14_decode_147 : decode cX14_decode 147 = .ok (.getfield 13, 3) := by decide +kernel
theorem dX14_decode_150 : decode cX14_decode 150 = .ok (.invokestatic 152, 3) := by decide +kernel
theorem dX14_decode_153 : decode cX14_decode 153 = .ok (.aload_n 0, 1) := by decide +kernel
theorem dX14_decode_154 : decode cX14_decode 154 = .ok (.getfield 59, 3) := by decide +kernel
theorem dX14_decode_157 : decode cX14_decode 157 = .ok (.aload_n 0, 1) := by decide +kernel
theorem dX14_decode_158 : decode cX14_decode 158 = .ok (.getfield 59, 3) := by decide +kernel
theorem dX14_decode_161 : decode cX14_decode 161 = .ok (.aload_n 0, 1) := by decide +kernel
theorem dX14_decode_162 : decode cX14_decode 162 = .ok (.getfield 86, 3) := by decide +kernel
theorem dX14_decode_165 : decode cX14_decode 165 = .ok (.aload_n 0, 1) := by decide +kernel
theorem dX14_decode_166 : decode cX14_decode 166 = .ok (.getfield 13, 3) := by decide +kernel
theorem dX14_decode_169 : decode cX14_decode 169 = .ok (.invokestatic 179, 3) := by decide +kernel
theorem dX14_decode_172 : decode cX14_decode 172 = .ok (.aload_n 0, 1) := by decide +kernel
theorem dX14_decode_173 : decode cX14_decode 173 = .ok (.aload_n 0, 1) := by decide +kernel
theorem dX14_decode_174 : decode cX14_decode 174 = .ok (.getfield 62, 3) := by decide +kernel
theorem dX14_decode_177 : decode cX14_decode 177 = .ok (.aload_n 0, 1) := by decide +kernel
theorem dX14_decode_178 : decode cX14_decode 178 = .ok (.getfield 59, 3) := by decide +kernel
theorem dX14_decode_181 : decode cX14_decode 181 = .ok (.aload_n 0, 1) := by decide +kernel
theorem dX14_decode_182 : decode cX14_decode 182 = .ok (.getfield 13, 3) := by decide +kernel
theorem dX14_decode_185 : decode cX14_decode 185 = .ok (.invokevirtual 145, 3) := by decide +kernel
theorem dX14_decode_188 : decode cX14_decode 188 = .ok (.aload_n 0, 1) := by decide +kernel
theorem dX14_decode_189 : decode cX14_decode 189 = .ok (.aload_n 0, 1) := by decide +kernel
theorem dX14_decode_190 : decode cX14_decode 190 = .ok (.getfield 56, 3) := by decide +kernel
theorem dX14_decode_193 : decode cX14_decode 193 = .ok (.aload_n 0, 1) := by decide +kernel
theorem dX14_decode_194 : decode cX14_decode 194 = .ok (.getfield 56, 3) := by decide +kernel
theorem dX14_decode_197 : decode cX14_decode 197 = .ok (.aload_n 0, 1) := by decide +kernel
theorem dX14_decode_198 : decode cX14_decode 198 = .ok (.getfield 62, 3) := by decide +kernel
theorem dX14_decode_201 : decode cX14_decode 201 = .ok (.aload_n 0, 1) := by decide +kernel
theorem dX14_decode_202 : decode cX14_decode 202 = .ok (.getfield 13, 3) := by decide +kernel
theorem dX14_decode_205 : decode cX14_decode 205 = .ok (.aload_n 0, 1) := by decide +kernel
theorem dX14_decode_206 : decode cX14_decode 206 = .ok (.getfield 17, 3) := by decide +kernel
theorem dX14_decode_209 : decode cX14_decode 209 = .ok (.invokevirtual 148, 3) := by decide +kernel
theorem dX14_decode_212 : decode cX14_decode 212 = .ok (.iconst 0, 1) := by decide +kernel
theorem dX14_decode_213 : decode cX14_decode 213 = .ok (.istore_n 1, 1) := by decide +kernel
theorem dX14_decode_214 : decode cX14_decode 214 = .ok (.iload_n 1, 1) := by decide +kernel
theorem dX14_decode_215 : decode cX14_decode 215 = .ok (.bipush 16, 2) := by decide +kernel
theorem dX14_decode_217 : decode cX14_decode 217 = .ok (.if_icmp .ge 40, 3) := by decide +kernel
theorem dX14_decode_220 : decode cX14_decode 220 = .ok (.aload_n 0, 1) := by decide +kernel
theorem dX14_decode_221 : decode cX14_decode 221 = .ok (.getfield 65, 3) := by decide +kernel
theorem dX14_decode_224 : decode cX14_decode 224 = .ok (.iload_n 1, 1) := by decide +kernel
theorem dX14_decode_225 : decode cX14_decode 225 = .ok (.iload_n 1, 1) := by decide +kernel
theorem dX14_decode_226 : decode cX14_decode 226 = .ok (.ifCond .ne 9, 3) := by decide +kernel
theorem dX14_decode_229 : decode cX14_decode 229 = .ok (.ldc2_w 182, 3) := by decide +kernel
theorem dX14_decode_232 : decode cX14_decode 232 = .ok (.goto 18, 3) := by decide +kernel
theorem dX14_decode_235 : decode cX14_decode 235 = .ok (.iload_n 1, 1) := by decide +kernel
theorem dX14_decode_236 : decode cX14_decode 236 = .ok (.bipush 15, 2) := by decide +kernel
theorem dX14_decode_238 : decode cX14_decode 238 = .ok (.if_icmp .ne 9, 3) := by decide +kernel
theorem dX14_decode_241 : decode cX14_decode 241 = .ok (.ldc2_w 184, 3) := by decide +kernel
theorem dX14_decode_244 : decode cX14_decode 244 = .ok (.goto 6, 3) := by decide +kernel
theorem dX14_decode_247 : decode cX14_decode 247 = .ok (.ldc2_w 129, 3) := by decide +kernel
theorem dX14_decode_250 : decode cX14_decode 250 = .ok (.lastore, 1) := by decide +kernel
theorem dX14_decode_251 : decode cX14_decode 251 = .ok (.iinc 1 1, 3) := by decide +kernel
theorem dX14_decode_254 : decode cX14_decode 254 = .ok (.goto (-40), 3) := by decide +kernel
theorem dX14_decode_257 : decode cX14_decode 257 = .ok (.aload_n 0, 1) := by decide +kernel
theorem dX14_decode_258 : decode cX14_decode 258 = .ok (.aload_n 0, 1) := by decide +kernel
theorem dX14_decode_259 : decode cX14_decode 259 = .ok (.getfield 44, 3) := by decide +kernel
theorem dX14_decode_262 : decode cX14_decode 262 = .ok (.aload_n 0, 1) := by decide +kernel
theorem dX14_decode_263 : decode cX14_decode 263 = .ok (.getfield 56, 3) := by decide +kernel
theorem dX14_decode_266 : decode cX14_decode 266 = .ok (.aload_n 0, 1) := by decide +kernel
theorem dX14_decode_267 : decode cX14_decode 267 = .ok (.getfield 65, 3) := by decide +kernel
theorem dX14_decode_270 : decode cX14_decode 270 = .ok (.invokevirtual 160, 3) := by decide +kernel
theorem dX14_decode_273 : decode cX14_decode 273 = .ok (.aload_n 0, 1) := by decide +kernel
theorem dX14_decode_274 : decode cX14_decode 274 = .ok (.aload_n 0, 1) := by decide +kernel
theorem dX14_decode_275 : decode cX14_decode 275 = .ok (.getfield 62, 3) := by decide +kernel
theorem dX14_decode_278 : decode cX14_decode 278 = .ok (.aload_n 0, 1) := by decide +kernel
theorem dX14_decode_279 : decode cX14_decode 279 = .ok (.getfield 44, 3) := by decide +kernel
theorem dX14_decode_282 : decode cX14_decode 282 = .ok (.aload_n 0, 1) := by decide +kernel
theorem dX14_decode_283 : decode cX14_decode 283 = .ok (.getfield 44, 3) := by decide +kernel
theorem dX14_decode_286 : decode cX14_decode 286 = .ok (.aload_n 0, 1) := by decide +kernel
theorem dX14_decode_287 : decode cX14_decode 287 = .ok (.getfield 13, 3) := by decide +kernel
theorem dX14_decode_290 : decode cX14_decode 290 = .ok (.aload_n 0, 1) := by decide +kernel
theorem dX14_decode_291 : decode cX14_decode 291 = .ok (.getfield 17, 3) := by decide +kernel
theorem dX14_decode_294 : decode cX14_decode 294 = .ok (.invokevirtual 148, 3) := by decide +kernel
theorem dX14_decode_297 : decode cX14_decode 297 = .ok (.aload_n 0, 1) := by decide +kernel
theorem dX14_decode_298 : decode cX14_decode 298 = .ok (.getfield 62, 3) := by decide +kernel
theorem dX14_decode_301 : decode cX14_decode 301 = .ok (.aload_n 0, 1) := by decide +kernel
theorem dX14_decode_302 : decode cX14_decode 302 = .ok (.getfield 56, 3) := by decide +kernel
theorem dX14_decode_305 : decode cX14_decode 305 = .ok (.invokestatic 186, 3) := by decide +kernel
theorem dX14_decode_308 : decode cX14_decode 308 = .ok (.ifCond .ne 27, 3) := by decide +kernel
theorem dX14_decode_311 : decode cX14_decode 311 = .ok (.aload_n 0, 1) := by decide +kernel
theorem dX14_decode_312 : decode cX14_decode 312 = .ok (.aload_n 0, 1) := by decide +kernel
theorem dX14_decode_313 : decode cX14_decode 313 = .ok (.getfield 44, 3) := by decide +kernel
theorem dX14_decode_316 : decode cX14_decode 316 = .ok (.aload_n 0, 1) := by decide +kernel
theorem dX14_decode_317 : decode cX14_decode 317 = .ok (.getfield 44, 3) := by decide +kernel
theorem dX14_decode_320 : decode cX14_decode 320 = .ok (.aload_n 0, 1) := by decide +kernel
theorem dX14_decode_321 : decode cX14_decode 321 = .ok (.getfield 29, 3) := by decide +kernel
theorem dX14_decode_324 : decode cX14_decode 324 = .ok (.aload_n 0, 1) := by decide +kernel
theorem dX14_decode_325 : decode cX14_decode 325 = .ok (.getfield 13, 3) := by decide +kernel
theorem dX14_decode_328 : decode cX14_decode 328 = .ok (.aload_n 0, 1) := by decide +kernel
theorem dX14_decode_329 : decode cX14_decode 329 = .ok (.getfield 17, 3) := by decide +kernel
theorem dX14_decode_332 : decode cX14_decode 332 = .ok (.invokevirtual 148, 3) := by decide +kernel
theorem dX14_decode_335 : decode cX14_decode 335 = .ok (.aload_n 0, 1) := by decide +kernel
theorem dX14_decode_336 : decode cX14_decode 336 = .ok (.aload_n 0, 1) := by decide +kernel
theorem dX14_decode_337 : decode cX14_decode 337 = .ok (.getfield 62, 3) := by decide +kernel
theorem dX14_decode_340 : decode cX14_decode 340 = .ok (.aload_n 0, 1) := by decide +kernel
theorem dX14_decode_341 : decode cX14_decode 341 = .ok (.getfield 44, 3) := by decide +kernel
theorem dX14_decode_344 : decode cX14_decode 344 = .ok (.aload_n 0, 1) := by decide +kernel
theorem dX14_decode_345 : decode cX14_decode 345 = .ok (.getfield 44, 3) := by decide +kernel
theorem dX14_decode_348 : decode cX14_decode 348 = .ok (.aload_n 0, 1) := by decide +kernel
theorem dX14_decode_349 : decode cX14_decode 349 = .ok (.getfield 13, 3) := by decide +kernel
theorem dX14_decode_352 : decode cX14_decode 352 = .ok (.aload_n 0, 1) := by decide +kernel
theorem dX14_decode_353 : decode cX14_decode 353 = .ok (.getfield 17, 3) := by decide +kernel
theorem dX14_decode_356 : decode cX14_decode 356 = .ok (.invokevirtual 148, 3) := by decide +kernel
theorem dX14_decode_359 : decode cX14_decode 359 = .ok (.aload_n 0, 1) := by decide +kernel
theorem dX14_decode_360 : decode cX14_decode 360 = .ok (.getfield 62, 3) := by decide +kernel
theorem dX14_decode_363 : decode cX14_decode 363 = .ok (.aload_n 0, 1) := by decide +kernel
theorem dX14_decode_364 : decode cX14_decode 364 = .ok (.getfield 56, 3) := by decide +kernel
theorem dX14_decode_367 : decode cX14_decode 367 = .ok (.invokestatic 186, 3) := by decide +kernel
theorem dX14_decode_370 : decode cX14_decode 370 = .ok (.ifCond .ne 5, 3) := by decide +kernel
theorem dX14_decode_373 : decode cX14_decode 373 = .ok (.iconst 0, 1) := by decide +kernel
theorem dX14_decode_374 : decode cX14_decode 374 = .ok (.ireturn, 1) := by decide +kernel
theorem dX14_decode_375 : decode cX14_decode 375 = .ok (.aload_n 0, 1) := by decide +kernel
theorem dX14_decode_376 : decode cX14_decode 376 = .ok (.getfield 101, 3) := by decide +kernel
theorem dX14_decode_379 : decode cX14_decode 379 = .ok (.bipush 31, 2) := by decide +kernel
theorem dX14_decode_381 : decode cX14_decode 381 = .ok (.baload, 1) := by decide +kernel
theorem dX14_decode_382 : decode cX14_decode 382 = .ok (.bipush 7, 2) := by decide +kernel
theorem dX14_decode_384 : decode cX14_decode 384 = .ok (.ishr, 1) := by decide +kernel
theorem dX14_decode_385 : decode cX14_decode 385 = .ok (.iconst 1, 1) := by decide +kernel
theorem dX14_decode_386 : decode cX14_decode 386 = .ok (.iand, 1) := by decide +kernel
theorem dX14_decode_387 : decode cX14_decode 387 = .ok (.istore_n 1, 1) := by decide +kernel
theorem dX14_decode_388 : decode cX14_decode 388 = .ok (.aload_n 0, 1) := by decide +kernel
theorem dX14_decode_389 : decode cX14_decode 389 = .ok (.getfield 44, 3) := by decide +kernel
theorem dX14_decode_392 : decode cX14_decode 392 = .ok (.invokestatic 189, 3) := by decide +kernel
theorem dX14_decode_395 : decode cX14_decode 395 = .ok (.ifCond .eq 10, 3) := by decide +kernel
theorem dX14_decode_398 : decode cX14_decode 398 = .ok (.iload_n 1, 1) := by decide +kernel
theorem dX14_decode_399 : decode cX14_decode 399 = .ok (.iconst 1, 1) := by decide +kernel
theorem dX14_decode_400 : decode cX14_decode 400 = .ok (.if_icmp .ne 5, 3) := by decide +kernel
theorem dX14_decode_403 : decode cX14_decode 403 = .ok (.iconst 0, 1) := by decide +kernel
theorem dX14_decode_404 : decode cX14_decode 404 = .ok (.ireturn, 1) := by decide +kernel
theorem dX14_decode_405 : decode cX14_decode 405 = .ok (.aload_n 0, 1) := by decide +kernel
theorem dX14_decode_406 : decode cX14_decode 406 = .ok (.getfield 44, 3) := by decide +kernel
theorem dX14_decode_409 : decode cX14_decode 409 = .ok (.iconst 0, 1) := by decide +kernel
theorem dX14_decode_410 : decode cX14_decode 410 = .ok (.laload, 1) := by decide +kernel
theorem dX14_decode_411 : decode cX14_decode 411 = .ok (.lconst 1, 1) := by decide +kernel
theorem dX14_decode_412 : decode cX14_decode 412 = .ok (.land, 1) := by decide +kernel
theorem dX14_decode_413 : decode cX14_decode 413 = .ok (.iload_n 1, 1) := by decide +kernel
theorem dX14_decode_414 : decode cX14_decode 414 = .ok (.i2l, 1) := by decide +kernel
theorem dX14_decode_415 : decode cX14_decode 415 = .ok (.lcmp, 1) := by decide +kernel
theorem dX14_decode_416 : decode cX14_decode 416 = .ok (.ifCond .eq 30, 3) := by decide +kernel
theorem dX14_decode_419 : decode cX14_decode 419 = .ok (.aload_n 0, 1) := by decide +kernel
theorem dX14_decode_420 : decode cX14_decode 420 = .ok (.getfield 62, 3) := by decide +kernel
theorem dX14_decode_423 : decode cX14_decode 423 = .ok (.iconst 0, 1) := by decide +kernel
theorem dX14_decode_424 : decode cX14_decode 424 = .ok (.invokestatic 137, 3) := by decide +kernel
theorem dX14_decode_427 : decode cX14_decode 427 = .ok (.aload_n 0, 1) := by decide +kernel
theorem dX14_decode_428 : decode cX14_decode 428 = .ok (.getfield 44, 3) := by decide +kernel
theorem dX14_decode_431 : decode cX14_decode 431 = .ok (.aload_n 0, 1) := by decide +kernel
theorem dX14_decode_432 : decode cX14_decode 432 = .ok (.getfield 62, 3) := by decide +kernel
theorem dX14_decode_435 : decode cX14_decode 435 = .ok (.aload_n 0, 1) := by decide +kernel
theorem dX14_decode_436 : decode cX14_decode 436 = .ok (.getfield 44, 3) := by decide +kernel
theorem dX14_decode_439 : decode cX14_decode 439 = .ok (.aload_n 0, 1) := by decide +kernel
theorem dX14_decode_440 : decode cX14_decode 440 = .ok (.getfield 13, 3) := by decide +kernel
theorem dX14_decode_443 : decode cX14_decode 443 = .ok (.invokestatic 152, 3) := by decide +kernel
theorem dX14_decode_446 : decode cX14_decode 446 = .ok (.iconst 1, 1) := by decide +kernel
theorem dX14_decode_447 : decode cX14_decode 447 = .ok (.ireturn, 1) := by decide +kernel
theorem dX15_init_0 : decode cX15_init 0 = .ok (.aload_n 0, 1) := by decide +kernel
theorem dX15_init_1 : decode cX15_init 1 = .ok (.invokespecial 1, 3) := by decide +kernel
theorem dX15_init_4 : decode cX15_init 4 = .ok (.aload_n 0, 1) := by decide +kernel
theorem dX15_init_5 : decode cX15_init 5 = .ok (.iconst 5, 1) := by decide +kernel
theorem dX15_init_6 : decode cX15_init 6 = .ok (.newarray .int, 2) := by decide +kernel
theorem dX15_init_8 : decode cX15_init 8 = .ok (.dup, 1) := by decide +kernel
theorem dX15_init_9 : decode cX15_init 9 = .ok (.iconst 0, 1) := by decide +kernel
theorem dX15_init_10 : decode cX15_init 10 = .ok (.bipush 12, 2) := by decide +kernel
theorem dX15_init_12 : decode cX15_init 12 = .ok (.iastore, 1) := by decide +kernel
theorem dX15_init_13 : decode cX15_init 13 = .ok (.dup, 1) := by decide +kernel
theorem dX15_init_14 : decode cX15_init 14 = .ok (.iconst 1, 1) := by decide +kernel
theorem dX15_init_15 : decode cX15_init 15 = .ok (.bipush 21, 2) := by decide +kernel
theorem dX15_init_17 : decode cX15_init 17 = .ok (.iastore, 1) := by decide +kernel
theorem dX15_init_18 : decode cX15_init 18 = .ok (.dup, 1) := by decide +kernel
theorem dX15_init_19 : decode cX15_init 19 = .ok (.iconst 2, 1) := by decide +kernel
theorem dX15_init_20 : decode cX15_init 20 = .ok (.sipush 4096, 3) := by decide +kernel
theorem dX15_init_23 : decode cX15_init 23 = .ok (.iastore, 1) := by decide +kernel
theorem dX15_init_24 : decode cX15_init 24 = .ok (.dup, 1) := by decide +kernel
theorem dX15_init_25 : decode cX15_init 25 = .ok (.iconst 3, 1) := by decide +kernel
theorem dX15_init_26 : decode cX15_init 26 = .ok (.sipush 1024, 3) := by decide +kernel
theorem dX15_init_29 : decode cX15_init 29 = .ok (.iastore, 1) := by decide +kernel
theorem dX15_init_30 : decode cX15_init 30 = .ok (.dup, 1) := by decide +kernel
theorem dX15_init_31 : decode cX15_init 31 = .ok (.iconst 4, 1) := by decide +kernel
theorem dX15_init_32 : decode cX15_init 32 = .ok (.ldc 7, 2) := by decide +kernel
theorem dX15_init_34 : decode cX15_init 34 = .ok (.iastore, 1) := by decide +kernel
theorem dX15_init_35 : decode cX15_init 35 = .ok (.putfield 8, 3) := by decide +kernel
theorem dX15_init_38 : decode cX15_init 38 = .ok (.aload_n 0, 1) := by decide +kernel
theorem dX15_init_39 : decode cX15_init 39 = .ok (.bipush 32, 2) := by decide +kernel
theorem dX15_init_41 : decode cX15_init 41 = .ok (.newarray .byte, 2) := by decide +kernel
theorem dX15_init_43 : decode cX15_init 43 = .ok (.putfield 14, 3) := by decide +kernel
theorem dX15_init_46 : decode cX15_init 46 = .ok (.aload_n 0, 1) := by decide +kernel
theorem dX15_init_47 : decode cX15_init 47 = .ok (.bipush 32, 2) := by decide +kernel
theorem dX15_init_49 : decode cX15_init 49 = .ok (.newarray .byte, 2) := by decide +kernel
theorem dX15_init_51 : decode cX15_init 51 = .ok (.putfield 18, 3) := by decide +kernel
theorem dX15_init_54 : decode cX15_init 54 = .ok (.aload_n 0, 1) := by decide +kernel
theorem dX15_init_55 : decode cX15_init 55 = .ok (.new 21, 3) := by decide +kernel
theorem dX15_init_58 : decode cX15_init 58 = .ok (.dup, 1) := by decide +kernel
theorem dX15_init_59 : decode cX15_init 59 = .ok (.invokespecial 23, 3) := by decide +kernel
theorem dX15_init_62 : decode cX15_init 62 = .ok (.putfield 24, 3) := by decide +kernel
theorem dX15_init_65 : decode cX15_init 65 = .ok (.aload_n 0, 1) := by decide +kernel
theorem dX15_init_66 : decode cX15_init 66 = .ok (.getstatic 28, 3) := by decide +kernel
theorem dX15_init_69 : decode cX15_init 69 = .ok (.putfield 33, 3) := by decide +kernel
theorem dX15_init_72 : decode cX15_init 72 = .ok (.aload_n 0, 1) := by decide +kernel
theorem dX15_init_73 : decode cX15_init 73 = .ok (.ldc 36, 2) := by decide +kernel
theorem dX15_init_75 : decode cX15_init 75 = .ok (.newarray .byte, 2) := by decide +kernel
theorem dX15_init_77 : decode cX15_init 77 = .ok (.putfield 37, 3) := by decide +kernel
theorem dX15_init_80 : decode cX15_init 80 = .ok (.aload_n 0, 1) := by decide +kernel
theorem dX15_init_81 : decode cX15_init 81 = .ok (.getstatic 28, 3) := by decide +kernel
theorem dX15_init_84 : decode cX15_init 84 = .ok (.putfield 40, 3) := by decide +kernel
theorem dX15_init_87 : decode cX15_init 87 = .ok (.aload_n 0, 1) := by decide +kernel
theorem dX15_init_88 : decode cX15_init 88 = .ok (.getstatic 28, 3) := by decide +kernel
theorem dX15_init_91 : decode cX15_init 91 = .ok (.putfield 43, 3) := by decide +kernel
theorem dX15_init_94 : decode cX15_init 94 = .ok (.aload_n 0, 1) := by decide +kernel
theorem dX15_init_95 : decode cX15_init 95 = .ok (.iconst 4, 1) := by decide +kernel
theorem dX15_init_96 : decode cX15_init 96 = .ok (.newarray .int, 2) := by decide +kernel
theorem dX15_init_98 : decode cX15_init 98 = .ok (.putfield 46, 3) := by decide +kernel
theorem dX15_init_101 : decode cX15_init 101 = .ok (.aload_n 0, 1) := by decide +kernel
theorem dX15_init_102 : decode cX15_init 102 = .ok (.new 21, 3) := by decide +kernel
theorem dX15_init_105 : decode cX15_init 105 = .ok (.dup, 1) := by decide +kernel
theorem dX15_init_106 : decode cX15_init 106 = .ok (.invokespecial 23, 3) := by decide +kernel
theorem dX15_init_109 : decode cX15_init 109 = .ok (.putfield 49, 3) := by decide +kernel
theorem dX15_init_112 : decode cX15_init 112 = .ok (.aload_n 0, 1) := by decide +kernel
theorem dX15_init_113 : decode cX15_init 113 = .ok (.new 21, 3) := by decide +kernel
theorem dX15_init_116 : decode cX15_init 116 = .ok (.dup, 1) := by decide +kernel
theorem dX15_init_117 : decode cX15_init 117 = .ok (.invokespecial 23, 3) := by decide +kernel
theorem dX15_init_120 : decode cX15_init 120 = .ok (.putfield 52, 3) := by decide +kernel
theorem dX15_init_123 : decode cX15_init 123 = .ok (.aload_n 0, 1) := by decide +kernel
theorem dX15_init_124 : decode cX15_init 124 = .ok (.bipush 16, 2) := by decide +kernel
theorem dX15_init_126 : decode cX15_init 126 = .ok (.anewarray 55, 3) := by decide +kernel
theorem dX15_init_129 : decode cX15_init 129 = .ok (.putfield 57, 3) := by decide +kernel
theorem dX15_init_132 : decode cX15_init 132 = .ok (.aload_n 0, 1) := by decide +kernel
theorem dX15_init_133 : decode cX15_init 133 = .ok (.iload_n 1, 1) := by decide +kernel
theorem dX15_init_134 : decode cX15_init 134 = .ok (.putfield 61, 3) := by decide +kernel
theorem dX15_init_137 : decode cX15_init 137 = .ok (.aload_n 0, 1) := by decide +kernel
theorem dX15_init_138 : decode cX15_init 138 = .ok (.new 65, 3) := by decide +kernel
theorem dX15_init_141 : decode cX15_init 141 = .ok (.dup, 1) := by decide +kernel
theorem dX15_init_142 : decode cX15_init 142 = .ok (.aload_n 2, 1) := by decide +kernel
theorem dX15_init_143 : decode cX15_init 143 = .ok (.invokespecial 67, 3) := by decide +kernel
theorem dX15_init_146 : decode cX15_init 146 = .ok (.putfield 70, 3) := by decide +kernel
theorem dX15_init_149 : decode cX15_init 149 = .ok (.aload_n 0, 1) := by decide +kernel
theorem dX15_init_150 : decode cX15_init 150 = .ok (.new 65, 3) := by decide +kernel
theorem dX15_init_153 : decode cX15_init 153 = .ok (.dup, 1) := by decide +kernel
theorem dX15_init_154 : decode cX15_init 154 = .ok (.aload_n 2, 1) := by decide +kernel
theorem dX15_init_155 : decode cX15_init 155 = .ok (.invokespecial 67, 3) := by decide +kernel
theorem dX15_init_158 : decode cX15_init 158 = .ok (.putfield 74, 3) := by decide +kernel
theorem dX15_init_161 : decode cX15_init 161 = .ok (.iconst 0, 1) := by decide +kernel
theorem dX15_init_162 : decode cX15_init 162 = .ok (.istore_n 3, 1) := by decide +kernel
theorem dX15_init_163 : decode cX15_init 163 = .ok (.iload_n 3, 1) := by decide +kernel
theorem dX15_init_164 : decode cX15_init 164 = .ok (.bipush 16, 2) := by decide +kernel
theorem dX15_init_166 : decode cX15_init 166 = .ok (.if_icmp .ge 22, 3) := by decide +kernel
theorem dX15_init_169 : decode cX15_init 169 = .ok (.aload_n 0, 1) := by decide +kernel
theorem dX15_init_170 : decode cX15_init 170 = .ok (.getfield 57, 3) := by decide +kernel
theorem dX15_init_173 : decode cX15_init 173 = .ok (.iload_n 3, 1) := by decide +kernel
theorem dX15_init_174 : decode cX15_init 174 = .ok (.new 55, 3) := by decide +kernel
theorem dX15_init_177 : decode cX15_init 177 = .ok (.dup, 1) := by decide +kernel
theorem dX15_init_178 : decode cX15_init 178 = .ok (.invokespecial 77, 3) := by decide +kernel
theorem dX15_init_181 : decode cX15_init 181 = .ok (.aastore, 1) := by decide +kernel
theorem dX15_init_182 : decode cX15_init 182 = .ok (.iinc 3 1, 3) := by decide +kernel
theorem dX15_init_185 : decode cX15_init 185 = .ok (.goto (-22), 3) := by decide +kernel
theorem dX15_init_188 : decode cX15_init 188 = .ok (.return_, 1) := by decide +kernel
theorem dX16_init_0 : decode cX16_init 0 = .ok (.aload_n 0, 1) := by decide +kernel
theorem dX16_init_1 : decode cX16_init 1 = .ok (.invokespecial 1, 3) := by decide +kernel
theorem dX16_init_4 : decode cX16_init 4 = .ok (.return_, 1) := by decide +kernel
theorem dX17_init_0 : decode cX17_init 0 = .ok (.aload_n 0, 1) := by decide +kernel
theorem dX17_init_1 : decode cX17_init 1 = .ok (.invokespecial 1, 3) := by decide +kernel
theorem dX17_init_4 : decode cX17_init 4 = .ok (.aload_n 0, 1) := by decide +kernel
theorem dX17_init_5 : decode cX17_init 5 = .ok (.bipush 80, 2) := by decide +kernel
theorem dX17_init_7 : decode cX17_init 7 = .ok (.newarray .long, 2) := by decide +kernel
theorem dX17_init_9 : decode cX17_init 9 = .ok (.putfield 7, 3) := by decide +kernel
theorem dX17_init_12 : decode cX17_init 12 = .ok (.aload_n 0, 1) := by decide +kernel
theorem dX17_init_13 : decode cX17_init 13 = .ok (.bipush 24, 2) := by decide +kernel
theorem dX17_init_15 : decode cX17_init 15 = .ok (.newarray .long, 2) := by decide +kernel
theorem dX17_init_17 : decode cX17_init 17 = .ok (.putfield 13, 3) := by decide +kernel
theorem dX17_init_20 : decode cX17_init 20 = .ok (.aload_n 0, 1) := by decide +kernel
theorem dX17_init_21 : decode cX17_init 21 = .ok (.bipush 80, 2) := by decide +kernel
theorem dX17_init_23 : decode cX17_init 23 = .ok (.newarray .long, 2) := by decide +kernel
theorem dX17_init_25 : decode cX17_init 25 = .ok (.putfield 16, 3) := by decide +kernel
theorem dX17_init_28 : decode cX17_init 28 = .ok (.aload_n 0, 1) := by decide +kernel
theorem dX17_init_29 : decode cX17_init 29 = .ok (.bipush 8, 2) := by decide +kernel
theorem dX17_init_31 : decode cX17_init 31 = .ok (.newarray .long, 2) := by decide +kernel
theorem dX17_init_33 : decode cX17_init 33 = .ok (.putfield 19, 3) := by decide +kernel
theorem dX17_init_36 : decode cX17_init 36 = .ok (.aload_n 0, 1) := by decide +kernel
theorem dX17_init_37 : decode cX17_init 37 = .ok (.bipush 8, 2) := by decide +kernel
theorem dX17_init_39 : decode cX17_init 39 = .ok (.newarray .long, 2) := by decide +kernel
theorem dX17_init_41 : decode cX17_init 41 = .ok (.putfield 22, 3) := by decide +kernel
theorem dX17_init_44 : decode cX17_init 44 = .ok (.aload_n 0, 1) := by decide +kernel
theorem dX17_init_45 : decode cX17_init 45 = .ok (.bipush 8, 2) := by decide +kernel
theorem dX17_init_47 : decode cX17_init 47 = .ok (.newarray .long, 2) := by decide +kernel
theorem dX17_init_49 : decode cX17_init 49 = .ok (.putfield 25, 3) := by decide +kernel
theorem dX17_init_52 : decode cX17_init 52 = .ok (.aload_n 0, 1) := by decide +kernel
theorem dX17_init_53 : decode cX17_init 53 = .ok (.bipush 64, 2) := by decide +kernel
theorem dX17_init_55 : decode cX17_init 55 = .ok (.newarray .byte, 2) := by decide +kernel
theorem dX17_init_57 : decode cX17_init 57 = .ok (.putfield 28, 3) := by decide +kernel
theorem dX17_init_60 : decode cX17_init 60 = .ok (.aload_n 0, 1) := by decide +kernel
theorem dX17_init_61 : decode cX17_init 61 = .ok (.sipush 128, 3) := by decide +kernel
theorem dX17_init_64 : decode cX17_init 64 = .ok (.newarray .byte, 2) := by decide +kernel
theorem dX17_init_66 : decode cX17_init 66 = .ok (.putfield 32, 3) := by decide +kernel
theorem dX17_init_69 : decode cX17_init 69 = .ok (.aload_n 0, 1) := by decide +kernel
theorem dX17_init_70 : decode cX17_init 70 = .ok (.ldc 35, 2) := by decide +kernel
theorem dX17_init_72 : decode cX17_init 72 = .ok (.newarray .byte, 2) := by decide +kernel
theorem dX17_init_74 : decode cX17_init 74 = .ok (.putfield 36, 3) := by decide +kernel
theorem dX17_init_77 : decode cX17_init 77 = .ok (.aload_n 0, 1) := by decide +kernel
theorem dX17_init_78 : decode cX17_init 78 = .ok (.sipush 1024, 3) := by decide +kernel
theorem dX17_init_81 : decode cX17_init 81 = .ok (.newarray .byte, 2) := by decide +kernel
theorem dX17_init_83 : decode cX17_init 83 = .ok (.putfield 39, 3) := by decide +kernel
theorem dX17_init_86 : decode cX17_init 86 = .ok (.aload_n 0, 1) := by decide +kernel
theorem dX17_init_87 : decode cX17_init 87 = .ok (.bipush 64, 2) := by decide +kernel
theorem dX17_init_89 : decode cX17_init 89 = .ok (.newarray .byte, 2) := by decide +kernel
theorem dX17_init_91 : decode cX17_init 91 = .ok (.putfield 42, 3) := by decide +kernel
theorem dX17_init_94 : decode cX17_init 94 = .ok (.aload_n 0, 1) := by decide +kernel
theorem dX17_init_95 : decode cX17_init 95 = .ok (.bipush 64, 2) := by decide +kernel
theorem dX17_init_97 : decode cX17_init 97 = .ok (.newarray .byte, 2) := by decide +kernel
theorem dX17_init_99 : decode cX17_init 99 = .ok (.putfield 45, 3) := by decide +kernel
theorem dX17_init_102 : decode cX17_init 102 = .ok (.aload_n 0, 1) := by decide +kernel
theorem dX17_init_103 : decode cX17_init 103 = .ok (.iconst 3, 1) := by decide +kernel
theorem dX17_init_104 : decode cX17_init 104 = .ok (.anewarray 48, 3) := by decide +kernel
theorem dX17_init_107 : decode cX17_init 107 = .ok (.putfield 49, 3) := by decide +kernel
theorem dX17_init_110 : decode cX17_init 110 = .ok (.iconst 1, 1) := by decide +kernel
theorem dX17_init_111 : decode cX17_init 111 = .ok (.istore_n 1, 1) := by decide +kernel
theorem dX17_init_112 : decode cX17_init 112 = .ok (.iconst 0, 1) := by decide +kernel
theorem dX17_init_113 : decode cX17_init 113 = .ok (.istore_n 2, 1) := by decide +kernel
theorem dX17_init_114 : decode cX17_init 114 = .ok (.iload_n 2, 1) := by decide +kernel
theorem dX17_init_115 : decode cX17_init 115 = .ok (.bipush 80, 2) := by decide +kernel
theorem dX17_init_117 : decode cX17_init 117 = .ok (.if_icmp .ge 89, 3) := by decide +kernel
theorem dX17_init_120 : decode cX17_init 120 = .ok (.iload_n 1, 1) := by decide +kernel
theorem dX17_init_121 : decode cX17_init 121 = .ok (.invokestatic 53, 3) := by decide +kernel
theorem dX17_init_124 : decode cX17_init 124 = .ok (.istore_n 1, 1) := by decide +kernel
theorem dX17_init_125 : decode cX17_init 125 = .ok (.aload_n 0, 1) := by decide +kernel
theorem dX17_init_126 : decode cX17_init 126 = .ok (.getfield 7, 3) := by decide +kernel
theorem dX17_init_129 : decode cX17_init 129 = .ok (.iload_n 2, 1) := by decide +kernel
theorem dX17_init_130 : decode cX17_init 130 = .ok (.aload_n 0, 1) := by decide +kernel
theorem dX17_init_131 : decode cX17_init 131 = .ok (.iload_n 1, 1) := by decide +kernel
theorem dX17_init_132 : decode cX17_init 132 = .ok (.iconst 3, 1) := by decide +kernel
theorem dX17_init_133 : decode cX17_init 133 = .ok (.invokevirtual 57, 3) := by decide +kernel
theorem dX17_init_136 : decode cX17_init 136 = .ok (.lastore, 1) := by decide +kernel
theorem dX17_init_137 : decode cX17_init 137 = .ok (.iload_n 2, 1) := by decide +kernel
theorem dX17_init_138 : decode cX17_init 138 = .ok (.bipush 8, 2) := by decide +kernel
theorem dX17_init_140 : decode cX17_init 140 = .ok (.if_icmp .ge 36, 3) := by decide +kernel
theorem dX17_init_143 : decode cX17_init 143 = .ok (.aload_n 0, 1) := by decide +kernel
theorem dX17_init_144 : decode cX17_init 144 = .ok (.getfield 13, 3) := by decide +kernel
theorem dX17_init_147 : decode cX17_init 147 = .ok (.bipush 16, 2) := by decide +kernel
theorem dX17_init_149 : decode cX17_init 149 = .ok (.iload_n 2, 1) := by decide +kernel
theorem dX17_init_150 : decode cX17_init 150 = .ok (.iadd, 1) := by decide +kernel
theorem dX17_init_151 : decode cX17_init 151 = .ok (.aload_n 0, 1) := by decide +kernel
theorem dX17_init_152 : decode cX17_init 152 = .ok (.iload_n 1, 1) := by decide +kernel
theorem dX17_init_153 : decode cX17_init 153 = .ok (.iconst 2, 1) := by decide +kernel
theorem dX17_init_154 : decode cX17_init 154 = .ok (.invokevirtual 57, 3) := by decide +kernel
theorem dX17_init_157 : decode cX17_init 157 = .ok (.lastore, 1) := by decide +kernel
theorem dX17_init_158 : decode cX17_init 158 = .ok (.aload_n 0, 1) := by decide +kernel
theorem dX17_init_159 : decode cX17_init 159 = .ok (.getfield 13, 3) := by decide +kernel
theorem dX17_init_162 : decode cX17_init 162 = .ok (.iload_n 2, 1) := by decide +kernel
theorem dX17_init_163 : decode cX17_init 163 = .ok (.aload_n 0, 1) := by decide +kernel
theorem dX17_init_164 : decode cX17_init 164 = .ok (.getfield 13, 3) := by decide +kernel
theorem dX17_init_167 : decode cX17_init 167 = .ok (.bipush 16, 2) := by decide +kernel
theorem dX17_init_169 : decode cX17_init 169 = .ok (.iload_n 2, 1) := by decide +kernel
theorem dX17_init_170 : decode cX17_init 170 = .ok (.iadd, 1) := by decide +kernel
theorem dX17_init_171 : decode cX17_init 171 = .ok (.laload, 1) := by decide +kernel
theorem dX17_init_172 : decode cX17_init 172 = .ok (.bipush 32, 2) := by decide +kernel
theorem dX17_init_174 : decode cX17_init 174 = .ok (.lushr, 1) := by decide +kernel
theorem dX17_init_175 : decode cX17_init 175 = .ok (.lastore, 1) := by decide +kernel
theorem dX17_init_176 : decode cX17_init 176 = .ok (.iload_n 2, 1) := by decide +kernel
theorem dX17_init_177 : decode cX17_init 177 = .ok (.bipush 8, 2) := by decide +kernel
theorem dX17_init_179 : decode cX17_init 179 = .ok (.if_icmp .lt 21, 3) := by decide +kernel
theorem dX17_init_182 : decode cX17_init 182 = .ok (.iload_n 2, 1) := by decide +kernel
theorem dX17_init_183 : decode cX17_init 183 = .ok (.bipush 16, 2) := by decide +kernel
theorem dX17_init_185 : decode cX17_init 185 = .ok (.if_icmp .ge 15, 3) := by decide +kernel
theorem dX17_init_188 : decode cX17_init 188 = .ok (.aload_n 0, 1) := by decide +kernel
theorem dX17_init_189 : decode cX17_init 189 = .ok (.getfield 13, 3) := by decide +kernel
theorem dX17_init_192 : decode cX17_init 192 = .ok (.iload_n 2, 1) := by decide +kernel
theorem dX17_init_193 : decode cX17_init 193 = .ok (.aload_n 0, 1) := by decide +kernel
theorem dX17_init_194 : decode cX17_init 194 = .ok (.iload_n 1, 1) := by decide +kernel
theorem dX17_init_195 : decode cX17_init 195 = .ok (.iconst 2, 1) := by decide +kernel
theorem dX17_init_196 : decode cX17_init 196 = .ok (.invokevirtual 57, 3) := by decide +kernel
theorem dX17_init_199 : decode cX17_init 199 = .ok (.lastore, 1) := by decide +kernel
theorem dX17_init_200 : decode cX17_init 200 = .ok (.iinc 2 1, 3) := by decide +kernel
theorem dX17_init_203 : decode cX17_init 203 = .ok (.goto (-89), 3) := by decide +kernel
theorem dX17_init_206 : decode cX17_init 206 = .ok (.return_, 1) := by decide +kernel
theorem dX17_prime_0 : decode cX17_prime 0 = .ok (.iload_n 0, 1) := by decide +kernel
theorem dX17_prime_1 : decode cX17_prime 1 = .ok (.istore_n 1, 1) := by decide +kernel
theorem dX17_prime_2 : decode cX17_prime 2 = .ok (.iconst 0, 1) := by decide +kernel
theorem dX17_prime_3 : decode cX17_prime 3 = .ok (.istore_n 2, 1) := by decide +kernel
theorem dX17_prime_4 : decode cX17_prime 4 = .ok (.iload_n 2, 1) := by decide +kernel
theorem dX17_prime_5 : decode cX17_prime 5 = .ok (.ifCond .ne 34, 3) := by decide +kernel
theorem dX17_prime_8 : decode cX17_prime 8 = .ok (.iinc 1 1, 3) := by decide +kernel
theorem dX17_prime_11 : decode cX17_prime 11 = .ok (.iconst 1, 1) := by decide +kernel
theorem dX17_prime_12 : decode cX17_prime 12 = .ok (.istore_n 2, 1) := by decide +kernel
theorem dX17_prime_13 : decode cX17_prime 13 = .ok (.iconst 2, 1) := by decide +kernel
theorem dX17_prime_14 : decode cX17_prime 14 = .ok (.istore_n 3, 1) := by decide +kernel
theorem dX17_prime_15 : decode cX17_prime 15 = .ok (.iload_n 3, 1) := by decide +kernel
theorem dX17_prime_16 : decode cX17_prime 16 = .ok (.iload_n 3, 1) := by decide +kernel
theorem dX17_prime_17 : decode cX17_prime 17 = .ok (.imul, 1) := by decide +kernel
theorem dX17_prime_18 : decode cX17_prime 18 = .ok (.iload_n 1, 1) := by decide +kernel
theorem dX17_prime_19 : decode cX17_prime 19 = .ok (.if_icmp .gt 17, 3) := by decide +kernel
theorem dX17_prime_22 : decode cX17_prime 22 = .ok (.iload_n 1, 1) := by decide +kernel
theorem dX17_prime_23 : decode cX17_prime 23 = .ok (.iload_n 3, 1) := by decide +kernel
theorem dX17_prime_24 : decode cX17_prime 24 = .ok (.irem, 1) := by decide +kernel
theorem dX17_prime_25 : decode cX17_prime 25 = .ok (.ifCond .ne 5, 3) := by decide +kernel
theorem dX17_prime_28 : decode cX17_prime 28 = .ok (.iconst 0, 1) := by decide +kernel
theorem dX17_prime_29 : decode cX17_prime 29 = .ok (.istore_n 2, 1) := by decide +kernel
theorem dX17_prime_30 : decode cX17_prime 30 = .ok (.iinc 3 1, 3) := by decide +kernel
theorem dX17_prime_33 : decode cX17_prime 33 = .ok (.goto (-18), 3) := by decide +kernel
theorem dX17_prime_36 : decode cX17_prime 36 = .ok (.goto (-32), 3) := by decide +kernel
theorem dX17_prime_39 : decode cX17_prime 39 = .ok (.iload_n 1, 1) := by decide +kernel
theorem dX17_prime_40 : decode cX17_prime 40 = .ok (.ireturn, 1) := by decide +kernel
theorem dX17_root_0 : decode cX17_root 0 = .ok (.lconst 0, 1) := by decide +kernel
theorem dX17_root_1 : decode cX17_root 1 = .ok (.lstore_n 3, 1) := by decide +kernel
theorem dX17_root_2 : decode cX17_root 2 = .ok (.lconst 0, 1) := by decide +kernel
theorem dX17_root_3 : decode cX17_root 3 = .ok (.lstore 5, 2) := by decide +kernel
theorem dX17_root_5 : decode cX17_root 5 = .ok (.bipush 66, 2) := by decide +kernel
theorem dX17_root_7 : decode cX17_root 7 = .ok (.istore 7, 2) := by decide +kernel
theorem dX17_root_9 : decode cX17_root 9 = .ok (.iload 7, 2) := by decide +kernel
theorem dX17_root_11 : decode cX17_root 11 = .ok (.ifCond .lt 72, 3) := by decide +kernel
theorem dX17_root_14 : decode cX17_root 14 = .ok (.iload 7, 2) := by decide +kernel
theorem dX17_root_16 : decode cX17_root 16 = .ok (.bipush 63, 2) := by decide +kernel
theorem dX17_root_18 : decode cX17_root 18 = .ok (.if_icmp .le 15, 3) := by decide +kernel
theorem dX17_root_21 : decode cX17_root 21 = .ok (.lload_n 3, 1) := by decide +kernel
theorem dX17_root_22 : decode cX17_root 22 = .ok (.lconst 1, 1) := by decide +kernel
theorem dX17_root_23 : decode cX17_root 23 = .ok (.iload 7, 2) := by decide +kernel
theorem dX17_root_25 : decode cX17_root 25 = .ok (.bipush 64, 2) := by decide +kernel
theorem dX17_root_27 : decode cX17_root 27 = .ok (.isub, 1) := by decide +kernel
theorem dX17_root_28 : decode cX17_root 28 = .ok (.lshl, 1) := by decide +kernel
theorem dX17_root_29 : decode cX17_root 29 = .ok (.lor, 1) := by decide +kernel
theorem dX17_root_30 : decode cX17_root 30 = .ok (.goto 4, 3) := by decide +kernel
theorem dX17_root_33 : decode cX17_root 33 = .ok (.lload_n 3, 1) := by decide +kernel
theorem dX17_root_34 : decode cX17_root 34 = .ok (.lstore 8, 2) := by decide +kernel
theorem dX17_root_36 : decode cX17_root 36 = .ok (.iload 7, 2) := by decide +kernel
theorem dX17_root_38 : decode cX17_root 38 = .ok (.bipush 63, 2) := by decide +kernel
theorem dX17_root_40 : decode cX17_root 40 = .ok (.if_icmp .le 8, 3) := by decide +kernel
theorem dX17_root_43 : decode cX17_root 43 = .ok (.lload 5, 2) := by decide +kernel
theorem dX17_root_45 : decode cX17_root 45 = .ok (.goto 10, 3) := by decide +kernel
theorem dX17_root_48 : decode cX17_root 48 = .ok (.lload 5, 2) := by decide +kernel
theorem dX17_root_50 : decode cX17_root 50 = .ok (.lconst 1, 1) := by decide +kernel
theorem dX17_root_51 : decode cX17_root 51 = .ok (.iload 7, 2) := by decide +kernel
theorem dX17_root_53 : decode cX17_root 53 = .ok (.lshl, 1) := by decide +kernel
theorem dX17_root_54 : decode cX17_root 54 = .ok (.lor, 1) := by decide +kernel
theorem dX17_root_55 : decode cX17_root 55 = .ok (.lstore 10, 2) := by decide +kernel
theorem dX17_root_57 : decode cX17_root 57 = .ok (.aload_n 0, 1) := by decide +kernel
theorem dX17_root_58 : decode cX17_root 58 = .ok (.lload 8, 2) := by decide +kernel
theorem dX17_root_60 : decode cX17_root 60 = .ok (.lload 10, 2) := by decide +kernel
theorem dX17_root_62 : decode cX17_root 62 = .ok (.iload_n 1, 1) := by decide +kernel
theorem dX17_root_63 : decode cX17_root 63 = .ok (.iload_n 2, 1) := by decide +kernel
theorem dX17_root_64 : decode cX17_root 64 = .ok (.invokevirtual 61, 3) := by decide +kernel
theorem dX17_root_67 : decode cX17_root 67 = .ok (.ifCond .eq 10, 3) := by decide +kernel
theorem dX17_root_70 : decode cX17_root 70 = .ok (.lload 8, 2) := by decide +kernel
theorem dX17_root_72 : decode cX17_root 72 = .ok (.lstore_n 3, 1) := by decide +kernel
theorem dX17_root_73 : decode cX17_root 73 = .ok (.lload 10, 2) := by decide +kernel
theorem dX17_root_75 : decode cX17_root 75 = .ok (.lstore 5, 2) := by decide +kernel
theorem dX17_root_77 : decode cX17_root 77 = .ok (.iinc 7 (-1), 3) := by decide +kernel
theorem dX17_root_80 : decode cX17_root 80 = .ok (.goto (-71), 3) := by decide +kernel
theorem dX17_root_83 : decode cX17_root 83 = .ok (.lload 5, 2) := by decide +kernel
theorem dX17_root_85 : decode cX17_root 85 = .ok (.lreturn, 1) := by decide +kernel
theorem dX17_fits_0 : decode cX17_fits 0 = .ok (.iconst 0, 1) := by decide +kernel
theorem dX17_fits_1 : decode cX17_fits 1 = .ok (.istore 7, 2) := by decide +kernel
theorem dX17_fits_3 : decode cX17_fits 3 = .ok (.iload 7, 2) := by decide +kernel
theorem dX17_fits_5 : decode cX17_fits 5 = .ok (.bipush 8, 2) := by decide +kernel
theorem dX17_fits_7 : decode cX17_fits 7 = .ok (.if_icmp .ge 26, 3) := by decide +kernel
theorem dX17_fits_10 : decode cX17_fits 10 = .ok (.aload_n 0, 1) := by decide +kernel
theorem dX17_fits_11 : decode cX17_fits 11 = .ok (.getfield 22, 3) := by decide +kernel
theorem dX17_fits_14 : decode cX17_fits 14 = .ok (.iload 7, 2) := by decide +kernel
theorem dX17_fits_16 : decode cX17_fits 16 = .ok (.iload 7, 2) := by decide +kernel
theorem dX17_fits_18 : decode cX17_fits 18 = .ok (.ifCond .ne 7, 3) := by decide +kernel
theorem dX17_fits_21 : decode cX17_fits 21 = .ok (.lconst 1, 1) := by decide +kernel
theorem dX17_fits_22 : decode cX17_fits 22 = .ok (.goto 4, 3) := by decide +kernel
theorem dX17_fits_25 : decode cX17_fits 25 = .ok (.lconst 0, 1) := by decide +kernel
theorem dX17_fits_26 : decode cX17_fits 26 = .ok (.lastore, 1) := by decide +kernel
theorem dX17_fits_27 : decode cX17_fits 27 = .ok (.iinc 7 1, 3) := by decide +kernel
theorem dX17_fits_30 : decode cX17_fits 30 = .ok (.goto (-27), 3) := by decide +kernel
theorem dX17_fits_33 : decode cX17_fits 33 = .ok (.iconst 0, 1) := by decide +kernel
theorem dX17_fits_34 : decode cX17_fits 34 = .ok (.istore 7, 2) := by decide +kernel
theorem dX17_fits_36 : decode cX17_fits 36 = .ok (.iload 7, 2) := by decide +kernel
theorem dX17_fits_38 : decode cX17_fits 38 = .ok (.iload 6, 2) := by decide +kernel
theorem dX17_fits_40 : decode cX17_fits 40 = .ok (.if_icmp .ge 15, 3) := by decide +kernel
theorem dX17_fits_43 : decode cX17_fits 43 = .ok (.aload_n 0, 1) := by decide +kernel
theorem dX17_fits_44 : decode cX17_fits 44 = .ok (.lload_n 1, 1) := by decide +kernel
theorem dX17_fits_45 : decode cX17_fits 45 = .ok (.lload_n 3, 1) := by decide +kernel
theorem dX17_fits_46 : decode cX17_fits 46 = .ok (.invokevirtual 65, 3) := by decide +kernel
theorem dX17_fits_49 : decode cX17_fits 49 = .ok (.iinc 7 1, 3) := by decide +kernel
theorem dX17_fits_52 : decode cX17_fits 52 = .ok (.goto (-16), 3) := by decide +kernel
theorem dX17_fits_55 : decode cX17_fits 55 = .ok (.lconst 0, 1) := by decide +kernel
theorem dX17_fits_56 : decode cX17_fits 56 = .ok (.lstore 7, 2) := by decide +kernel
theorem dX17_fits_58 : decode cX17_fits 58 = .ok (.bipush 7, 2) := by decide +kernel
theorem dX17_fits_60 : decode cX17_fits 60 = .ok (.istore 9, 2) := by decide +kernel
theorem dX17_fits_62 : decode cX17_fits 62 = .ok (.iload 9, 2) := by decide +kernel
theorem dX17_fits_64 : decode cX17_fits 64 = .ok (.iconst 2, 1) := by decide +kernel
theorem dX17_fits_65 : decode cX17_fits 65 = .ok (.iload 6, 2) := by decide +kernel
theorem dX17_fits_67 : decode cX17_fits 67 = .ok (.imul, 1) := by decide +kernel
theorem dX17_fits_68 : decode cX17_fits 68 = .ok (.if_icmp .lt 24, 3) := by decide +kernel
theorem dX17_fits_71 : decode cX17_fits 71 = .ok (.lload 7, 2) := by decide +kernel
theorem dX17_fits_73 : decode cX17_fits 73 = .ok (.bipush 32, 2) := by decide +kernel
theorem dX17_fits_75 : decode cX17_fits 75 = .ok (.lshl, 1) := by decide +kernel
theorem dX17_fits_76 : decode cX17_fits 76 = .ok (.aload_n 0, 1) := by decide +kernel
theorem dX17_fits_77 : decode cX17_fits 77 = .ok (.getfield 22, 3) := by decide +kernel
theorem dX17_fits_80 : decode cX17_fits 80 = .ok (.iload 9, 2) := by decide +kernel
theorem dX17_fits_82 : decode cX17_fits 82 = .ok (.laload, 1) := by decide +kernel
theorem dX17_fits_83 : decode cX17_fits 83 = .ok (.lor, 1) := by decide +kernel
theorem dX17_fits_84 : decode cX17_fits 84 = .ok (.lstore 7, 2) := by decide +kernel
theorem dX17_fits_86 : decode cX17_fits 86 = .ok (.iinc 9 (-1), 3) := by decide +kernel
theorem dX17_fits_89 : decode cX17_fits 89 = .ok (.goto (-27), 3) := by decide +kernel
theorem dX17_fits_92 : decode cX17_fits 92 = .ok (.lload 7, 2) := by decide +kernel
theorem dX17_fits_94 : decode cX17_fits 94 = .ok (.iload 5, 2) := by decide +kernel
theorem dX17_fits_96 : decode cX17_fits 96 = .ok (.i2l, 1) := by decide +kernel
theorem dX17_fits_97 : decode cX17_fits 97 = .ok (.lcmp, 1) := by decide +kernel
theorem dX17_fits_98 : decode cX17_fits 98 = .ok (.ifCond .eq 18, 3) := by decide +kernel
theorem dX17_fits_101 : decode cX17_fits 101 = .ok (.lload 7, 2) := by decide +kernel
theorem dX17_fits_103 : decode cX17_fits 103 = .ok (.iload 5, 2) := by decide +kernel
theorem dX17_fits_105 : decode cX17_fits 105 = .ok (.i2l, 1) := by decide +kernel
theorem dX17_fits_106 : decode cX17_fits 106 = .ok (.lcmp, 1) := by decide +kernel
theorem dX17_fits_107 : decode cX17_fits 107 = .ok (.ifCond .ge 7, 3) := by decide +kernel
theorem dX17_fits_110 : decode cX17_fits 110 = .ok (.iconst 1, 1) := by decide +kernel
theorem dX17_fits_111 : decode cX17_fits 111 = .ok (.goto 4, 3) := by decide +kernel
theorem dX17_fits_114 : decode cX17_fits 114 = .ok (.iconst 0, 1) := by decide +kernel
theorem dX17_fits_115 : decode cX17_fits 115 = .ok (.ireturn, 1) := by decide +kernel
theorem dX17_fits_116 : decode cX17_fits 116 = .ok (.iconst 0, 1) := by decide +kernel
theorem dX17_fits_117 : decode cX17_fits 117 = .ok (.istore 9, 2) := by decide +kernel
theorem dX17_fits_119 : decode cX17_fits 119 = .ok (.iload 9, 2) := by decide +kernel
theorem dX17_fits_121 : decode cX17_fits 121 = .ok (.iconst 2, 1) := by decide +kernel
theorem dX17_fits_122 : decode cX17_fits 122 = .ok (.iload 6, 2) := by decide +kernel
theorem dX17_fits_124 : decode cX17_fits 124 = .ok (.imul, 1) := by decide +kernel
theorem dX17_fits_125 : decode cX17_fits 125 = .ok (.if_icmp .ge 23, 3) := by decide +kernel
theorem dX17_fits_128 : decode cX17_fits 128 = .ok (.aload_n 0, 1) := by decide +kernel
theorem dX17_fits_129 : decode cX17_fits 129 = .ok (.getfield 22, 3) := by decide +kernel
theorem dX17_fits_132 : decode cX17_fits 132 = .ok (.iload 9, 2) := by decide +kernel
theorem dX17_fits_134 : decode cX17_fits 134 = .ok (.laload, 1) := by decide +kernel
theorem dX17_fits_135 : decode cX17_fits 135 = .ok (.lconst 0, 1) := by decide +kernel
theorem dX17_fits_136 : decode cX17_fits 136 = .ok (.lcmp, 1) := by decide +kernel
theorem dX17_fits_137 : decode cX17_fits 137 = .ok (.ifCond .eq 5, 3) := by decide +kernel
theorem dX17_fits_140 : decode cX17_fits 140 = .ok (.iconst 0, 1) := by decide +kernel
theorem dX17_fits_141 : decode cX17_fits 141 = .ok (.ireturn, 1) := by decide +kernel
theorem dX17_fits_142 : decode cX17_fits 142 = .ok (.iinc 9 1, 3) := by decide +kernel
theorem dX17_fits_145 : decode cX17_fits 145 = .ok (.goto (-26), 3) := by decide +kernel
theorem dX17_fits_148 : decode cX17_fits 148 = .ok (.iconst 1, 1) := by decide +kernel
theorem dX17_fits_149 : decode cX17_fits 149 = .ok (.ireturn, 1) := by decide +kernel
theorem dX17_times_0 : decode cX17_times 0 = .ok (.iconst 0, 1) := by decide +kernel
theorem dX17_times_1 : decode cX17_times 1 = .ok (.istore 5, 2) := by decide +kernel
theorem dX17_times_3 : decode cX17_times 3 = .ok (.iload 5, 2) := by decide +kernel
theorem dX17_times_5 : decode cX17_times 5 = .ok (.bipush 8, 2) := by decide +kernel
theorem dX17_times_7 : decode cX17_times 7 = .ok (.if_icmp .ge 17, 3) := by decide +kernel
theorem dX17_times_10 : decode cX17_times 10 = .ok (.aload_n 0, 1) := by decide +kernel
theorem dX17_times_11 : decode cX17_times 11 = .ok (.getfield 25, 3) := by decide +kernel
theorem dX17_times_14 : decode cX17_times 14 = .ok (.iload 5, 2) := by decide +kernel
theorem dX17_times_16 : decode cX17_times 16 = .ok (.lconst 0, 1) := by decide +kernel
theorem dX17_times_17 : decode cX17_times 17 = .ok (.lastore, 1) := by decide +kernel
theorem dX17_times_18 : decode cX17_times 18 = .ok (.iinc 5 1, 3) := by decide +kernel
theorem dX17_times_21 : decode cX17_times 21 = .ok (.goto (-18), 3) := by decide +kernel
theorem dX17_times_24 : decode cX17_times 24 = .ok (.iconst 0, 1) := by decide +kernel
theorem dX17_times_25 : decode cX17_times 25 = .ok (.istore 5, 2) := by decide +kernel
theorem dX17_times_27 : decode cX17_times 27 = .ok (.iload 5, 2) := by decide +kernel
theorem dX17_times_29 : decode cX17_times 29 = .ok (.iconst 3, 1) := by decide +kernel
theorem dX17_times_30 : decode cX17_times 30 = .ok (.if_icmp .ge 109, 3) := by decide +kernel
theorem dX17_times_33 : decode cX17_times 33 = .ok (.iload 5, 2) := by decide +kernel
theorem dX17_times_35 : decode cX17_times 35 = .ok (.ifCond .ne 11, 3) := by decide +kernel
theorem dX17_times_38 : decode cX17_times 38 = .ok (.lload_n 3, 1) := by decide +kernel
theorem dX17_times_39 : decode cX17_times 39 = .ok (.ldc2_w 69, 3) := by decide +kernel
theorem dX17_times_42 : decode cX17_times 42 = .ok (.land, 1) := by decide +kernel
theorem dX17_times_43 : decode cX17_times 43 = .ok (.goto 17, 3) := by decide +kernel
theorem dX17_times_46 : decode cX17_times 46 = .ok (.iload 5, 2) := by decide +kernel
theorem dX17_times_48 : decode cX17_times 48 = .ok (.iconst 1, 1) := by decide +kernel
theorem dX17_times_49 : decode cX17_times 49 = .ok (.if_icmp .ne 10, 3) := by decide +kernel
theorem dX17_times_52 : decode cX17_times 52 = .ok (.lload_n 3, 1) := by decide +kernel
theorem dX17_times_53 : decode cX17_times 53 = .ok (.bipush 32, 2) := by decide +kernel
theorem dX17_times_55 : decode cX17_times 55 = .ok (.lushr, 1) := by decide +kernel
theorem dX17_times_56 : decode cX17_times 56 = .ok (.goto 4, 3) := by decide +kernel
theorem dX17_times_59 : decode cX17_times 59 = .ok (.lload_n 1, 1) := by decide +kernel
theorem dX17_times_60 : decode cX17_times 60 = .ok (.lstore 6, 2) := by decide +kernel
theorem dX17_times_62 : decode cX17_times 62 = .ok (.lconst 0, 1) := by decide +kernel
theorem dX17_times_63 : decode cX17_times 63 = .ok (.lstore 8, 2) := by decide +kernel
theorem dX17_times_65 : decode cX17_times 65 = .ok (.iconst 0, 1) := by decide +kernel
theorem dX17_times_66 : decode cX17_times 66 = .ok (.istore 10, 2) := by decide +kernel
theorem dX17_times_68 : decode cX17_times 68 = .ok (.iload 5, 2) := by decide +kernel
theorem dX17_times_70 : decode cX17_times 70 = .ok (.iload 10, 2) := by decide +kernel
theorem dX17_times_72 : decode cX17_times 72 = .ok (.iadd, 1) := by decide +kernel
theorem dX17_times_73 : decode cX17_times 73 = .ok (.bipush 8, 2) := by decide +kernel
theorem dX17_times_75 : decode cX17_times 75 = .ok (.if_icmp .ge 58, 3) := by decide +kernel
theorem dX17_times_78 : decode cX17_times 78 = .ok (.aload_n 0, 1) := by decide +kernel
theorem dX17_times_79 : decode cX17_times 79 = .ok (.getfield 25, 3) := by decide +kernel
theorem dX17_times_82 : decode cX17_times 82 = .ok (.iload 5, 2) := by decide +kernel
theorem dX17_times_84 : decode cX17_times 84 = .ok (.iload 10, 2) := by decide +kernel
theorem dX17_times_86 : decode cX17_times 86 = .ok (.iadd, 1) := by decide +kernel
theorem dX17_times_87 : decode cX17_times 87 = .ok (.laload, 1) := by decide +kernel
theorem dX17_times_88 : decode cX17_times 88 = .ok (.lload 6, 2) := by decide +kernel
theorem dX17_times_90 : decode cX17_times 90 = .ok (.aload_n 0, 1) := by decide +kernel
theorem dX17_times_91 : decode cX17_times 91 = .ok (.getfield 22, 3) := by decide +kernel
theorem dX17_times_94 : decode cX17_times 94 = .ok (.iload 10, 2) := by decide +kernel
theorem dX17_times_96 : decode cX17_times 96 = .ok (.laload, 1) := by decide +kernel
theorem dX17_times_97 : decode cX17_times 97 = .ok (.lmul, 1) := by decide +kernel
theorem dX17_times_98 : decode cX17_times 98 = .ok (.ladd, 1) := by decide +kernel
theorem dX17_times_99 : decode cX17_times 99 = .ok (.lload 8, 2) := by decide +kernel
theorem dX17_times_101 : decode cX17_times 101 = .ok (.ladd, 1) := by decide +kernel
theorem dX17_times_102 : decode cX17_times 102 = .ok (.lstore 11, 2) := by decide +kernel
theorem dX17_times_104 : decode cX17_times 104 = .ok (.aload_n 0, 1) := by decide +kernel
theorem dX17_times_105 : decode cX17_times 105 = .ok (.getfield 25, 3) := by decide +kernel
theorem dX17_times_108 : decode cX17_times 108 = .ok (.iload 5, 2) := by decide +kernel
theorem dX17_times_110 : decode cX17_times 110 = .ok (.iload 10, 2) := by decide +kernel
theorem dX17_times_112 : decode cX17_times 112 = .ok (.iadd, 1) := by decide +kernel
theorem dX17_times_113 : decode cX17_times 113 = .ok (.lload 11, 2) := by decide +kernel
theorem dX17_times_115 : decode cX17_times 115 = .ok (.ldc2_w 69, 3) := by decide +kernel
theorem dX17_times_118 : decode cX17_times 118 = .ok (.land, 1) := by decide +kernel
theorem dX17_times_119 : decode cX17_times 119 = .ok (.lastore, 1) := by decide +kernel
theorem dX17_times_120 : decode cX17_times 120 = .ok (.lload 11, 2) := by decide +kernel
theorem dX17_times_122 : decode cX17_times 122 = .ok (.bipush 32, 2) := by decide +kernel
theorem dX17_times_124 : decode cX17_times 124 = .ok (.lushr, 1) := by decide +kernel
theorem dX17_times_125 : decode cX17_times 125 = .ok (.lstore 8, 2) := by decide +kernel
theorem dX17_times_127 : decode cX17_times 127 = .ok (.iinc 10 1, 3) := by decide +kernel
theorem dX17_times_130 : decode cX17_times 130 = .ok (.goto (-62), 3) := by decide +kernel
theorem dX17_times_133 : decode cX17_times 133 = .ok (.iinc 5 1, 3) := by decide +kernel
theorem dX17_times_136 : decode cX17_times 136 = .ok (.goto (-109), 3) := by decide +kernel
theorem dX17_times_139 : decode cX17_times 139 = .ok (.iconst 0, 1) := by decide +kernel
theorem dX17_times_140 : decode cX17_times 140 = .ok (.istore 5, 2) := by decide +kernel
theorem dX17_times_142 : decode cX17_times 142 = .ok (.iload 5, 2) := by decide +kernel
theorem dX17_times_144 : decode cX17_times 144 = .ok (.bipush 8, 2) := by decide +kernel
theorem dX17_times_146 : decode cX17_times 146 = .ok (.if_icmp .ge 23, 3) := by decide +kernel
theorem dX17_times_149 : decode cX17_times 149 = .ok (.aload_n 0, 1) := by decide +kernel
theorem dX17_times_150 : decode cX17_times 150 = .ok (.getfield 22, 3) := by decide +kernel
theorem dX17_times_153 : decode cX17_times 153 = .ok (.iload 5, 2) := by decide +kernel
theorem dX17_times_155 : decode cX17_times 155 = .ok (.aload_n 0, 1) := by decide +kernel
theorem dX17_times_156 : decode cX17_times 156 = .ok (.getfield 25, 3) := by decide +kernel
theorem dX17_times_159 : decode cX17_times 159 = .ok (.iload 5, 2) := by decide +kernel
theorem dX17_times_161 : decode cX17_times 161 = .ok (.laload, 1) := by decide +kernel
theorem dX17_times_162 : decode cX17_times 162 = .ok (.lastore, 1) := by decide +kernel
theorem dX17_times_163 : decode cX17_times 163 = .ok (.iinc 5 1, 3) := by decide +kernel
theorem dX17_times_166 : decode cX17_times 166 = .ok (.goto (-24), 3) := by decide +kernel
theorem dX17_times_169 : decode cX17_times 169 = .ok (.return_, 1) := by decide +kernel
theorem dX18_init_0 : decode cX18_init 0 = .ok (.aload_n 0, 1) := by decide +kernel
theorem dX18_init_1 : decode cX18_init 1 = .ok (.invokespecial 1, 3) := by decide +kernel
theorem dX18_init_4 : decode cX18_init 4 = .ok (.aload_n 0, 1) := by decide +kernel
theorem dX18_init_5 : decode cX18_init 5 = .ok (.bipush 32, 2) := by decide +kernel
theorem dX18_init_7 : decode cX18_init 7 = .ok (.newarray .long, 2) := by decide +kernel
theorem dX18_init_9 : decode cX18_init 9 = .ok (.putfield 7, 3) := by decide +kernel
theorem dX18_init_12 : decode cX18_init 12 = .ok (.aload_n 0, 1) := by decide +kernel
theorem dX18_init_13 : decode cX18_init 13 = .ok (.bipush 18, 2) := by decide +kernel
theorem dX18_init_15 : decode cX18_init 15 = .ok (.newarray .long, 2) := by decide +kernel
theorem dX18_init_17 : decode cX18_init 17 = .ok (.putfield 13, 3) := by decide +kernel
theorem dX18_init_20 : decode cX18_init 20 = .ok (.aload_n 0, 1) := by decide +kernel
theorem dX18_init_21 : decode cX18_init 21 = .ok (.bipush 16, 2) := by decide +kernel
theorem dX18_init_23 : decode cX18_init 23 = .ok (.newarray .long, 2) := by decide +kernel
theorem dX18_init_25 : decode cX18_init 25 = .ok (.putfield 16, 3) := by decide +kernel
theorem dX18_init_28 : decode cX18_init 28 = .ok (.aload_n 0, 1) := by decide +kernel
theorem dX18_init_29 : decode cX18_init 29 = .ok (.bipush 16, 2) := by decide +kernel
theorem dX18_init_31 : decode cX18_init 31 = .ok (.newarray .long, 2) := by decide +kernel
theorem dX18_init_33 : decode cX18_init 33 = .ok (.putfield 19, 3) := by decide +kernel
theorem dX18_init_36 : decode cX18_init 36 = .ok (.aload_n 0, 1) := by decide +kernel
theorem dX18_init_37 : decode cX18_init 37 = .ok (.bipush 17, 2) := by decide +kernel
theorem dX18_init_39 : decode cX18_init 39 = .ok (.newarray .long, 2) := by decide +kernel
theorem dX18_init_41 : decode cX18_init 41 = .ok (.putfield 22, 3) := by decide +kernel
theorem dX18_init_44 : decode cX18_init 44 = .ok (.aload_n 0, 1) := by decide +kernel
theorem dX18_init_45 : decode cX18_init 45 = .ok (.bipush 17, 2) := by decide +kernel
theorem dX18_init_47 : decode cX18_init 47 = .ok (.newarray .long, 2) := by decide +kernel
theorem dX18_init_49 : decode cX18_init 49 = .ok (.putfield 25, 3) := by decide +kernel
theorem dX18_init_52 : decode cX18_init 52 = .ok (.return_, 1) := by decide +kernel
theorem dX18_copy_0 : decode cX18_copy 0 = .ok (.iconst 0, 1) := by decide +kernel
theorem dX18_copy_1 : decode cX18_copy 1 = .ok (.istore_n 2, 1) := by decide +kernel
theorem dX18_copy_2 : decode cX18_copy 2 = .ok (.iload_n 2, 1) := by decide +kernel
theorem dX18_copy_3 : decode cX18_copy 3 = .ok (.bipush 16, 2) := by decide +kernel
theorem dX18_copy_5 : decode cX18_copy 5 = .ok (.if_icmp .ge 15, 3) := by decide +kernel
theorem dX18_copy_8 : decode cX18_copy 8 = .ok (.aload_n 0, 1) := by decide +kernel
theorem dX18_copy_9 : decode cX18_copy 9 = .ok (.iload_n 2, 1) := by decide +kernel
theorem dX18_copy_10 : decode cX18_copy 10 = .ok (.aload_n 1, 1) := by decide +kernel
theorem dX18_copy_11 : decode cX18_copy 11 = .ok (.iload_n 2, 1) := by decide +kernel
theorem dX18_copy_12 : decode cX18_copy 12 = .ok (.laload, 1) := by decide +kernel
theorem dX18_copy_13 : decode cX18_copy 13 = .ok (.lastore, 1) := by decide +kernel
theorem dX18_copy_14 : decode cX18_copy 14 = .ok (.iinc 2 1, 3) := by decide +kernel
theorem dX18_copy_17 : decode cX18_copy 17 = .ok (.goto (-15), 3) := by decide +kernel
theorem dX18_copy_20 : decode cX18_copy 20 = .ok (.return_, 1) := by decide +kernel
theorem dX18_set_0 : decode cX18_set 0 = .ok (.iconst 0, 1) := by decide +kernel
theorem dX18_set_1 : decode cX18_set 1 = .ok (.istore_n 2, 1) := by decide +kernel
theorem dX18_set_2 : decode cX18_set 2 = .ok (.iload_n 2, 1) := by decide +kernel
theorem dX18_set_3 : decode cX18_set 3 = .ok (.bipush 16, 2) := by decide +kernel
theorem dX18_set_5 : decode cX18_set 5 = .ok (.if_icmp .ge 22, 3) := by decide +kernel
theorem dX18_set_8 : decode cX18_set 8 = .ok (.aload_n 0, 1) := by decide +kernel
theorem dX18_set_9 : decode cX18_set 9 = .ok (.iload_n 2, 1) := by decide +kernel
theorem dX18_set_10 : decode cX18_set 10 = .ok (.iload_n 2, 1) := by decide +kernel
theorem dX18_set_11 : decode cX18_set 11 = .ok (.ifCond .ne 8, 3) := by decide +kernel
theorem dX18_set_14 : decode cX18_set 14 = .ok (.iload_n 1, 1) := by decide +kernel
theorem dX18_set_15 : decode cX18_set 15 = .ok (.i2l, 1) := by decide +kernel
theorem dX18_set_16 : decode cX18_set 16 = .ok (.goto 4, 3) := by decide +kernel
theorem dX18_set_19 : decode cX18_set 19 = .ok (.lconst 0, 1) := by decide +kernel
theorem dX18_set_20 : decode cX18_set 20 = .ok (.lastore, 1) := by decide +kernel
theorem dX18_set_21 : decode cX18_set 21 = .ok (.iinc 2 1, 3) := by decide +kernel
theorem dX18_set_24 : decode cX18_set 24 = .ok (.goto (-22), 3) := by decide +kernel
theorem dX18_set_27 : decode cX18_set 27 = .ok (.return_, 1) := by decide +kernel
theorem dX18_zero_0 : decode cX18_zero 0 = .ok (.iconst 0, 1) := by decide +kernel
theorem dX18_zero_1 : decode cX18_zero 1 = .ok (.istore_n 1, 1) := by decide +kernel
theorem dX18_zero_2 : decode cX18_zero 2 = .ok (.iload_n 1, 1) := by decide +kernel
theorem dX18_zero_3 : decode cX18_zero 3 = .ok (.bipush 16, 2) := by decide +kernel
theorem dX18_zero_5 : decode cX18_zero 5 = .ok (.if_icmp .ge 19, 3) := by decide +kernel
theorem dX18_zero_8 : decode cX18_zero 8 = .ok (.aload_n 0, 1) := by decide +kernel
theorem dX18_zero_9 : decode cX18_zero 9 = .ok (.iload_n 1, 1) := by decide +kernel
theorem dX18_zero_10 : decode cX18_zero 10 = .ok (.laload, 1) := by decide +kernel
theorem dX18_zero_11 : decode cX18_zero 11 = .ok (.lconst 0, 1) := by decide +kernel
theorem dX18_zero_12 : decode cX18_zero 12 = .ok (.lcmp, 1) := by decide +kernel
theorem dX18_zero_13 : decode cX18_zero 13 = .ok (.ifCond .eq 5, 3) := by decide +kernel
theorem dX18_zero_16 : decode cX18_zero 16 = .ok (.iconst 0, 1) := by decide +kernel
theorem dX18_zero_17 : decode cX18_zero 17 = .ok (.ireturn, 1) := by decide +kernel
theorem dX18_zero_18 : decode cX18_zero 18 = .ok (.iinc 1 1, 3) := by decide +kernel
theorem dX18_zero_21 : decode cX18_zero 21 = .ok (.goto (-19), 3) := by decide +kernel
theorem dX18_zero_24 : decode cX18_zero 24 = .ok (.iconst 1, 1) := by decide +kernel
theorem dX18_zero_25 : decode cX18_zero 25 = .ok (.ireturn, 1) := by decide +kernel
theorem dX18_below_0 : decode cX18_below 0 = .ok (.bipush 15, 2) := by decide +kernel
theorem dX18_below_2 : decode cX18_below 2 = .ok (.istore_n 2, 1) := by decide +kernel
theorem dX18_below_3 : decode cX18_below 3 = .ok (.iload_n 2, 1) := by decide +kernel
theorem dX18_below_4 : decode cX18_below 4 = .ok (.ifCond .lt 35, 3) := by decide +kernel
theorem dX18_below_7 : decode cX18_below 7 = .ok (.aload_n 0, 1) := by decide +kernel
theorem dX18_below_8 : decode cX18_below 8 = .ok (.iload_n 2, 1) := by decide +kernel
theorem dX18_below_9 : decode cX18_below 9 = .ok (.laload, 1) := by decide +kernel
theorem dX18_below_10 : decode cX18_below 10 = .ok (.aload_n 1, 1) := by decide +kernel
theorem dX18_below_11 : decode cX18_below 11 = .ok (.iload_n 2, 1) := by decide +kernel
theorem dX18_below_12 : decode cX18_below 12 = .ok (.laload, 1) := by decide +kernel
theorem dX18_below_13 : decode cX18_below 13 = .ok (.lcmp, 1) := by decide +kernel
theorem dX18_below_14 : decode cX18_below 14 = .ok (.ifCond .eq 19, 3) := by decide +kernel
theorem dX18_below_17 : decode cX18_below 17 = .ok (.aload_n 0, 1) := by decide +kernel
theorem dX18_below_18 : decode cX18_below 18 = .ok (.iload_n 2, 1) := by decide +kernel
theorem dX18_below_19 : decode cX18_below 19 = .ok (.laload, 1) := by decide +kernel
theorem dX18_below_20 : decode cX18_below 20 = .ok (.aload_n 1, 1) := by decide +kernel
theorem dX18_below_21 : decode cX18_below 21 = .ok (.iload_n 2, 1) := by decide +kernel
theorem dX18_below_22 : decode cX18_below 22 = .ok (.laload, 1) := by decide +kernel
theorem dX18_below_23 : decode cX18_below 23 = .ok (.lcmp, 1) := by decide +kernel
theorem dX18_below_24 : decode cX18_below 24 = .ok (.ifCond .ge 7, 3) := by decide +kernel
theorem dX18_below_27 : decode cX18_below 27 = .ok (.iconst 1, 1) := by decide +kernel
theorem dX18_below_28 : decode cX18_below 28 = .ok (.goto 4, 3) := by decide +kernel
theorem dX18_below_31 : decode cX18_below 31 = .ok (.iconst 0, 1) := by decide +kernel
theorem dX18_below_32 : decode cX18_below 32 = .ok (.ireturn, 1) := by decide +kernel
theorem dX18_below_33 : decode cX18_below 33 = .ok (.iinc 2 (-1), 3) := by decide +kernel
theorem dX18_below_36 : decode cX18_below 36 = .ok (.goto (-33), 3) := by decide +kernel
theorem dX18_below_39 : decode cX18_below 39 = .ok (.iconst 0, 1) := by decide +kernel
theorem dX18_below_40 : decode cX18_below 40 = .ok (.ireturn, 1) := by decide +kernel
theorem dX18_alike_0 : decode cX18_alike 0 = .ok (.iconst 0, 1) := by decide +kernel
theorem dX18_alike_1 : decode cX18_alike 1 = .ok (.istore_n 2, 1) := by decide +kernel
theorem dX18_alike_2 : decode cX18_alike 2 = .ok (.iload_n 2, 1) := by decide +kernel
theorem dX18_alike_3 : decode cX18_alike 3 = .ok (.bipush 16, 2) := by decide +kernel
theorem dX18_alike_5 : decode cX18_alike 5 = .ok (.if_icmp .ge 21, 3) := by decide +kernel
theorem dX18_alike_8 : decode cX18_alike 8 = .ok (.aload_n 0, 1) := by decide +kernel
theorem dX18_alike_9 : decode cX18_alike 9 = .ok (.iload_n 2, 1) := by decide +kernel
theorem dX18_alike_10 : decode cX18_alike 10 = .ok (.laload, 1) := by decide +kernel
theorem dX18_alike_11 : decode cX18_alike 11 = .ok (.aload_n 1, 1) := by decide +kernel
theorem dX18_alike_12 : decode cX18_alike 12 = .ok (.iload_n 2, 1) := by decide +kernel
theorem dX18_alike_13 : decode cX18_alike 13 = .ok (.laload, 1) := by decide +kernel
theorem dX18_alike_14 : decode cX18_alike 14 = .ok (.lcmp, 1) := by decide +kernel
theorem dX18_alike_15 : decode cX18_alike 15 = .ok (.ifCond .eq 5, 3) := by decide +kernel
theorem dX18_alike_18 : decode cX18_alike 18 = .ok (.iconst 0, 1) := by decide +kernel
theorem dX18_alike_19 : decode cX18_alike 19 = .ok (.ireturn, 1) := by decide +kernel
theorem dX18_alike_20 : decode cX18_alike 20 = .ok (.iinc 2 1, 3) := by decide +kernel
theorem dX18_alike_23 : decode cX18_alike 23 = .ok (.goto (-21), 3) := by decide +kernel
theorem dX18_alike_26 : decode cX18_alike 26 = .ok (.iconst 1, 1) := by decide +kernel
theorem dX18_alike_27 : decode cX18_alike 27 = .ok (.ireturn, 1) := by decide +kernel
theorem dX18_less_0 : decode cX18_less 0 = .ok (.lconst 0, 1) := by decide +kernel
theorem dX18_less_1 : decode cX18_less 1 = .ok (.lstore_n 3, 1) := by decide +kernel
theorem dX18_less_2 : decode cX18_less 2 = .ok (.iconst 0, 1) := by decide +kernel
theorem dX18_less_3 : decode cX18_less 3 = .ok (.istore 5, 2) := by decide +kernel
theorem dX18_less_5 : decode cX18_less 5 = .ok (.iload 5, 2) := by decide +kernel
theorem dX18_less_7 : decode cX18_less 7 = .ok (.bipush 16, 2) := by decide +kernel
theorem dX18_less_9 : decode cX18_less 9 = .ok (.if_icmp .ge 45, 3) := by decide +kernel
theorem dX18_less_12 : decode cX18_less 12 = .ok (.aload_n 1, 1) := by decide +kernel
theorem dX18_less_13 : decode cX18_less 13 = .ok (.iload 5, 2) := by decide +kernel
theorem dX18_less_15 : decode cX18_less 15 = .ok (.laload, 1) := by decide +kernel
theorem dX18_less_16 : decode cX18_less 16 = .ok (.aload_n 2, 1) := by decide +kernel
theorem dX18_less_17 : decode cX18_less 17 = .ok (.iload 5, 2) := by decide +kernel
theorem dX18_less_19 : decode cX18_less 19 = .ok (.laload, 1) := by decide +kernel
theorem dX18_less_20 : decode cX18_less 20 = .ok (.lsub, 1) := by decide +kernel
theorem dX18_less_21 : decode cX18_less 21 = .ok (.lload_n 3, 1) := by decide +kernel
theorem dX18_less_22 : decode cX18_less 22 = .ok (.lsub, 1) := by decide +kernel
theorem dX18_less_23 : decode cX18_less 23 = .ok (.lstore 6, 2) := by decide +kernel
theorem dX18_less_25 : decode cX18_less 25 = .ok (.lload 6, 2) := by decide +kernel
theorem dX18_less_27 : decode cX18_less 27 = .ok (.lconst 0, 1) := by decide +kernel
theorem dX18_less_28 : decode cX18_less 28 = .ok (.lcmp, 1) := by decide +kernel
theorem dX18_less_29 : decode cX18_less 29 = .ok (.ifCond .ge 7, 3) := by decide +kernel
theorem dX18_less_32 : decode cX18_less 32 = .ok (.lconst 1, 1) := by decide +kernel
theorem dX18_less_33 : decode cX18_less 33 = .ok (.goto 4, 3) := by decide +kernel
theorem dX18_less_36 : decode cX18_less 36 = .ok (.lconst 0, 1) := by decide +kernel
theorem dX18_less_37 : decode cX18_less 37 = .ok (.lstore_n 3, 1) := by decide +kernel
theorem dX18_less_38 : decode cX18_less 38 = .ok (.aload_n 0, 1) := by decide +kernel
theorem dX18_less_39 : decode cX18_less 39 = .ok (.iload 5, 2) := by decide +kernel
theorem dX18_less_41 : decode cX18_less 41 = .ok (.lload 6, 2) := by decide +kernel
theorem dX18_less_43 : decode cX18_less 43 = .ok (.ldc2_w 28, 3) := by decide +kernel
theorem dX18_less_46 : decode cX18_less 46 = .ok (.land, 1) := by decide +kernel
theorem dX18_less_47 : decode cX18_less 47 = .ok (.lastore, 1) := by decide +kernel
theorem dX18_less_48 : decode cX18_less 48 = .ok (.iinc 5 1, 3) := by decide +kernel
theorem dX18_less_51 : decode cX18_less 51 = .ok (.goto (-46), 3) := by decide +kernel
theorem dX18_less_54 : decode cX18_less 54 = .ok (.return_, 1) := by decide +kernel
theorem dX18_plus_0 : decode cX18_plus 0 = .ok (.lconst 0, 1) := by decide +kernel
theorem dX18_plus_1 : decode cX18_plus 1 = .ok (.lstore 4, 2) := by decide +kernel
theorem dX18_plus_3 : decode cX18_plus 3 = .ok (.iconst 0, 1) := by decide +kernel
theorem dX18_plus_4 : decode cX18_plus 4 = .ok (.istore 6, 2) := by decide +kernel
theorem dX18_plus_6 : decode cX18_plus 6 = .ok (.iload 6, 2) := by decide +kernel
theorem dX18_plus_8 : decode cX18_plus 8 = .ok (.bipush 16, 2) := by decide +kernel
theorem dX18_plus_10 : decode cX18_plus 10 = .ok (.if_icmp .ge 40, 3) := by decide +kernel
theorem dX18_plus_13 : decode cX18_plus 13 = .ok (.lload 4, 2) := by decide +kernel
theorem dX18_plus_15 : decode cX18_plus 15 = .ok (.aload_n 1, 1) := by decide +kernel
theorem dX18_plus_16 : decode cX18_plus 16 = .ok (.iload 6, 2) := by decide +kernel
theorem dX18_plus_18 : decode cX18_plus 18 = .ok (.laload, 1) := by decide +kernel
theorem dX18_plus_19 : decode cX18_plus 19 = .ok (.aload_n 2, 1) := by decide +kernel
theorem dX18_plus_20 : decode cX18_plus 20 = .ok (.iload 6, 2) := by decide +kernel
theorem dX18_plus_22 : decode cX18_plus 22 = .ok (.laload, 1) := by decide +kernel
theorem dX18_plus_23 : decode cX18_plus 23 = .ok (.ladd, 1) := by decide +kernel
theorem dX18_plus_24 : decode cX18_plus 24 = .ok (.ladd, 1) := by decide +kernel
theorem dX18_plus_25 : decode cX18_plus 25 = .ok (.lstore 4, 2) := by decide +kernel
theorem dX18_plus_27 : decode cX18_plus 27 = .ok (.aload_n 0, 1) := by decide +kernel
theorem dX18_plus_28 : decode cX18_plus 28 = .ok (.iload 6, 2) := by decide +kernel
theorem dX18_plus_30 : decode cX18_plus 30 = .ok (.lload 4, 2) := by decide +kernel
theorem dX18_plus_32 : decode cX18_plus 32 = .ok (.ldc2_w 28, 3) := by decide +kernel
theorem dX18_plus_35 : decode cX18_plus 35 = .ok (.land, 1) := by decide +kernel
theorem dX18_plus_36 : decode cX18_plus 36 = .ok (.lastore, 1) := by decide +kernel
theorem dX18_plus_37 : decode cX18_plus 37 = .ok (.lload 4, 2) := by decide +kernel
theorem dX18_plus_39 : decode cX18_plus 39 = .ok (.bipush 16, 2) := by decide +kernel
theorem dX18_plus_41 : decode cX18_plus 41 = .ok (.lshr, 1) := by decide +kernel
theorem dX18_plus_42 : decode cX18_plus 42 = .ok (.lstore 4, 2) := by decide +kernel
theorem dX18_plus_44 : decode cX18_plus 44 = .ok (.iinc 6 1, 3) := by decide +kernel
theorem dX18_plus_47 : decode cX18_plus 47 = .ok (.goto (-41), 3) := by decide +kernel
theorem dX18_plus_50 : decode cX18_plus 50 = .ok (.lload 4, 2) := by decide +kernel
theorem dX18_plus_52 : decode cX18_plus 52 = .ok (.lconst 0, 1) := by decide +kernel
theorem dX18_plus_53 : decode cX18_plus 53 = .ok (.lcmp, 1) := by decide +kernel
theorem dX18_plus_54 : decode cX18_plus 54 = .ok (.ifCond .gt 11, 3) := by decide +kernel
theorem dX18_plus_57 : decode cX18_plus 57 = .ok (.aload_n 0, 1) := by decide +kernel
theorem dX18_plus_58 : decode cX18_plus 58 = .ok (.aload_n 3, 1) := by decide +kernel
theorem dX18_plus_59 : decode cX18_plus 59 = .ok (.invokestatic 30, 3) := by decide +kernel
theorem dX18_plus_62 : decode cX18_plus 62 = .ok (.ifCond .ne 9, 3) := by decide +kernel
theorem dX18_plus_65 : decode cX18_plus 65 = .ok (.aload_n 0, 1) := by decide +kernel
theorem dX18_plus_66 : decode cX18_plus 66 = .ok (.aload_n 0, 1) := by decide +kernel
theorem dX18_plus_67 : decode cX18_plus 67 = .ok (.aload_n 3, 1) := by decide +kernel
theorem dX18_plus_68 : decode cX18_plus 68 = .ok (.invokestatic 34, 3) := by decide +kernel
theorem dX18_plus_71 : decode cX18_plus 71 = .ok (.return_, 1) := by decide +kernel
theorem dX18_minus_0 : decode cX18_minus 0 = .ok (.lconst 0, 1) := by decide +kernel
theorem dX18_minus_1 : decode cX18_minus 1 = .ok (.lstore 4, 2) := by decide +kernel
theorem dX18_minus_3 : decode cX18_minus 3 = .ok (.iconst 0, 1) := by decide +kernel
theorem dX18_minus_4 : decode cX18_minus 4 = .ok (.istore 6, 2) := by decide +kernel
theorem dX18_minus_6 : decode cX18_minus 6 = .ok (.iload 6, 2) := by decide +kernel
theorem dX18_minus_8 : decode cX18_minus 8 = .ok (.bipush 16, 2) := by decide +kernel
theorem dX18_minus_10 : decode cX18_minus 10 = .ok (.if_icmp .ge 47, 3) := by decide +kernel
theorem dX18_minus_13 : decode cX18_minus 13 = .ok (.aload_n 1, 1) := by decide +kernel
theorem dX18_minus_14 : decode cX18_minus 14 = .ok (.iload 6, 2) := by decide +kernel
theorem dX18_minus_16 : decode cX18_minus 16 = .ok (.laload, 1) := by decide +kernel
theorem dX18_minus_17 : decode cX18_minus 17 = .ok (.aload_n 2, 1) := by decide +kernel
theorem dX18_minus_18 : decode cX18_minus 18 = .ok (.iload 6, 2) := by decide +kernel
theorem dX18_minus_20 : decode cX18_minus 20 = .ok (.laload, 1) := by decide +kernel
theorem dX18_minus_21 : decode cX18_minus 21 = .ok (.lsub, 1) := by decide +kernel
theorem dX18_minus_22 : decode cX18_minus 22 = .ok (.lload 4, 2) := by decide +kernel
theorem dX18_minus_24 : decode cX18_minus 24 = .ok (.lsub, 1) := by decide +kernel
theorem dX18_minus_25 : decode cX18_minus 25 = .ok (.lstore 7, 2) := by decide +kernel
theorem dX18_minus_27 : decode cX18_minus 27 = .ok (.lload 7, 2) := by decide +kernel
theorem dX18_minus_29 : decode cX18_minus 29 = .ok (.lconst 0, 1) := by decide +kernel
theorem dX18_minus_30 : decode cX18_minus 30 = .ok (.lcmp, 1) := by decide +kernel
theorem dX18_minus_31 : decode cX18_minus 31 = .ok (.ifCond .ge 7, 3) := by decide +kernel
theorem dX18_minus_34 : decode cX18_minus 34 = .ok (.lconst 1, 1) := by decide +kernel
theorem dX18_minus_35 : decode cX18_minus 35 = .ok (.goto 4, 3) := by decide +kernel
theorem dX18_minus_38 : decode cX18_minus 38 = .ok (.lconst 0, 1) := by decide +kernel
theorem dX18_minus_39 : decode cX18_minus 39 = .ok (.lstore 4, 2) := by decide +kernel
theorem dX18_minus_41 : decode cX18_minus 41 = .ok (.aload_n 0, 1) := by decide +kernel
theorem dX18_minus_42 : decode cX18_minus 42 = .ok (.iload 6, 2) := by decide +kernel
theorem dX18_minus_44 : decode cX18_minus 44 = .ok (.lload 7, 2) := by decide +kernel
theorem dX18_minus_46 : decode cX18_minus 46 = .ok (.ldc2_w 28, 3) := by decide +kernel
theorem dX18_minus_49 : decode cX18_minus 49 = .ok (.land, 1) := by decide +kernel
theorem dX18_minus_50 : decode cX18_minus 50 = .ok (.lastore, 1) := by decide +kernel
theorem dX18_minus_51 : decode cX18_minus 51 = .ok (.iinc 6 1, 3) := by decide +kernel
theorem dX18_minus_54 : decode cX18_minus 54 = .ok (.goto (-48), 3) := by decide +kernel
theorem dX18_minus_57 : decode cX18_minus 57 = .ok (.lload 4, 2) := by decide +kernel
theorem dX18_minus_59 : decode cX18_minus 59 = .ok (.lconst 0, 1) := by decide +kernel
theorem dX18_minus_60 : decode cX18_minus 60 = .ok (.lcmp, 1) := by decide +kernel
theorem dX18_minus_61 : decode cX18_minus 61 = .ok (.ifCond .ne 4, 3) := by decide +kernel
theorem dX18_minus_64 : decode cX18_minus 64 = .ok (.return_, 1) := by decide +kernel
theorem dX18_minus_65 : decode cX18_minus 65 = .ok (.lconst 0, 1) := by decide +kernel
theorem dX18_minus_66 : decode cX18_minus 66 = .ok (.lstore 6, 2) := by decide +kernel
theorem dX18_minus_68 : decode cX18_minus 68 = .ok (.iconst 0, 1) := by decide +kernel
theorem dX18_minus_69 : decode cX18_minus 69 = .ok (.istore 8, 2) := by decide +kernel
theorem dX18_minus_71 : decode cX18_minus 71 = .ok (.iload 8, 2) := by decide +kernel
theorem dX18_minus_73 : decode cX18_minus 73 = .ok (.bipush 16, 2) := by decide +kernel
theorem dX18_minus_75 : decode cX18_minus 75 = .ok (.if_icmp .ge 40, 3) := by decide +kernel
theorem dX18_minus_78 : decode cX18_minus 78 = .ok (.lload 6, 2) := by decide +kernel
theorem dX18_minus_80 : decode cX18_minus 80 = .ok (.aload_n 0, 1) := by decide +kernel
theorem dX18_minus_81 : decode cX18_minus 81 = .ok (.iload 8, 2) := by decide +kernel
theorem dX18_minus_83 : decode cX18_minus 83 = .ok (.laload, 1) := by decide +kernel
theorem dX18_minus_84 : decode cX18_minus 84 = .ok (.aload_n 3, 1) := by decide +kernel
theorem dX18_minus_85 : decode cX18_minus 85 = .ok (.iload 8, 2) := by decide +kernel
theorem dX18_minus_87 : decode cX18_minus 87 = .ok (.laload, 1) := by decide +kernel
theorem dX18_minus_88 : decode cX18_minus 88 = .ok (.ladd, 1) := by decide +kernel
theorem dX18_minus_89 : decode cX18_minus 89 = .ok (.ladd, 1) := by decide +kernel
theorem dX18_minus_90 : decode cX18_minus 90 = .ok (.lstore 6, 2) := by decide +kernel
theorem dX18_minus_92 : decode cX18_minus 92 = .ok (.aload_n 0, 1) := by decide +kernel
theorem dX18_minus_93 : decode cX18_minus 93 = .ok (.iload 8, 2) := by decide +kernel
theorem dX18_minus_95 : decode cX18_minus 95 = .ok (.lload 6, 2) := by decide +kernel
theorem dX18_minus_97 : decode cX18_minus 97 = .ok (.ldc2_w 28, 3) := by decide +kernel
theorem dX18_minus_100 : decode cX18_minus 100 = .ok (.land, 1) := by decide +kernel
theorem dX18_minus_101 : decode cX18_minus 101 = .ok (.lastore, 1) := by decide +kernel
theorem dX18_minus_102 : decode cX18_minus 102 = .ok (.lload 6, 2) := by decide +kernel
theorem dX18_minus_104 : decode cX18_minus 104 = .ok (.bipush 16, 2) := by decide +kernel
theorem dX18_minus_106 : decode cX18_minus 106 = .ok (.lshr, 1) := by decide +kernel
theorem dX18_minus_107 : decode cX18_minus 107 = .ok (.lstore 6, 2) := by decide +kernel
theorem dX18_minus_109 : decode cX18_minus 109 = .ok (.iinc 8 1, 3) := by decide +kernel
theorem dX18_minus_112 : decode cX18_minus 112 = .ok (.goto (-41), 3) := by decide +kernel
theorem dX18_minus_115 : decode cX18_minus 115 = .ok (.return_, 1) := by decide +kernel
theorem dX18_remainders_0 : decode cX18_remainders 0 = .ok (.aload_n 2, 1) := by decide +kernel
theorem dX18_remainders_1 : decode cX18_remainders 1 = .ok (.iconst 1, 1) := by decide +kernel
theorem dX18_remainders_2 : decode cX18_remainders 2 = .ok (.invokestatic 38, 3) := by decide +kernel
theorem dX18_remainders_5 : decode cX18_remainders 5 = .ok (.iconst 0, 1) := by decide +kernel
theorem dX18_remainders_6 : decode cX18_remainders 6 = .ok (.istore_n 3, 1) := by decide +kernel
theorem dX18_remainders_7 : decode cX18_remainders 7 = .ok (.iload_n 3, 1) := by decide +kernel
theorem dX18_remainders_8 : decode cX18_remainders 8 = .ok (.sipush 496, 3) := by decide +kernel
theorem dX18_remainders_11 : decode cX18_remainders 11 = .ok (.if_icmp .ge 62, 3) := by decide +kernel
theorem dX18_remainders_14 : decode cX18_remainders 14 = .ok (.aload_n 2, 1) := by decide +kernel
theorem dX18_remainders_15 : decode cX18_remainders 15 = .ok (.aload_n 2, 1) := by decide +kernel
theorem dX18_remainders_16 : decode cX18_remainders 16 = .ok (.aload_n 2, 1) := by decide +kernel
theorem dX18_remainders_17 : decode cX18_remainders 17 = .ok (.aload_n 1, 1) := by decide +kernel
theorem dX18_remainders_18 : decode cX18_remainders 18 = .ok (.invokestatic 42, 3) := by decide +kernel
theorem dX18_remainders_21 : decode cX18_remainders 21 = .ok (.iload_n 3, 1) := by decide +kernel
theorem dX18_remainders_22 : decode cX18_remainders 22 = .ok (.sipush 255, 3) := by decide +kernel
theorem dX18_remainders_25 : decode cX18_remainders 25 = .ok (.if_icmp .lt 42, 3) := by decide +kernel
theorem dX18_remainders_28 : decode cX18_remainders 28 = .ok (.iload_n 3, 1) := by decide +kernel
theorem dX18_remainders_29 : decode cX18_remainders 29 = .ok (.bipush 16, 2) := by decide +kernel
theorem dX18_remainders_31 : decode cX18_remainders 31 = .ok (.irem, 1) := by decide +kernel
theorem dX18_remainders_32 : decode cX18_remainders 32 = .ok (.bipush 15, 2) := by decide +kernel
theorem dX18_remainders_34 : decode cX18_remainders 34 = .ok (.if_icmp .ne 33, 3) := by decide +kernel
theorem dX18_remainders_37 : decode cX18_remainders 37 = .ok (.iconst 0, 1) := by decide +kernel
theorem dX18_remainders_38 : decode cX18_remainders 38 = .ok (.istore 4, 2) := by decide +kernel
theorem dX18_remainders_40 : decode cX18_remainders 40 = .ok (.iload 4, 2) := by decide +kernel
theorem dX18_remainders_42 : decode cX18_remainders 42 = .ok (.bipush 16, 2) := by decide +kernel
theorem dX18_remainders_44 : decode cX18_remainders 44 = .ok (.if_icmp .ge 23, 3) := by decide +kernel
theorem dX18_remainders_47 : decode cX18_remainders 47 = .ok (.aload_n 0, 1) := by decide +kernel
theorem dX18_remainders_48 : decode cX18_remainders 48 = .ok (.iload_n 3, 1) := by decide +kernel
theorem dX18_remainders_49 : decode cX18_remainders 49 = .ok (.sipush 255, 3) := by decide +kernel
theorem dX18_remainders_52 : decode cX18_remainders 52 = .ok (.isub, 1) := by decide +kernel
theorem dX18_remainders_53 : decode cX18_remainders 53 = .ok (.iload 4, 2) := by decide +kernel
theorem dX18_remainders_55 : decode cX18_remainders 55 = .ok (.iadd, 1) := by decide +kernel
theorem dX18_remainders_56 : decode cX18_remainders 56 = .ok (.aload_n 2, 1) := by decide +kernel
theorem dX18_remainders_57 : decode cX18_remainders 57 = .ok (.iload 4, 2) := by decide +kernel
theorem dX18_remainders_59 : decode cX18_remainders 59 = .ok (.laload, 1) := by decide +kernel
theorem dX18_remainders_60 : decode cX18_remainders 60 = .ok (.lastore, 1) := by decide +kernel
theorem dX18_remainders_61 : decode cX18_remainders 61 = .ok (.iinc 4 1, 3) := by decide +kernel
theorem dX18_remainders_64 : decode cX18_remainders 64 = .ok (.goto (-24), 3) := by decide +kernel
theorem dX18_remainders_67 : decode cX18_remainders 67 = .ok (.iinc 3 1, 3) := by decide +kernel
theorem dX18_remainders_70 : decode cX18_remainders 70 = .ok (.goto (-63), 3) := by decide +kernel
theorem dX18_remainders_73 : decode cX18_remainders 73 = .ok (.return_, 1) := by decide +kernel
theorem dX18_reduce_0 : decode cX18_reduce 0 = .ok (.iconst 0, 1) := by decide +kernel
theorem dX18_reduce_1 : decode cX18_reduce 1 = .ok (.istore 4, 2) := by decide +kernel
theorem dX18_reduce_3 : decode cX18_reduce 3 = .ok (.iload 4, 2) := by decide +kernel
theorem dX18_reduce_5 : decode cX18_reduce 5 = .ok (.bipush 16, 2) := by decide +kernel
theorem dX18_reduce_7 : decode cX18_reduce 7 = .ok (.if_icmp .ge 69, 3) := by decide +kernel
theorem dX18_reduce_10 : decode cX18_reduce 10 = .ok (.aload_n 0, 1) := by decide +kernel
theorem dX18_reduce_11 : decode cX18_reduce 11 = .ok (.getfield 7, 3) := by decide +kernel
theorem dX18_reduce_14 : decode cX18_reduce 14 = .ok (.iload 4, 2) := by decide +kernel
theorem dX18_reduce_16 : decode cX18_reduce 16 = .ok (.laload, 1) := by decide +kernel
theorem dX18_reduce_17 : decode cX18_reduce 17 = .ok (.lstore 5, 2) := by decide +kernel
theorem dX18_reduce_19 : decode cX18_reduce 19 = .ok (.iconst 0, 1) := by decide +kernel
theorem dX18_reduce_20 : decode cX18_reduce 20 = .ok (.istore 7, 2) := by decide +kernel
theorem dX18_reduce_22 : decode cX18_reduce 22 = .ok (.iload 7, 2) := by decide +kernel
theorem dX18_reduce_24 : decode cX18_reduce 24 = .ok (.bipush 16, 2) := by decide +kernel
theorem dX18_reduce_26 : decode cX18_reduce 26 = .ok (.if_icmp .ge 35, 3) := by decide +kernel
theorem dX18_reduce_29 : decode cX18_reduce 29 = .ok (.lload 5, 2) := by decide +kernel
theorem dX18_reduce_31 : decode cX18_reduce 31 = .ok (.aload_n 0, 1) := by decide +kernel
theorem dX18_reduce_32 : decode cX18_reduce 32 = .ok (.getfield 7, 3) := by decide +kernel
theorem dX18_reduce_35 : decode cX18_reduce 35 = .ok (.bipush 16, 2) := by decide +kernel
theorem dX18_reduce_37 : decode cX18_reduce 37 = .ok (.iload 7, 2) := by decide +kernel
theorem dX18_reduce_39 : decode cX18_reduce 39 = .ok (.iadd, 1) := by decide +kernel
theorem dX18_reduce_40 : decode cX18_reduce 40 = .ok (.laload, 1) := by decide +kernel
theorem dX18_reduce_41 : decode cX18_reduce 41 = .ok (.aload_n 3, 1) := by decide +kernel
theorem dX18_reduce_42 : decode cX18_reduce 42 = .ok (.bipush 16, 2) := by decide +kernel
theorem dX18_reduce_44 : decode cX18_reduce 44 = .ok (.iload 7, 2) := by decide +kernel
theorem dX18_reduce_46 : decode cX18_reduce 46 = .ok (.imul, 1) := by decide +kernel
theorem dX18_reduce_47 : decode cX18_reduce 47 = .ok (.iload 4, 2) := by decide +kernel
theorem dX18_reduce_49 : decode cX18_reduce 49 = .ok (.iadd, 1) := by decide +kernel
theorem dX18_reduce_50 : decode cX18_reduce 50 = .ok (.laload, 1) := by decide +kernel
theorem dX18_reduce_51 : decode cX18_reduce 51 = .ok (.lmul, 1) := by decide +kernel
theorem dX18_reduce_52 : decode cX18_reduce 52 = .ok (.ladd, 1) := by decide +kernel
theorem dX18_reduce_53 : decode cX18_reduce 53 = .ok (.lstore 5, 2) := by decide +kernel
theorem dX18_reduce_55 : decode cX18_reduce 55 = .ok (.iinc 7 1, 3) := by decide +kernel
theorem dX18_reduce_58 : decode cX18_reduce 58 = .ok (.goto (-36), 3) := by decide +kernel
theorem dX18_reduce_61 : decode cX18_reduce 61 = .ok (.aload_n 0, 1) := by decide +kernel
theorem dX18_reduce_62 : decode cX18_reduce 62 = .ok (.getfield 13, 3) := by decide +kernel
theorem dX18_reduce_65 : decode cX18_reduce 65 = .ok (.iload 4, 2) := by decide +kernel
theorem dX18_reduce_67 : decode cX18_reduce 67 = .ok (.lload 5, 2) := by decide +kernel
theorem dX18_reduce_69 : decode cX18_reduce 69 = .ok (.lastore, 1) := by decide +kernel
theorem dX18_reduce_70 : decode cX18_reduce 70 = .ok (.iinc 4 1, 3) := by decide +kernel
theorem dX18_reduce_73 : decode cX18_reduce 73 = .ok (.goto (-70), 3) := by decide +kernel
theorem dX18_reduce_76 : decode cX18_reduce 76 = .ok (.lconst 1, 1) := by decide +kernel
theorem dX18_reduce_77 : decode cX18_reduce 77 = .ok (.lstore 4, 2) := by decide +kernel
theorem dX18_reduce_79 : decode cX18_reduce 79 = .ok (.iconst 0, 1) := by decide +kernel
theorem dX18_reduce_80 : decode cX18_reduce 80 = .ok (.istore 6, 2) := by decide +kernel
theorem dX18_reduce_82 : decode cX18_reduce 82 = .ok (.iload 6, 2) := by decide +kernel
theorem dX18_reduce_84 : decode cX18_reduce 84 = .ok (.bipush 9, 2) := by decide +kernel
theorem dX18_reduce_86 : decode cX18_reduce 86 = .ok (.if_icmp .ge 104, 3) := by decide +kernel
theorem dX18_reduce_89 : decode cX18_reduce 89 = .ok (.lload 4, 2) := by decide +kernel
theorem dX18_reduce_91 : decode cX18_reduce 91 = .ok (.lconst 0, 1) := by decide +kernel
theorem dX18_reduce_92 : decode cX18_reduce 92 = .ok (.lcmp, 1) := by decide +kernel
theorem dX18_reduce_93 : decode cX18_reduce 93 = .ok (.ifCond .le 97, 3) := by decide +kernel
theorem dX18_reduce_96 : decode cX18_reduce 96 = .ok (.lconst 0, 1) := by decide +kernel
theorem dX18_reduce_97 : decode cX18_reduce 97 = .ok (.lstore 7, 2) := by decide +kernel
theorem dX18_reduce_99 : decode cX18_reduce 99 = .ok (.iconst 0, 1) := by decide +kernel
theorem dX18_reduce_100 : decode cX18_reduce 100 = .ok (.istore 9, 2) := by decide +kernel
theorem dX18_reduce_102 : decode cX18_reduce 102 = .ok (.iload 9, 2) := by decide +kernel
theorem dX18_reduce_104 : decode cX18_reduce 104 = .ok (.bipush 16, 2) := by decide +kernel
theorem dX18_reduce_106 : decode cX18_reduce 106 = .ok (.if_icmp .ge 41, 3) := by decide +kernel
theorem dX18_reduce_109 : decode cX18_reduce 109 = .ok (.lload 7, 2) := by decide +kernel
theorem dX18_reduce_111 : decode cX18_reduce 111 = .ok (.aload_n 0, 1) := by decide +kernel
theorem dX18_reduce_112 : decode cX18_reduce 112 = .ok (.getfield 13, 3) := by decide +kernel
theorem dX18_reduce_115 : decode cX18_reduce 115 = .ok (.iload 9, 2) := by decide +kernel
theorem dX18_reduce_117 : decode cX18_reduce 117 = .ok (.laload, 1) := by decide +kernel
theorem dX18_reduce_118 : decode cX18_reduce 118 = .ok (.ladd, 1) := by decide +kernel
theorem dX18_reduce_119 : decode cX18_reduce 119 = .ok (.lstore 7, 2) := by decide +kernel
theorem dX18_reduce_121 : decode cX18_reduce 121 = .ok (.aload_n 0, 1) := by decide +kernel
theorem dX18_reduce_122 : decode cX18_reduce 122 = .ok (.getfield 13, 3) := by decide +kernel
theorem dX18_reduce_125 : decode cX18_reduce 125 = .ok (.iload 9, 2) := by decide +kernel
theorem dX18_reduce_127 : decode cX18_reduce 127 = .ok (.lload 7, 2) := by decide +kernel
theorem dX18_reduce_129 : decode cX18_reduce 129 = .ok (.ldc2_w 28, 3) := by decide +kernel
theorem dX18_reduce_132 : decode cX18_reduce 132 = .ok (.land, 1) := by decide +kernel
theorem dX18_reduce_133 : decode cX18_reduce 133 = .ok (.lastore, 1) := by decide +kernel
theorem dX18_reduce_134 : decode cX18_reduce 134 = .ok (.lload 7, 2) := by decide +kernel
theorem dX18_reduce_136 : decode cX18_reduce 136 = .ok (.bipush 16, 2) := by decide +kernel
theorem dX18_reduce_138 : decode cX18_reduce 138 = .ok (.lshr, 1) := by decide +kernel
theorem dX18_reduce_139 : decode cX18_reduce 139 = .ok (.lstore 7, 2) := by decide +kernel
theorem dX18_reduce_141 : decode cX18_reduce 141 = .ok (.iinc 9 1, 3) := by decide +kernel
theorem dX18_reduce_144 : decode cX18_reduce 144 = .ok (.goto (-42), 3) := by decide +kernel
theorem dX18_reduce_147 : decode cX18_reduce 147 = .ok (.lload 7, 2) := by decide +kernel
theorem dX18_reduce_149 : decode cX18_reduce 149 = .ok (.lstore 4, 2) := by decide +kernel
theorem dX18_reduce_151 : decode cX18_reduce 151 = .ok (.iconst 0, 1) := by decide +kernel
theorem dX18_reduce_152 : decode cX18_reduce 152 = .ok (.istore 9, 2) := by decide +kernel
theorem dX18_reduce_154 : decode cX18_reduce 154 = .ok (.iload 9, 2) := by decide +kernel
theorem dX18_reduce_156 : decode cX18_reduce 156 = .ok (.bipush 16, 2) := by decide +kernel
theorem dX18_reduce_158 : decode cX18_reduce 158 = .ok (.if_icmp .ge 26, 3) := by decide +kernel
theorem dX18_reduce_161 : decode cX18_reduce 161 = .ok (.aload_n 0, 1) := by decide +kernel
theorem dX18_reduce_162 : decode cX18_reduce 162 = .ok (.getfield 13, 3) := by decide +kernel
theorem dX18_reduce_165 : decode cX18_reduce 165 = .ok (.iload 9, 2) := by decide +kernel
theorem dX18_reduce_167 : decode cX18_reduce 167 = .ok (.dup2, 1) := by decide +kernel
theorem dX18_reduce_168 : decode cX18_reduce 168 = .ok (.laload, 1) := by decide +kernel
theorem dX18_reduce_169 : decode cX18_reduce 169 = .ok (.lload 4, 2) := by decide +kernel
theorem dX18_reduce_171 : decode cX18_reduce 171 = .ok (.aload_n 3, 1) := by decide +kernel
theorem dX18_reduce_172 : decode cX18_reduce 172 = .ok (.iload 9, 2) := by decide +kernel
theorem dX18_reduce_174 : decode cX18_reduce 174 = .ok (.laload, 1) := by decide +kernel
theorem dX18_reduce_175 : decode cX18_reduce 175 = .ok (.lmul, 1) := by decide +kernel
theorem dX18_reduce_176 : decode cX18_reduce 176 = .ok (.ladd, 1) := by decide +kernel
theorem dX18_reduce_177 : decode cX18_reduce 177 = .ok (.lastore, 1) := by decide +kernel
theorem dX18_reduce_178 : decode cX18_reduce 178 = .ok (.iinc 9 1, 3) := by decide +kernel
theorem dX18_reduce_181 : decode cX18_reduce 181 = .ok (.goto (-27), 3) := by decide +kernel
theorem dX18_reduce_184 : decode cX18_reduce 184 = .ok (.iinc 6 1, 3) := by decide +kernel
theorem dX18_reduce_187 : decode cX18_reduce 187 = .ok (.goto (-105), 3) := by decide +kernel
theorem dX18_reduce_190 : decode cX18_reduce 190 = .ok (.iconst 0, 1) := by decide +kernel
theorem dX18_reduce_191 : decode cX18_reduce 191 = .ok (.istore 6, 2) := by decide +kernel
theorem dX18_reduce_193 : decode cX18_reduce 193 = .ok (.iload 6, 2) := by decide +kernel
theorem dX18_reduce_195 : decode cX18_reduce 195 = .ok (.bipush 16, 2) := by decide +kernel
theorem dX18_reduce_197 : decode cX18_reduce 197 = .ok (.if_icmp .ge 20, 3) := by decide +kernel
theorem dX18_reduce_200 : decode cX18_reduce 200 = .ok (.aload_n 1, 1) := by decide +kernel
theorem dX18_reduce_201 : decode cX18_reduce 201 = .ok (.iload 6, 2) := by decide +kernel
theorem dX18_reduce_203 : decode cX18_reduce 203 = .ok (.aload_n 0, 1) := by decide +kernel
theorem dX18_reduce_204 : decode cX18_reduce 204 = .ok (.getfield 13, 3) := by decide +kernel
theorem dX18_reduce_207 : decode cX18_reduce 207 = .ok (.iload 6, 2) := by decide +kernel
theorem dX18_reduce_209 : decode cX18_reduce 209 = .ok (.laload, 1) := by decide +kernel
theorem dX18_reduce_210 : decode cX18_reduce 210 = .ok (.lastore, 1) := by decide +kernel
theorem dX18_reduce_211 : decode cX18_reduce 211 = .ok (.iinc 6 1, 3) := by decide +kernel
theorem dX18_reduce_214 : decode cX18_reduce 214 = .ok (.goto (-21), 3) := by decide +kernel
theorem dX18_reduce_217 : decode cX18_reduce 217 = .ok (.iconst 0, 1) := by decide +kernel
theorem dX18_reduce_218 : decode cX18_reduce 218 = .ok (.istore 6, 2) := by decide +kernel
theorem dX18_reduce_220 : decode cX18_reduce 220 = .ok (.iload 6, 2) := by decide +kernel
theorem dX18_reduce_222 : decode cX18_reduce 222 = .ok (.bipush 16, 2) := by decide +kernel
theorem dX18_reduce_224 : decode cX18_reduce 224 = .ok (.if_icmp .ge 23, 3) := by decide +kernel
theorem dX18_reduce_227 : decode cX18_reduce 227 = .ok (.aload_n 1, 1) := by decide +kernel
theorem dX18_reduce_228 : decode cX18_reduce 228 = .ok (.aload_n 2, 1) := by decide +kernel
theorem dX18_reduce_229 : decode cX18_reduce 229 = .ok (.invokestatic 30, 3) := by decide +kernel
theorem dX18_reduce_232 : decode cX18_reduce 232 = .ok (.ifCond .ne 15, 3) := by decide +kernel
theorem dX18_reduce_235 : decode cX18_reduce 235 = .ok (.aload_n 1, 1) := by decide +kernel
theorem dX18_reduce_236 : decode cX18_reduce 236 = .ok (.aload_n 1, 1) := by decide +kernel
theorem dX18_reduce_237 : decode cX18_reduce 237 = .ok (.aload_n 2, 1) := by decide +kernel
theorem dX18_reduce_238 : decode cX18_reduce 238 = .ok (.invokestatic 34, 3) := by decide +kernel
theorem dX18_reduce_241 : decode cX18_reduce 241 = .ok (.iinc 6 1, 3) := by decide +kernel
theorem dX18_reduce_244 : decode cX18_reduce 244 = .ok (.goto (-24), 3) := by decide +kernel
theorem dX18_reduce_247 : decode cX18_reduce 247 = .ok (.return_, 1) := by decide +kernel
theorem dX18_times_0 : decode cX18_times 0 = .ok (.iconst 0, 1) := by decide +kernel
theorem dX18_times_1 : decode cX18_times 1 = .ok (.istore 6, 2) := by decide +kernel
theorem dX18_times_3 : decode cX18_times 3 = .ok (.iload 6, 2) := by decide +kernel
theorem dX18_times_5 : decode cX18_times 5 = .ok (.bipush 32, 2) := by decide +kernel
theorem dX18_times_7 : decode cX18_times 7 = .ok (.if_icmp .ge 17, 3) := by decide +kernel
theorem dX18_times_10 : decode cX18_times 10 = .ok (.aload_n 0, 1) := by decide +kernel
theorem dX18_times_11 : decode cX18_times 11 = .ok (.getfield 7, 3) := by decide +kernel
theorem dX18_times_14 : decode cX18_times 14 = .ok (.iload 6, 2) := by decide +kernel
theorem dX18_times_16 : decode cX18_times 16 = .ok (.lconst 0, 1) := by decide +kernel
theorem dX18_times_17 : decode cX18_times 17 = .ok (.lastore, 1) := by decide +kernel
theorem dX18_times_18 : decode cX18_times 18 = .ok (.iinc 6 1, 3) := by decide +kernel
theorem dX18_times_21 : decode cX18_times 21 = .ok (.goto (-18), 3) := by decide +kernel
theorem dX18_times_24 : decode cX18_times 24 = .ok (.iconst 0, 1) := by decide +kernel
theorem dX18_times_25 : decode cX18_times 25 = .ok (.istore 6, 2) := by decide +kernel
theorem dX18_times_27 : decode cX18_times 27 = .ok (.iload 6, 2) := by decide +kernel
theorem dX18_times_29 : decode cX18_times 29 = .ok (.bipush 16, 2) := by decide +kernel
theorem dX18_times_31 : decode cX18_times 31 = .ok (.if_icmp .ge 88, 3) := by decide +kernel
theorem dX18_times_34 : decode cX18_times 34 = .ok (.lconst 0, 1) := by decide +kernel
theorem dX18_times_35 : decode cX18_times 35 = .ok (.lstore 7, 2) := by decide +kernel
theorem dX18_times_37 : decode cX18_times 37 = .ok (.iconst 0, 1) := by decide +kernel
theorem dX18_times_38 : decode cX18_times 38 = .ok (.istore 9, 2) := by decide +kernel
theorem dX18_times_40 : decode cX18_times 40 = .ok (.iload 9, 2) := by decide +kernel
theorem dX18_times_42 : decode cX18_times 42 = .ok (.bipush 16, 2) := by decide +kernel
theorem dX18_times_44 : decode cX18_times 44 = .ok (.if_icmp .ge 57, 3) := by decide +kernel
theorem dX18_times_47 : decode cX18_times 47 = .ok (.lload 7, 2) := by decide +kernel
theorem dX18_times_49 : decode cX18_times 49 = .ok (.aload_n 0, 1) := by decide +kernel
theorem dX18_times_50 : decode cX18_times 50 = .ok (.getfield 7, 3) := by decide +kernel
theorem dX18_times_53 : decode cX18_times 53 = .ok (.iload 6, 2) := by decide +kernel
theorem dX18_times_55 : decode cX18_times 55 = .ok (.iload 9, 2) := by decide +kernel
theorem dX18_times_57 : decode cX18_times 57 = .ok (.iadd, 1) := by decide +kernel
theorem dX18_times_58 : decode cX18_times 58 = .ok (.laload, 1) := by decide +kernel
theorem dX18_times_59 : decode cX18_times 59 = .ok (.aload_n 2, 1) := by decide +kernel
theorem dX18_times_60 : decode cX18_times 60 = .ok (.iload 6, 2) := by decide +kernel
theorem dX18_times_62 : decode cX18_times 62 = .ok (.laload, 1) := by decide +kernel
theorem dX18_times_63 : decode cX18_times 63 = .ok (.aload_n 3, 1) := by decide +kernel
theorem dX18_times_64 : decode cX18_times 64 = .ok (.iload 9, 2) := by decide +kernel
theorem dX18_times_66 : decode cX18_times 66 = .ok (.laload, 1) := by decide +kernel
theorem dX18_times_67 : decode cX18_times 67 = .ok (.lmul, 1) := by decide +kernel
theorem dX18_times_68 : decode cX18_times 68 = .ok (.ladd, 1) := by decide +kernel
theorem dX18_times_69 : decode cX18_times 69 = .ok (.ladd, 1) := by decide +kernel
theorem dX18_times_70 : decode cX18_times 70 = .ok (.lstore 7, 2) := by decide +kernel
theorem dX18_times_72 : decode cX18_times 72 = .ok (.aload_n 0, 1) := by decide +kernel
theorem dX18_times_73 : decode cX18_times 73 = .ok (.getfield 7, 3) := by decide +kernel
theorem dX18_times_76 : decode cX18_times 76 = .ok (.iload 6, 2) := by decide +kernel
theorem dX18_times_78 : decode cX18_times 78 = .ok (.iload 9, 2) := by decide +kernel
theorem dX18_times_80 : decode cX18_times 80 = .ok (.iadd, 1) := by decide +kernel
theorem dX18_times_81 : decode cX18_times 81 = .ok (.lload 7, 2) := by decide +kernel
theorem dX18_times_83 : decode cX18_times 83 = .ok (.ldc2_w 28, 3) := by decide +kernel
theorem dX18_times_86 : decode cX18_times 86 = .ok (.land, 1) := by decide +kernel
theorem dX18_times_87 : decode cX18_times 87 = .ok (.lastore, 1) := by decide +kernel
theorem dX18_times_88 : decode cX18_times 88 = .ok (.lload 7, 2) := by decide +kernel
theorem dX18_times_90 : decode cX18_times 90 = .ok (.bipush 16, 2) := by decide +kernel
theorem dX18_times_92 : decode cX18_times 92 = .ok (.lshr, 1) := by decide +kernel
theorem dX18_times_93 : decode cX18_times 93 = .ok (.lstore 7, 2) := by decide +kernel
theorem dX18_times_95 : decode cX18_times 95 = .ok (.iinc 9 1, 3) := by decide +kernel
theorem dX18_times_98 : decode cX18_times 98 = .ok (.goto (-58), 3) := by decide +kernel
theorem dX18_times_101 : decode cX18_times 101 = .ok (.aload_n 0, 1) := by decide +kernel
theorem dX18_times_102 : decode cX18_times 102 = .ok (.getfield 7, 3) := by decide +kernel
theorem dX18_times_105 : decode cX18_times 105 = .ok (.iload 6, 2) := by decide +kernel
theorem dX18_times_107 : decode cX18_times 107 = .ok (.bipush 16, 2) := by decide +kernel
theorem dX18_times_109 : decode cX18_times 109 = .ok (.iadd, 1) := by decide +kernel
theorem dX18_times_110 : decode cX18_times 110 = .ok (.lload 7, 2) := by decide +kernel
theorem dX18_times_112 : decode cX18_times 112 = .ok (.lastore, 1) := by decide +kernel
theorem dX18_times_113 : decode cX18_times 113 = .ok (.iinc 6 1, 3) := by decide +kernel
theorem dX18_times_116 : decode cX18_times 116 = .ok (.goto (-89), 3) := by decide +kernel
theorem dX18_times_119 : decode cX18_times 119 = .ok (.aload_n 0, 1) := by decide +kernel
theorem dX18_times_120 : decode cX18_times 120 = .ok (.aload_n 1, 1) := by decide +kernel
theorem dX18_times_121 : decode cX18_times 121 = .ok (.aload 4, 2) := by decide +kernel
theorem dX18_times_123 : decode cX18_times 123 = .ok (.aload 5, 2) := by decide +kernel
theorem dX18_times_125 : decode cX18_times 125 = .ok (.invokevirtual 46, 3) := by decide +kernel
theorem dX18_times_128 : decode cX18_times 128 = .ok (.return_, 1) := by decide +kernel
theorem dX18_half_0 : decode cX18_half 0 = .ok (.aload_n 0, 1) := by decide +kernel
theorem dX18_half_1 : decode cX18_half 1 = .ok (.iconst 0, 1) := by decide +kernel
theorem dX18_half_2 : decode cX18_half 2 = .ok (.laload, 1) := by decide +kernel
theorem dX18_half_3 : decode cX18_half 3 = .ok (.lconst 1, 1) := by decide +kernel
theorem dX18_half_4 : decode cX18_half 4 = .ok (.land, 1) := by decide +kernel
theorem dX18_half_5 : decode cX18_half 5 = .ok (.lconst 1, 1) := by decide +kernel
theorem dX18_half_6 : decode cX18_half 6 = .ok (.lcmp, 1) := by decide +kernel
theorem dX18_half_7 : decode cX18_half 7 = .ok (.ifCond .ne 55, 3) := by decide +kernel
theorem dX18_half_10 : decode cX18_half 10 = .ok (.lconst 0, 1) := by decide +kernel
theorem dX18_half_11 : decode cX18_half 11 = .ok (.lstore_n 2, 1) := by decide +kernel
theorem dX18_half_12 : decode cX18_half 12 = .ok (.iconst 0, 1) := by decide +kernel
theorem dX18_half_13 : decode cX18_half 13 = .ok (.istore 4, 2) := by decide +kernel
theorem dX18_half_15 : decode cX18_half 15 = .ok (.iload 4, 2) := by decide +kernel
theorem dX18_half_17 : decode cX18_half 17 = .ok (.bipush 16, 2) := by decide +kernel
theorem dX18_half_19 : decode cX18_half 19 = .ok (.if_icmp .ge 35, 3) := by decide +kernel
theorem dX18_half_22 : decode cX18_half 22 = .ok (.lload_n 2, 1) := by decide +kernel
theorem dX18_half_23 : decode cX18_half 23 = .ok (.aload_n 0, 1) := by decide +kernel
theorem dX18_half_24 : decode cX18_half 24 = .ok (.iload 4, 2) := by decide +kernel
theorem dX18_half_26 : decode cX18_half 26 = .ok (.laload, 1) := by decide +kernel
theorem dX18_half_27 : decode cX18_half 27 = .ok (.aload_n 1, 1) := by decide +kernel
theorem dX18_half_28 : decode cX18_half 28 = .ok (.iload 4, 2) := by decide +kernel
theorem dX18_half_30 : decode cX18_half 30 = .ok (.laload, 1) := by decide +kernel
theorem dX18_half_31 : decode cX18_half 31 = .ok (.ladd, 1) := by decide +kernel
theorem dX18_half_32 : decode cX18_half 32 = .ok (.ladd, 1) := by decide +kernel
theorem dX18_half_33 : decode cX18_half 33 = .ok (.lstore_n 2, 1) := by decide +kernel
theorem dX18_half_34 : decode cX18_half 34 = .ok (.aload_n 0, 1) := by decide +kernel
theorem dX18_half_35 : decode cX18_half 35 = .ok (.iload 4, 2) := by decide +kernel
theorem dX18_half_37 : decode cX18_half 37 = .ok (.lload_n 2, 1) := by decide +kernel
theorem dX18_half_38 : decode cX18_half 38 = .ok (.ldc2_w 28, 3) := by decide +kernel
theorem dX18_half_41 : decode cX18_half 41 = .ok (.land, 1) := by decide +kernel
theorem dX18_half_42 : decode cX18_half 42 = .ok (.lastore, 1) := by decide +kernel
theorem dX18_half_43 : decode cX18_half 43 = .ok (.lload_n 2, 1) := by decide +kernel
theorem dX18_half_44 : decode cX18_half 44 = .ok (.bipush 16, 2) := by decide +kernel
theorem dX18_half_46 : decode cX18_half 46 = .ok (.lshr, 1) := by decide +kernel
theorem dX18_half_47 : decode cX18_half 47 = .ok (.lstore_n 2, 1) := by decide +kernel
theorem dX18_half_48 : decode cX18_half 48 = .ok (.iinc 4 1, 3) := by decide +kernel
theorem dX18_half_51 : decode cX18_half 51 = .ok (.goto (-36), 3) := by decide +kernel
theorem dX18_half_54 : decode cX18_half 54 = .ok (.aload_n 0, 1) := by decide +kernel
theorem dX18_half_55 : decode cX18_half 55 = .ok (.bipush 16, 2) := by decide +kernel
theorem dX18_half_57 : decode cX18_half 57 = .ok (.dup2, 1) := by decide +kernel
theorem dX18_half_58 : decode cX18_half 58 = .ok (.laload, 1) := by decide +kernel
theorem dX18_half_59 : decode cX18_half 59 = .ok (.lload_n 2, 1) := by decide +kernel
theorem dX18_half_60 : decode cX18_half 60 = .ok (.ladd, 1) := by decide +kernel
theorem dX18_half_61 : decode cX18_half 61 = .ok (.lastore, 1) := by decide +kernel
theorem dX18_half_62 : decode cX18_half 62 = .ok (.iconst 0, 1) := by decide +kernel
theorem dX18_half_63 : decode cX18_half 63 = .ok (.istore_n 2, 1) := by decide +kernel
theorem dX18_half_64 : decode cX18_half 64 = .ok (.iload_n 2, 1) := by decide +kernel
theorem dX18_half_65 : decode cX18_half 65 = .ok (.bipush 16, 2) := by decide +kernel
theorem dX18_half_67 : decode cX18_half 67 = .ok (.if_icmp .ge 28, 3) := by decide +kernel
theorem dX18_half_70 : decode cX18_half 70 = .ok (.aload_n 0, 1) := by decide +kernel
theorem dX18_half_71 : decode cX18_half 71 = .ok (.iload_n 2, 1) := by decide +kernel
theorem dX18_half_72 : decode cX18_half 72 = .ok (.aload_n 0, 1) := by decide +kernel
theorem dX18_half_73 : decode cX18_half 73 = .ok (.iload_n 2, 1) := by decide +kernel
theorem dX18_half_74 : decode cX18_half 74 = .ok (.laload, 1) := by decide +kernel
theorem dX18_half_75 : decode cX18_half 75 = .ok (.iconst 1, 1) := by decide +kernel
theorem dX18_half_76 : decode cX18_half 76 = .ok (.lshr, 1) := by decide +kernel
theorem dX18_half_77 : decode cX18_half 77 = .ok (.aload_n 0, 1) := by decide +kernel
theorem dX18_half_78 : decode cX18_half 78 = .ok (.iload_n 2, 1) := by decide +kernel
theorem dX18_half_79 : decode cX18_half 79 = .ok (.iconst 1, 1) := by decide +kernel
theorem dX18_half_80 : decode cX18_half 80 = .ok (.iadd, 1) := by decide +kernel
theorem dX18_half_81 : decode cX18_half 81 = .ok (.laload, 1) := by decide +kernel
theorem dX18_half_82 : decode cX18_half 82 = .ok (.lconst 1, 1) := by decide +kernel
theorem dX18_half_83 : decode cX18_half 83 = .ok (.land, 1) := by decide +kernel
theorem dX18_half_84 : decode cX18_half 84 = .ok (.bipush 15, 2) := by decide +kernel
theorem dX18_half_86 : decode cX18_half 86 = .ok (.lshl, 1) := by decide +kernel
theorem dX18_half_87 : decode cX18_half 87 = .ok (.lor, 1) := by decide +kernel
theorem dX18_half_88 : decode cX18_half 88 = .ok (.lastore, 1) := by decide +kernel
theorem dX18_half_89 : decode cX18_half 89 = .ok (.iinc 2 1, 3) := by decide +kernel
theorem dX18_half_92 : decode cX18_half 92 = .ok (.goto (-28), 3) := by decide +kernel
theorem dX18_half_95 : decode cX18_half 95 = .ok (.aload_n 0, 1) := by decide +kernel
theorem dX18_half_96 : decode cX18_half 96 = .ok (.bipush 16, 2) := by decide +kernel
theorem dX18_half_98 : decode cX18_half 98 = .ok (.dup2, 1) := by decide +kernel
theorem dX18_half_99 : decode cX18_half 99 = .ok (.laload, 1) := by decide +kernel
theorem dX18_half_100 : decode cX18_half 100 = .ok (.iconst 1, 1) := by decide +kernel
theorem dX18_half_101 : decode cX18_half 101 = .ok (.lshr, 1) := by decide +kernel
theorem dX18_half_102 : decode cX18_half 102 = .ok (.lastore, 1) := by decide +kernel
theorem dX18_half_103 : decode cX18_half 103 = .ok (.return_, 1) := by decide +kernel
theorem dX18_halve_0 : decode cX18_halve 0 = .ok (.iconst 0, 1) := by decide +kernel
theorem dX18_halve_1 : decode cX18_halve 1 = .ok (.istore_n 1, 1) := by decide +kernel
theorem dX18_halve_2 : decode cX18_halve 2 = .ok (.iload_n 1, 1) := by decide +kernel
theorem dX18_halve_3 : decode cX18_halve 3 = .ok (.bipush 16, 2) := by decide +kernel
theorem dX18_halve_5 : decode cX18_halve 5 = .ok (.if_icmp .ge 38, 3) := by decide +kernel
theorem dX18_halve_8 : decode cX18_halve 8 = .ok (.aload_n 0, 1) := by decide +kernel
theorem dX18_halve_9 : decode cX18_halve 9 = .ok (.iload_n 1, 1) := by decide +kernel
theorem dX18_halve_10 : decode cX18_halve 10 = .ok (.aload_n 0, 1) := by decide +kernel
theorem dX18_halve_11 : decode cX18_halve 11 = .ok (.iload_n 1, 1) := by decide +kernel
theorem dX18_halve_12 : decode cX18_halve 12 = .ok (.laload, 1) := by decide +kernel
theorem dX18_halve_13 : decode cX18_halve 13 = .ok (.iconst 1, 1) := by decide +kernel
theorem dX18_halve_14 : decode cX18_halve 14 = .ok (.lshr, 1) := by decide +kernel
theorem dX18_halve_15 : decode cX18_halve 15 = .ok (.iload_n 1, 1) := by decide +kernel
theorem dX18_halve_16 : decode cX18_halve 16 = .ok (.bipush 15, 2) := by decide +kernel
theorem dX18_halve_18 : decode cX18_halve 18 = .ok (.if_icmp .ge 16, 3) := by decide +kernel
theorem dX18_halve_21 : decode cX18_halve 21 = .ok (.aload_n 0, 1) := by decide +kernel
theorem dX18_halve_22 : decode cX18_halve 22 = .ok (.iload_n 1, 1) := by decide +kernel
theorem dX18_halve_23 : decode cX18_halve 23 = .ok (.iconst 1, 1) := by decide +kernel
theorem dX18_halve_24 : decode cX18_halve 24 = .ok (.iadd, 1) := by decide +kernel
theorem dX18_halve_25 : decode cX18_halve 25 = .ok (.laload, 1) := by decide +kernel
theorem dX18_halve_26 : decode cX18_halve 26 = .ok (.lconst 1, 1) := by decide +kernel
theorem dX18_halve_27 : decode cX18_halve 27 = .ok (.land, 1) := by decide +kernel
theorem dX18_halve_28 : decode cX18_halve 28 = .ok (.bipush 15, 2) := by decide +kernel
theorem dX18_halve_30 : decode cX18_halve 30 = .ok (.lshl, 1) := by decide +kernel
theorem dX18_halve_31 : decode cX18_halve 31 = .ok (.goto 4, 3) := by decide +kernel
theorem dX18_halve_34 : decode cX18_halve 34 = .ok (.lconst 0, 1) := by decide +kernel
theorem dX18_halve_35 : decode cX18_halve 35 = .ok (.lor, 1) := by decide +kernel
theorem dX18_halve_36 : decode cX18_halve 36 = .ok (.lastore, 1) := by decide +kernel
theorem dX18_halve_37 : decode cX18_halve 37 = .ok (.iinc 1 1, 3) := by decide +kernel
theorem dX18_halve_40 : decode cX18_halve 40 = .ok (.goto (-38), 3) := by decide +kernel
theorem dX18_halve_43 : decode cX18_halve 43 = .ok (.return_, 1) := by decide +kernel
theorem dX18_one_0 : decode cX18_one 0 = .ok (.aload_n 0, 1) := by decide +kernel
theorem dX18_one_1 : decode cX18_one 1 = .ok (.iconst 0, 1) := by decide +kernel
theorem dX18_one_2 : decode cX18_one 2 = .ok (.laload, 1) := by decide +kernel
theorem dX18_one_3 : decode cX18_one 3 = .ok (.lconst 1, 1) := by decide +kernel
theorem dX18_one_4 : decode cX18_one 4 = .ok (.lcmp, 1) := by decide +kernel
theorem dX18_one_5 : decode cX18_one 5 = .ok (.ifCond .eq 5, 3) := by decide +kernel
theorem dX18_one_8 : decode cX18_one 8 = .ok (.iconst 0, 1) := by decide +kernel
theorem dX18_one_9 : decode cX18_one 9 = .ok (.ireturn, 1) := by decide +kernel
theorem dX18_one_10 : decode cX18_one 10 = .ok (.iconst 1, 1) := by decide +kernel
theorem dX18_one_11 : decode cX18_one 11 = .ok (.istore_n 1, 1) := by decide +kernel
theorem dX18_one_12 : decode cX18_one 12 = .ok (.iload_n 1, 1) := by decide +kernel
theorem dX18_one_13 : decode cX18_one 13 = .ok (.bipush 16, 2) := by decide +kernel
theorem dX18_one_15 : decode cX18_one 15 = .ok (.if_icmp .ge 19, 3) := by decide +kernel
theorem dX18_one_18 : decode cX18_one 18 = .ok (.aload_n 0, 1) := by decide +kernel
theorem dX18_one_19 : decode cX18_one 19 = .ok (.iload_n 1, 1) := by decide +kernel
theorem dX18_one_20 : decode cX18_one 20 = .ok (.laload, 1) := by decide +kernel
theorem dX18_one_21 : decode cX18_one 21 = .ok (.lconst 0, 1) := by decide +kernel
theorem dX18_one_22 : decode cX18_one 22 = .ok (.lcmp, 1) := by decide +kernel
theorem dX18_one_23 : decode cX18_one 23 = .ok (.ifCond .eq 5, 3) := by decide +kernel
theorem dX18_one_26 : decode cX18_one 26 = .ok (.iconst 0, 1) := by decide +kernel
theorem dX18_one_27 : decode cX18_one 27 = .ok (.ireturn, 1) := by decide +kernel
theorem dX18_one_28 : decode cX18_one 28 = .ok (.iinc 1 1, 3) := by decide +kernel
theorem dX18_one_31 : decode cX18_one 31 = .ok (.goto (-19), 3) := by decide +kernel
theorem dX18_one_34 : decode cX18_one 34 = .ok (.iconst 1, 1) := by decide +kernel
theorem dX18_one_35 : decode cX18_one 35 = .ok (.ireturn, 1) := by decide +kernel
theorem dX18_inverse_0 : decode cX18_inverse 0 = .ok (.aload_n 0, 1) := by decide +kernel
theorem dX18_inverse_1 : decode cX18_inverse 1 = .ok (.getfield 16, 3) := by decide +kernel
theorem dX18_inverse_4 : decode cX18_inverse 4 = .ok (.aload_n 2, 1) := by decide +kernel
theorem dX18_inverse_5 : decode cX18_inverse 5 = .ok (.invokestatic 49, 3) := by decide +kernel
theorem dX18_inverse_8 : decode cX18_inverse 8 = .ok (.aload_n 0, 1) := by decide +kernel
theorem dX18_inverse_9 : decode cX18_inverse 9 = .ok (.getfield 19, 3) := by decide +kernel
theorem dX18_inverse_12 : decode cX18_inverse 12 = .ok (.aload_n 3, 1) := by decide +kernel
theorem dX18_inverse_13 : decode cX18_inverse 13 = .ok (.invokestatic 49, 3) := by decide +kernel
theorem dX18_inverse_16 : decode cX18_inverse 16 = .ok (.aload_n 0, 1) := by decide +kernel
theorem dX18_inverse_17 : decode cX18_inverse 17 = .ok (.getfield 22, 3) := by decide +kernel
theorem dX18_inverse_20 : decode cX18_inverse 20 = .ok (.iconst 1, 1) := by decide +kernel
theorem dX18_inverse_21 : decode cX18_inverse 21 = .ok (.invokestatic 38, 3) := by decide +kernel
theorem dX18_inverse_24 : decode cX18_inverse 24 = .ok (.aload_n 0, 1) := by decide +kernel
theorem dX18_inverse_25 : decode cX18_inverse 25 = .ok (.getfield 25, 3) := by decide +kernel
theorem dX18_inverse_28 : decode cX18_inverse 28 = .ok (.iconst 0, 1) := by decide +kernel
theorem dX18_inverse_29 : decode cX18_inverse 29 = .ok (.invokestatic 38, 3) := by decide +kernel
theorem dX18_inverse_32 : decode cX18_inverse 32 = .ok (.aload_n 0, 1) := by decide +kernel
theorem dX18_inverse_33 : decode cX18_inverse 33 = .ok (.getfield 22, 3) := by decide +kernel
theorem dX18_inverse_36 : decode cX18_inverse 36 = .ok (.bipush 16, 2) := by decide +kernel
theorem dX18_inverse_38 : decode cX18_inverse 38 = .ok (.lconst 0, 1) := by decide +kernel
theorem dX18_inverse_39 : decode cX18_inverse 39 = .ok (.lastore, 1) := by decide +kernel
theorem dX18_inverse_40 : decode cX18_inverse 40 = .ok (.aload_n 0, 1) := by decide +kernel
theorem dX18_inverse_41 : decode cX18_inverse 41 = .ok (.getfield 25, 3) := by decide +kernel
theorem dX18_inverse_44 : decode cX18_inverse 44 = .ok (.bipush 16, 2) := by decide +kernel
theorem dX18_inverse_46 : decode cX18_inverse 46 = .ok (.lconst 0, 1) := by decide +kernel
theorem dX18_inverse_47 : decode cX18_inverse 47 = .ok (.lastore, 1) := by decide +kernel
theorem dX18_inverse_48 : decode cX18_inverse 48 = .ok (.iconst 0, 1) := by decide +kernel
theorem dX18_inverse_49 : decode cX18_inverse 49 = .ok (.istore 4, 2) := by decide +kernel
theorem dX18_inverse_51 : decode cX18_inverse 51 = .ok (.iload 4, 2) := by decide +kernel
theorem dX18_inverse_53 : decode cX18_inverse 53 = .ok (.sipush 1100, 3) := by decide +kernel
theorem dX18_inverse_56 : decode cX18_inverse 56 = .ok (.if_icmp .ge 177, 3) := by decide +kernel
theorem dX18_inverse_59 : decode cX18_inverse 59 = .ok (.aload_n 2, 1) := by decide +kernel
theorem dX18_inverse_60 : decode cX18_inverse 60 = .ok (.invokestatic 53, 3) := by decide +kernel
theorem dX18_inverse_63 : decode cX18_inverse 63 = .ok (.ifCond .ne 170, 3) := by decide +kernel
theorem dX18_inverse_66 : decode cX18_inverse 66 = .ok (.aload_n 0, 1) := by decide +kernel
theorem dX18_inverse_67 : decode cX18_inverse 67 = .ok (.getfield 16, 3) := by decide +kernel
theorem dX18_inverse_70 : decode cX18_inverse 70 = .ok (.invokestatic 57, 3) := by decide +kernel
theorem dX18_inverse_73 : decode cX18_inverse 73 = .ok (.ifCond .ne 160, 3) := by decide +kernel
theorem dX18_inverse_76 : decode cX18_inverse 76 = .ok (.aload_n 0, 1) := by decide +kernel
theorem dX18_inverse_77 : decode cX18_inverse 77 = .ok (.getfield 19, 3) := by decide +kernel
theorem dX18_inverse_80 : decode cX18_inverse 80 = .ok (.invokestatic 57, 3) := by decide +kernel
theorem dX18_inverse_83 : decode cX18_inverse 83 = .ok (.ifCond .ne 150, 3) := by decide +kernel
theorem dX18_inverse_86 : decode cX18_inverse 86 = .ok (.aload_n 0, 1) := by decide +kernel
theorem dX18_inverse_87 : decode cX18_inverse 87 = .ok (.getfield 16, 3) := by decide +kernel
theorem dX18_inverse_90 : decode cX18_inverse 90 = .ok (.iconst 0, 1) := by decide +kernel
theorem dX18_inverse_91 : decode cX18_inverse 91 = .ok (.laload, 1) := by decide +kernel
theorem dX18_inverse_92 : decode cX18_inverse 92 = .ok (.lconst 1, 1) := by decide +kernel
theorem dX18_inverse_93 : decode cX18_inverse 93 = .ok (.land, 1) := by decide +kernel
theorem dX18_inverse_94 : decode cX18_inverse 94 = .ok (.lconst 0, 1) := by decide +kernel
theorem dX18_inverse_95 : decode cX18_inverse 95 = .ok (.lcmp, 1) := by decide +kernel
theorem dX18_inverse_96 : decode cX18_inverse 96 = .ok (.ifCond .ne 21, 3) := by decide +kernel
theorem dX18_inverse_99 : decode cX18_inverse 99 = .ok (.aload_n 0, 1) := by decide +kernel
theorem dX18_inverse_100 : decode cX18_inverse 100 = .ok (.getfield 16, 3) := by decide +kernel
theorem dX18_inverse_103 : decode cX18_inverse 103 = .ok (.invokestatic 60, 3) := by decide +kernel
theorem dX18_inverse_106 : decode cX18_inverse 106 = .ok (.aload_n 0, 1) := by decide +kernel
theorem dX18_inverse_107 : decode cX18_inverse 107 = .ok (.getfield 22, 3) := by decide +kernel
theorem dX18_inverse_110 : decode cX18_inverse 110 = .ok (.aload_n 3, 1) := by decide +kernel
theorem dX18_inverse_111 : decode cX18_inverse 111 = .ok (.invokestatic 64, 3) := by decide +kernel
theorem dX18_inverse_114 : decode cX18_inverse 114 = .ok (.goto 113, 3) := by decide +kernel
theorem dX18_inverse_117 : decode cX18_inverse 117 = .ok (.aload_n 0, 1) := by decide +kernel
theorem dX18_inverse_118 : decode cX18_inverse 118 = .ok (.getfield 19, 3) := by decide +kernel
theorem dX18_inverse_121 : decode cX18_inverse 121 = .ok (.iconst 0, 1) := by decide +kernel
theorem dX18_inverse_122 : decode cX18_inverse 122 = .ok (.laload, 1) := by decide +kernel
theorem dX18_inverse_123 : decode cX18_inverse 123 = .ok (.lconst 1, 1) := by decide +kernel
theorem dX18_inverse_124 : decode cX18_inverse 124 = .ok (.land, 1) := by decide +kernel
theorem dX18_inverse_125 : decode cX18_inverse 125 = .ok (.lconst 0, 1) := by decide +kernel
theorem dX18_inverse_126 : decode cX18_inverse 126 = .ok (.lcmp, 1) := by decide +kernel
theorem dX18_inverse_127 : decode cX18_inverse 127 = .ok (.ifCond .ne 21, 3) := by decide +kernel
theorem dX18_inverse_130 : decode cX18_inverse 130 = .ok (.aload_n 0, 1) := by decide +kernel
theorem dX18_inverse_131 : decode cX18_inverse 131 = .ok (.getfield 19, 3) := by decide +kernel
theorem dX18_inverse_134 : decode cX18_inverse 134 = .ok (.invokestatic 60, 3) := by decide +kernel
theorem dX18_inverse_137 : decode cX18_inverse 137 = .ok (.aload_n 0, 1) := by decide +kernel
theorem dX18_inverse_138 : decode cX18_inverse 138 = .ok (.getfield 25, 3) := by decide +kernel
theorem dX18_inverse_141 : decode cX18_inverse 141 = .ok (.aload_n 3, 1) := by decide +kernel
theorem dX18_inverse_142 : decode cX18_inverse 142 = .ok (.invokestatic 64, 3) := by decide +kernel
theorem dX18_inverse_145 : decode cX18_inverse 145 = .ok (.goto 82, 3) := by decide +kernel
theorem dX18_inverse_148 : decode cX18_inverse 148 = .ok (.aload_n 0, 1) := by decide +kernel
theorem dX18_inverse_149 : decode cX18_inverse 149 = .ok (.getfield 16, 3) := by decide +kernel
theorem dX18_inverse_152 : decode cX18_inverse 152 = .ok (.aload_n 0, 1) := by decide +kernel
theorem dX18_inverse_153 : decode cX18_inverse 153 = .ok (.getfield 19, 3) := by decide +kernel
theorem dX18_inverse_156 : decode cX18_inverse 156 = .ok (.invokestatic 30, 3) := by decide +kernel
theorem dX18_inverse_159 : decode cX18_inverse 159 = .ok (.ifCond .eq 37, 3) := by decide +kernel
theorem dX18_inverse_162 : decode cX18_inverse 162 = .ok (.aload_n 0, 1) := by decide +kernel
theorem dX18_inverse_163 : decode cX18_inverse 163 = .ok (.getfield 19, 3) := by decide +kernel
theorem dX18_inverse_166 : decode cX18_inverse 166 = .ok (.aload_n 0, 1) := by decide +kernel
theorem dX18_inverse_167 : decode cX18_inverse 167 = .ok (.getfield 19, 3) := by decide +kernel
theorem dX18_inverse_170 : decode cX18_inverse 170 = .ok (.aload_n 0, 1) := by decide +kernel
theorem dX18_inverse_171 : decode cX18_inverse 171 = .ok (.getfield 16, 3) := by decide +kernel
theorem dX18_inverse_174 : decode cX18_inverse 174 = .ok (.invokestatic 34, 3) := by decide +kernel
theorem dX18_inverse_177 : decode cX18_inverse 177 = .ok (.aload_n 0, 1) := by decide +kernel
theorem dX18_inverse_178 : decode cX18_inverse 178 = .ok (.getfield 25, 3) := by decide +kernel
theorem dX18_inverse_181 : decode cX18_inverse 181 = .ok (.aload_n 0, 1) := by decide +kernel
theorem dX18_inverse_182 : decode cX18_inverse 182 = .ok (.getfield 25, 3) := by decide +kernel
theorem dX18_inverse_185 : decode cX18_inverse 185 = .ok (.aload_n 0, 1) := by decide +kernel
theorem dX18_inverse_186 : decode cX18_inverse 186 = .ok (.getfield 22, 3) := by decide +kernel
theorem dX18_inverse_189 : decode cX18_inverse 189 = .ok (.aload_n 3, 1) := by decide +kernel
theorem dX18_inverse_190 : decode cX18_inverse 190 = .ok (.invokestatic 67, 3) := by decide +kernel
theorem dX18_inverse_193 : decode cX18_inverse 193 = .ok (.goto 34, 3) := by decide +kernel
theorem dX18_inverse_196 : decode cX18_inverse 196 = .ok (.aload_n 0, 1) := by decide +kernel
theorem dX18_inverse_197 : decode cX18_inverse 197 = .ok (.getfield 16, 3) := by decide +kernel
theorem dX18_inverse_200 : decode cX18_inverse 200 = .ok (.aload_n 0, 1) := by decide +kernel
theorem dX18_inverse_201 : decode cX18_inverse 201 = .ok (.getfield 16, 3) := by decide +kernel
theorem dX18_inverse_204 : decode cX18_inverse 204 = .ok (.aload_n 0, 1) := by decide +kernel
theorem dX18_inverse_205 : decode cX18_inverse 205 = .ok (.getfield 19, 3) := by decide +kernel
theorem dX18_inverse_208 : decode cX18_inverse 208 = .ok (.invokestatic 34, 3) := by decide +kernel
theorem dX18_inverse_211 : decode cX18_inverse 211 = .ok (.aload_n 0, 1) := by decide +kernel
theorem dX18_inverse_212 : decode cX18_inverse 212 = .ok (.getfield 22, 3) := by decide +kernel
theorem dX18_inverse_215 : decode cX18_inverse 215 = .ok (.aload_n 0, 1) := by decide +kernel
theorem dX18_inverse_216 : decode cX18_inverse 216 = .ok (.getfield 22, 3) := by decide +kernel
theorem dX18_inverse_219 : decode cX18_inverse 219 = .ok (.aload_n 0, 1) := by decide +kernel
theorem dX18_inverse_220 : decode cX18_inverse 220 = .ok (.getfield 25, 3) := by decide +kernel
theorem dX18_inverse_223 : decode cX18_inverse 223 = .ok (.aload_n 3, 1) := by decide +kernel
theorem dX18_inverse_224 : decode cX18_inverse 224 = .ok (.invokestatic 67, 3) := by decide +kernel
theorem dX18_inverse_227 : decode cX18_inverse 227 = .ok (.iinc 4 1, 3) := by decide +kernel
theorem dX18_inverse_230 : decode cX18_inverse 230 = .ok (.goto (-179), 3) := by decide +kernel
theorem dX18_inverse_233 : decode cX18_inverse 233 = .ok (.aload_n 2, 1) := by decide +kernel
theorem dX18_inverse_234 : decode cX18_inverse 234 = .ok (.invokestatic 53, 3) := by decide +kernel
theorem dX18_inverse_237 : decode cX18_inverse 237 = .ok (.ifCond .eq 11, 3) := by decide +kernel
theorem dX18_inverse_240 : decode cX18_inverse 240 = .ok (.aload_n 1, 1) := by decide +kernel
theorem dX18_inverse_241 : decode cX18_inverse 241 = .ok (.iconst 0, 1) := by decide +kernel
theorem dX18_inverse_242 : decode cX18_inverse 242 = .ok (.invokestatic 38, 3) := by decide +kernel
theorem dX18_inverse_245 : decode cX18_inverse 245 = .ok (.goto 28, 3) := by decide +kernel
theorem dX18_inverse_248 : decode cX18_inverse 248 = .ok (.aload_n 1, 1) := by decide +kernel
theorem dX18_inverse_249 : decode cX18_inverse 249 = .ok (.aload_n 0, 1) := by decide +kernel
theorem dX18_inverse_250 : decode cX18_inverse 250 = .ok (.getfield 16, 3) := by decide +kernel
theorem dX18_inverse_253 : decode cX18_inverse 253 = .ok (.invokestatic 57, 3) := by decide +kernel
theorem dX18_inverse_256 : decode cX18_inverse 256 = .ok (.ifCond .eq 10, 3) := by decide +kernel
theorem dX18_inverse_259 : decode cX18_inverse 259 = .ok (.aload_n 0, 1) := by decide +kernel
theorem dX18_inverse_260 : decode cX18_inverse 260 = .ok (.getfield 22, 3) := by decide +kernel
theorem dX18_inverse_263 : decode cX18_inverse 263 = .ok (.goto 7, 3) := by decide +kernel
theorem dX18_inverse_266 : decode cX18_inverse 266 = .ok (.aload_n 0, 1) := by decide +kernel
theorem dX18_inverse_267 : decode cX18_inverse 267 = .ok (.getfield 25, 3) := by decide +kernel
theorem dX18_inverse_270 : decode cX18_inverse 270 = .ok (.invokestatic 49, 3) := by decide +kernel
theorem dX18_inverse_273 : decode cX18_inverse 273 = .ok (.return_, 1) := by decide +kernel
theorem dX18_bit_0 : decode cX18_bit 0 = .ok (.aload_n 0, 1) := by decide +kernel
theorem dX18_bit_1 : decode cX18_bit 1 = .ok (.iload_n 1, 1) := by decide +kernel
theorem dX18_bit_2 : decode cX18_bit 2 = .ok (.iconst 4, 1) := by decide +kernel
theorem dX18_bit_3 : decode cX18_bit 3 = .ok (.ishr, 1) := by decide +kernel
theorem dX18_bit_4 : decode cX18_bit 4 = .ok (.laload, 1) := by decide +kernel
theorem dX18_bit_5 : decode cX18_bit 5 = .ok (.iload_n 1, 1) := by decide +kernel
theorem dX18_bit_6 : decode cX18_bit 6 = .ok (.bipush 15, 2) := by decide +kernel
theorem dX18_bit_8 : decode cX18_bit 8 = .ok (.iand, 1) := by decide +kernel
theorem dX18_bit_9 : decode cX18_bit 9 = .ok (.lshr, 1) := by decide +kernel
theorem dX18_bit_10 : decode cX18_bit 10 = .ok (.lconst 1, 1) := by decide +kernel
theorem dX18_bit_11 : decode cX18_bit 11 = .ok (.land, 1) := by decide +kernel
theorem dX18_bit_12 : decode cX18_bit 12 = .ok (.l2i, 1) := by decide +kernel
theorem dX18_bit_13 : decode cX18_bit 13 = .ok (.ireturn, 1) := by decide +kernel
theorem dX19_init_0 : decode cX19_init 0 = .ok (.aload_n 0, 1) := by decide +kernel
theorem dX19_init_1 : decode cX19_init 1 = .ok (.invokespecial 1, 3) := by decide +kernel
theorem dX19_init_4 : decode cX19_init 4 = .ok (.aload_n 0, 1) := by decide +kernel
theorem dX19_init_5 : decode cX19_init 5 = .ok (.bipush 64, 2) := by decide +kernel
theorem dX19_init_7 : decode cX19_init 7 = .ok (.newarray .byte, 2) := by decide +kernel
theorem dX19_init_9 : decode cX19_init 9 = .ok (.putfield 7, 3) := by decide +kernel
theorem dX19_init_12 : decode cX19_init 12 = .ok (.return_, 1) := by decide +kernel
theorem dX19_init__0 : decode cX19_init_ 0 = .ok (.aload_n 0, 1) := by decide +kernel
theorem dX19_init__1 : decode cX19_init_ 1 = .ok (.invokespecial 1, 3) := by decide +kernel
theorem dX19_init__4 : decode cX19_init_ 4 = .ok (.aload_n 0, 1) := by decide +kernel
theorem dX19_init__5 : decode cX19_init_ 5 = .ok (.iload_n 1, 1) := by decide +kernel
theorem dX19_init__6 : decode cX19_init_ 6 = .ok (.newarray .byte, 2) := by decide +kernel
theorem dX19_init__8 : decode cX19_init_ 8 = .ok (.putfield 7, 3) := by decide +kernel
theorem dX19_init__11 : decode cX19_init_ 11 = .ok (.return_, 1) := by decide +kernel
theorem dX19_size_0 : decode cX19_size 0 = .ok (.aload_n 0, 1) := by decide +kernel
theorem dX19_size_1 : decode cX19_size 1 = .ok (.getfield 13, 3) := by decide +kernel
theorem dX19_size_4 : decode cX19_size 4 = .ok (.aload_n 0, 1) := by decide +kernel
theorem dX19_size_5 : decode cX19_size 5 = .ok (.getfield 17, 3) := by decide +kernel
theorem dX19_size_8 : decode cX19_size 8 = .ok (.isub, 1) := by decide +kernel
theorem dX19_size_9 : decode cX19_size 9 = .ok (.ireturn, 1) := by decide +kernel
theorem dX20_init_0 : decode cX20_init 0 = .ok (.aload_n 0, 1) := by decide +kernel
theorem dX20_init_1 : decode cX20_init 1 = .ok (.invokespecial 1, 3) := by decide +kernel
theorem dX20_init_4 : decode cX20_init 4 = .ok (.aload_n 0, 1) := by decide +kernel
theorem dX20_init_5 : decode cX20_init 5 = .ok (.iconst (-1), 1) := by decide +kernel
theorem dX20_init_6 : decode cX20_init 6 = .ok (.putfield 7, 3) := by decide +kernel
theorem dX20_init_9 : decode cX20_init 9 = .ok (.aload_n 0, 1) := by decide +kernel
theorem dX20_init_10 : decode cX20_init 10 = .ok (.new 13, 3) := by decide +kernel
theorem dX20_init_13 : decode cX20_init 13 = .ok (.dup, 1) := by decide +kernel
theorem dX20_init_14 : decode cX20_init 14 = .ok (.invokespecial 15, 3) := by decide +kernel
theorem dX20_init_17 : decode cX20_init 17 = .ok (.putfield 16, 3) := by decide +kernel
theorem dX20_init_20 : decode cX20_init 20 = .ok (.aload_n 0, 1) := by decide +kernel
theorem dX20_init_21 : decode cX20_init 21 = .ok (.new 13, 3) := by decide +kernel
theorem dX20_init_24 : decode cX20_init 24 = .ok (.dup, 1) := by decide +kernel
theorem dX20_init_25 : decode cX20_init 25 = .ok (.invokespecial 15, 3) := by decide +kernel
theorem dX20_init_28 : decode cX20_init 28 = .ok (.putfield 20, 3) := by decide +kernel
theorem dX20_init_31 : decode cX20_init 31 = .ok (.aload_n 0, 1) := by decide +kernel
theorem dX20_init_32 : decode cX20_init 32 = .ok (.new 13, 3) := by decide +kernel
theorem dX20_init_35 : decode cX20_init 35 = .ok (.dup, 1) := by decide +kernel
theorem dX20_init_36 : decode cX20_init 36 = .ok (.invokespecial 15, 3) := by decide +kernel
theorem dX20_init_39 : decode cX20_init 39 = .ok (.putfield 23, 3) := by decide +kernel
theorem dX20_init_42 : decode cX20_init 42 = .ok (.aload_n 0, 1) := by decide +kernel
theorem dX20_init_43 : decode cX20_init 43 = .ok (.new 13, 3) := by decide +kernel
theorem dX20_init_46 : decode cX20_init 46 = .ok (.dup, 1) := by decide +kernel
theorem dX20_init_47 : decode cX20_init 47 = .ok (.invokespecial 15, 3) := by decide +kernel
theorem dX20_init_50 : decode cX20_init 50 = .ok (.putfield 26, 3) := by decide +kernel
theorem dX20_init_53 : decode cX20_init 53 = .ok (.aload_n 0, 1) := by decide +kernel
theorem dX20_init_54 : decode cX20_init 54 = .ok (.iconst (-1), 1) := by decide +kernel
theorem dX20_init_55 : decode cX20_init 55 = .ok (.putfield 29, 3) := by decide +kernel
theorem dX20_init_58 : decode cX20_init 58 = .ok (.aload_n 0, 1) := by decide +kernel
theorem dX20_init_59 : decode cX20_init 59 = .ok (.getstatic 32, 3) := by decide +kernel
theorem dX20_init_62 : decode cX20_init 62 = .ok (.putfield 38, 3) := by decide +kernel
theorem dX20_init_65 : decode cX20_init 65 = .ok (.aload_n 0, 1) := by decide +kernel
theorem dX20_init_66 : decode cX20_init 66 = .ok (.new 13, 3) := by decide +kernel
theorem dX20_init_69 : decode cX20_init 69 = .ok (.dup, 1) := by decide +kernel
theorem dX20_init_70 : decode cX20_init 70 = .ok (.invokespecial 15, 3) := by decide +kernel
theorem dX20_init_73 : decode cX20_init 73 = .ok (.putfield 41, 3) := by decide +kernel
theorem dX20_init_76 : decode cX20_init 76 = .ok (.return_, 1) := by decide +kernel
theorem dX21_init_0 : decode cX21_init 0 = .ok (.aload_n 0, 1) := by decide +kernel
theorem dX21_init_1 : decode cX21_init 1 = .ok (.invokespecial 1, 3) := by decide +kernel
theorem dX21_init_4 : decode cX21_init 4 = .ok (.aload_n 0, 1) := by decide +kernel
theorem dX21_init_5 : decode cX21_init 5 = .ok (.ldc 7, 2) := by decide +kernel
theorem dX21_init_7 : decode cX21_init 7 = .ok (.newarray .byte, 2) := by decide +kernel
theorem dX21_init_9 : decode cX21_init 9 = .ok (.putfield 8, 3) := by decide +kernel
theorem dX21_init_12 : decode cX21_init 12 = .ok (.aload_n 0, 1) := by decide +kernel
theorem dX21_init_13 : decode cX21_init 13 = .ok (.new 14, 3) := by decide +kernel
theorem dX21_init_16 : decode cX21_init 16 = .ok (.dup, 1) := by decide +kernel
theorem dX21_init_17 : decode cX21_init 17 = .ok (.invokespecial 16, 3) := by decide +kernel
theorem dX21_init_20 : decode cX21_init 20 = .ok (.putfield 17, 3) := by decide +kernel
theorem dX21_init_23 : decode cX21_init 23 = .ok (.aload_n 0, 1) := by decide +kernel
theorem dX21_init_24 : decode cX21_init 24 = .ok (.new 21, 3) := by decide +kernel
theorem dX21_init_27 : decode cX21_init 27 = .ok (.dup, 1) := by decide +kernel
theorem dX21_init_28 : decode cX21_init 28 = .ok (.aload_n 0, 1) := by decide +kernel
theorem dX21_init_29 : decode cX21_init 29 = .ok (.getfield 17, 3) := by decide +kernel
theorem dX21_init_32 : decode cX21_init 32 = .ok (.invokespecial 23, 3) := by decide +kernel
theorem dX21_init_35 : decode cX21_init 35 = .ok (.putfield 26, 3) := by decide +kernel
theorem dX21_init_38 : decode cX21_init 38 = .ok (.aload_n 0, 1) := by decide +kernel
theorem dX21_init_39 : decode cX21_init 39 = .ok (.invokestatic 30, 3) := by decide +kernel
theorem dX21_init_42 : decode cX21_init 42 = .ok (.putfield 36, 3) := by decide +kernel
theorem dX21_init_45 : decode cX21_init 45 = .ok (.aload_n 0, 1) := by decide +kernel
theorem dX21_init_46 : decode cX21_init 46 = .ok (.iconst 2, 1) := by decide +kernel
theorem dX21_init_47 : decode cX21_init 47 = .ok (.anewarray 40, 3) := by decide +kernel
theorem dX21_init_50 : decode cX21_init 50 = .ok (.dup, 1) := by decide +kernel
theorem dX21_init_51 : decode cX21_init 51 = .ok (.iconst 0, 1) := by decide +kernel
theorem dX21_init_52 : decode cX21_init 52 = .ok (.new 40, 3) := by decide +kernel
theorem dX21_init_55 : decode cX21_init 55 = .ok (.dup, 1) := by decide +kernel
theorem dX21_init_56 : decode cX21_init 56 = .ok (.iconst 0, 1) := by decide +kernel
theorem dX21_init_57 : decode cX21_init 57 = .ok (.aload_n 0, 1) := by decide +kernel
theorem dX21_init_58 : decode cX21_init 58 = .ok (.getfield 36, 3) := by decide +kernel
theorem dX21_init_61 : decode cX21_init 61 = .ok (.invokespecial 42, 3) := by decide +kernel
theorem dX21_init_64 : decode cX21_init 64 = .ok (.aastore, 1) := by decide +kernel
theorem dX21_init_65 : decode cX21_init 65 = .ok (.dup, 1) := by decide +kernel
theorem dX21_init_66 : decode cX21_init 66 = .ok (.iconst 1, 1) := by decide +kernel
theorem dX21_init_67 : decode cX21_init 67 = .ok (.new 40, 3) := by decide +kernel
theorem dX21_init_70 : decode cX21_init 70 = .ok (.dup, 1) := by decide +kernel
theorem dX21_init_71 : decode cX21_init 71 = .ok (.iconst 1, 1) := by decide +kernel
theorem dX21_init_72 : decode cX21_init 72 = .ok (.aload_n 0, 1) := by decide +kernel
theorem dX21_init_73 : decode cX21_init 73 = .ok (.getfield 36, 3) := by decide +kernel
theorem dX21_init_76 : decode cX21_init 76 = .ok (.invokespecial 42, 3) := by decide +kernel
theorem dX21_init_79 : decode cX21_init 79 = .ok (.aastore, 1) := by decide +kernel
theorem dX21_init_80 : decode cX21_init 80 = .ok (.putfield 45, 3) := by decide +kernel
theorem dX21_init_83 : decode cX21_init 83 = .ok (.aload_n 0, 1) := by decide +kernel
theorem dX21_init_84 : decode cX21_init 84 = .ok (.iconst 2, 1) := by decide +kernel
theorem dX21_init_85 : decode cX21_init 85 = .ok (.anewarray 49, 3) := by decide +kernel
theorem dX21_init_88 : decode cX21_init 88 = .ok (.dup, 1) := by decide +kernel
theorem dX21_init_89 : decode cX21_init 89 = .ok (.iconst 0, 1) := by decide +kernel
theorem dX21_init_90 : decode cX21_init 90 = .ok (.new 49, 3) := by decide +kernel
theorem dX21_init_93 : decode cX21_init 93 = .ok (.dup, 1) := by decide +kernel
theorem dX21_init_94 : decode cX21_init 94 = .ok (.ldc 51, 2) := by decide +kernel
theorem dX21_init_96 : decode cX21_init 96 = .ok (.invokespecial 52, 3) := by decide +kernel
theorem dX21_init_99 : decode cX21_init 99 = .ok (.aastore, 1) := by decide +kernel
theorem dX21_init_100 : decode cX21_init 100 = .ok (.dup, 1) := by decide +kernel
theorem dX21_init_101 : decode cX21_init 101 = .ok (.iconst 1, 1) := by decide +kernel
theorem dX21_init_102 : decode cX21_init 102 = .ok (.new 49, 3) := by decide +kernel
theorem dX21_init_105 : decode cX21_init 105 = .ok (.dup, 1) := by decide +kernel
theorem dX21_init_106 : decode cX21_init 106 = .ok (.ldc 51, 2) := by decide +kernel
theorem dX21_init_108 : decode cX21_init 108 = .ok (.invokespecial 52, 3) := by decide +kernel
theorem dX21_init_111 : decode cX21_init 111 = .ok (.aastore, 1) := by decide +kernel
theorem dX21_init_112 : decode cX21_init 112 = .ok (.putfield 55, 3) := by decide +kernel
theorem dX21_init_115 : decode cX21_init 115 = .ok (.aload_n 0, 1) := by decide +kernel
theorem dX21_init_116 : decode cX21_init 116 = .ok (.getstatic 59, 3) := by decide +kernel
theorem dX21_init_119 : decode cX21_init 119 = .ok (.putfield 62, 3) := by decide +kernel
theorem dX21_init_122 : decode cX21_init 122 = .ok (.aload_n 0, 1) := by decide +kernel
theorem dX21_init_123 : decode cX21_init 123 = .ok (.getstatic 59, 3) := by decide +kernel
theorem dX21_init_126 : decode cX21_init 126 = .ok (.putfield 65, 3) := by decide +kernel
theorem dX21_init_129 : decode cX21_init 129 = .ok (.aload_n 0, 1) := by decide +kernel
theorem dX21_init_130 : decode cX21_init 130 = .ok (.bipush 8, 2) := by decide +kernel
theorem dX21_init_132 : decode cX21_init 132 = .ok (.anewarray 68, 3) := by decide +kernel
theorem dX21_init_135 : decode cX21_init 135 = .ok (.putfield 69, 3) := by decide +kernel
theorem dX21_init_138 : decode cX21_init 138 = .ok (.aload_n 0, 1) := by decide +kernel
theorem dX21_init_139 : decode cX21_init 139 = .ok (.bipush 8, 2) := by decide +kernel
theorem dX21_init_141 : decode cX21_init 141 = .ok (.anewarray 68, 3) := by decide +kernel
theorem dX21_init_144 : decode cX21_init 144 = .ok (.putfield 73, 3) := by decide +kernel
theorem dX21_init_147 : decode cX21_init 147 = .ok (.aload_n 0, 1) := by decide +kernel
theorem dX21_init_148 : decode cX21_init 148 = .ok (.bipush 8, 2) := by decide +kernel
theorem dX21_init_150 : decode cX21_init 150 = .ok (.anewarray 68, 3) := by decide +kernel
theorem dX21_init_153 : decode cX21_init 153 = .ok (.putfield 76, 3) := by decide +kernel
theorem dX21_init_156 : decode cX21_init 156 = .ok (.aload_n 0, 1) := by decide +kernel
theorem dX21_init_157 : decode cX21_init 157 = .ok (.ldc 7, 2) := by decide +kernel
theorem dX21_init_159 : decode cX21_init 159 = .ok (.newarray .boolean, 2) := by decide +kernel
theorem dX21_init_161 : decode cX21_init 161 = .ok (.putfield 79, 3) := by decide +kernel
theorem dX21_init_164 : decode cX21_init 164 = .ok (.aload_n 0, 1) := by decide +kernel
theorem dX21_init_165 : decode cX21_init 165 = .ok (.bipush 64, 2) := by decide +kernel
theorem dX21_init_167 : decode cX21_init 167 = .ok (.anewarray 68, 3) := by decide +kernel
theorem dX21_init_170 : decode cX21_init 170 = .ok (.putfield 83, 3) := by decide +kernel
theorem dX21_init_173 : decode cX21_init 173 = .ok (.aload_n 0, 1) := by decide +kernel
theorem dX21_init_174 : decode cX21_init 174 = .ok (.bipush 64, 2) := by decide +kernel
theorem dX21_init_176 : decode cX21_init 176 = .ok (.anewarray 68, 3) := by decide +kernel
theorem dX21_init_179 : decode cX21_init 179 = .ok (.putfield 86, 3) := by decide +kernel
theorem dX21_init_182 : decode cX21_init 182 = .ok (.aload_n 0, 1) := by decide +kernel
theorem dX21_init_183 : decode cX21_init 183 = .ok (.new 89, 3) := by decide +kernel
theorem dX21_init_186 : decode cX21_init 186 = .ok (.dup, 1) := by decide +kernel
theorem dX21_init_187 : decode cX21_init 187 = .ok (.invokespecial 91, 3) := by decide +kernel
theorem dX21_init_190 : decode cX21_init 190 = .ok (.putfield 92, 3) := by decide +kernel
theorem dX21_init_193 : decode cX21_init 193 = .ok (.aload_n 0, 1) := by decide +kernel
theorem dX21_init_194 : decode cX21_init 194 = .ok (.new 89, 3) := by decide +kernel
theorem dX21_init_197 : decode cX21_init 197 = .ok (.dup, 1) := by decide +kernel
theorem dX21_init_198 : decode cX21_init 198 = .ok (.invokespecial 91, 3) := by decide +kernel
theorem dX21_init_201 : decode cX21_init 201 = .ok (.putfield 96, 3) := by decide +kernel
theorem dX21_init_204 : decode cX21_init 204 = .ok (.aload_n 0, 1) := by decide +kernel
theorem dX21_init_205 : decode cX21_init 205 = .ok (.new 89, 3) := by decide +kernel
theorem dX21_init_208 : decode cX21_init 208 = .ok (.dup, 1) := by decide +kernel
theorem dX21_init_209 : decode cX21_init 209 = .ok (.invokespecial 91, 3) := by decide +kernel
theorem dX21_init_212 : decode cX21_init 212 = .ok (.putfield 99, 3) := by decide +kernel
theorem dX21_init_215 : decode cX21_init 215 = .ok (.aload_n 0, 1) := by decide +kernel
theorem dX21_init_216 : decode cX21_init 216 = .ok (.new 89, 3) := by decide +kernel
theorem dX21_init_219 : decode cX21_init 219 = .ok (.dup, 1) := by decide +kernel
theorem dX21_init_220 : decode cX21_init 220 = .ok (.invokespecial 91, 3) := by decide +kernel
theorem dX21_init_223 : decode cX21_init 223 = .ok (.putfield 102, 3) := by decide +kernel
theorem dX21_init_226 : decode cX21_init 226 = .ok (.aload_n 0, 1) := by decide +kernel
theorem dX21_init_227 : decode cX21_init 227 = .ok (.new 89, 3) := by decide +kernel
theorem dX21_init_230 : decode cX21_init 230 = .ok (.dup, 1) := by decide +kernel
theorem dX21_init_231 : decode cX21_init 231 = .ok (.invokespecial 91, 3) := by decide +kernel
theorem dX21_init_234 : decode cX21_init 234 = .ok (.putfield 105, 3) := by decide +kernel
theorem dX21_init_237 : decode cX21_init 237 = .ok (.aload_n 0, 1) := by decide +kernel
theorem dX21_init_238 : decode cX21_init 238 = .ok (.new 49, 3) := by decide +kernel
theorem dX21_init_241 : decode cX21_init 241 = .ok (.dup, 1) := by decide +kernel
theorem dX21_init_242 : decode cX21_init 242 = .ok (.invokespecial 108, 3) := by decide +kernel
theorem dX21_init_245 : decode cX21_init 245 = .ok (.putfield 109, 3) := by decide +kernel
theorem dX21_init_248 : decode cX21_init 248 = .ok (.aload_n 0, 1) := by decide +kernel
theorem dX21_init_249 : decode cX21_init 249 = .ok (.new 49, 3) := by decide +kernel
theorem dX21_init_252 : decode cX21_init 252 = .ok (.dup, 1) := by decide +kernel
theorem dX21_init_253 : decode cX21_init 253 = .ok (.invokespecial 108, 3) := by decide +kernel
theorem dX21_init_256 : decode cX21_init 256 = .ok (.putfield 113, 3) := by decide +kernel
theorem dX21_init_259 : decode cX21_init 259 = .ok (.aload_n 0, 1) := by decide +kernel
theorem dX21_init_260 : decode cX21_init 260 = .ok (.new 49, 3) := by decide +kernel
theorem dX21_init_263 : decode cX21_init 263 = .ok (.dup, 1) := by decide +kernel
theorem dX21_init_264 : decode cX21_init 264 = .ok (.invokespecial 108, 3) := by decide +kernel
theorem dX21_init_267 : decode cX21_init 267 = .ok (.putfield 116, 3) := by decide +kernel
theorem dX21_init_270 : decode cX21_init 270 = .ok (.aload_n 0, 1) := by decide +kernel
theorem dX21_init_271 : decode cX21_init 271 = .ok (.bipush 32, 2) := by decide +kernel
theorem dX21_init_273 : decode cX21_init 273 = .ok (.newarray .byte, 2) := by decide +kernel
theorem dX21_init_275 : decode cX21_init 275 = .ok (.putfield 119, 3) := by decide +kernel
theorem dX21_init_278 : decode cX21_init 278 = .ok (.aload_n 0, 1) := by decide +kernel
theorem dX21_init_279 : decode cX21_init 279 = .ok (.bipush 64, 2) := by decide +kernel
theorem dX21_init_281 : decode cX21_init 281 = .ok (.newarray .byte, 2) := by decide +kernel
theorem dX21_init_283 : decode cX21_init 283 = .ok (.putfield 122, 3) := by decide +kernel
theorem dX21_init_286 : decode cX21_init 286 = .ok (.aload_n 0, 1) := by decide +kernel
theorem dX21_init_287 : decode cX21_init 287 = .ok (.bipush 40, 2) := by decide +kernel
theorem dX21_init_289 : decode cX21_init 289 = .ok (.newarray .byte, 2) := by decide +kernel
theorem dX21_init_291 : decode cX21_init 291 = .ok (.putfield 125, 3) := by decide +kernel
theorem dX21_init_294 : decode cX21_init 294 = .ok (.aload_n 0, 1) := by decide +kernel
theorem dX21_init_295 : decode cX21_init 295 = .ok (.iconst 2, 1) := by decide +kernel
theorem dX21_init_296 : decode cX21_init 296 = .ok (.anewarray 68, 3) := by decide +kernel
theorem dX21_init_299 : decode cX21_init 299 = .ok (.dup, 1) := by decide +kernel
theorem dX21_init_300 : decode cX21_init 300 = .ok (.iconst 0, 1) := by decide +kernel
theorem dX21_init_301 : decode cX21_init 301 = .ok (.iconst 0, 1) := by decide +kernel
theorem dX21_init_302 : decode cX21_init 302 = .ok (.invokestatic 128, 3) := by decide +kernel
theorem dX21_init_305 : decode cX21_init 305 = .ok (.aastore, 1) := by decide +kernel
theorem dX21_init_306 : decode cX21_init 306 = .ok (.dup, 1) := by decide +kernel
theorem dX21_init_307 : decode cX21_init 307 = .ok (.iconst 1, 1) := by decide +kernel
theorem dX21_init_308 : decode cX21_init 308 = .ok (.iconst 1, 1) := by decide +kernel
theorem dX21_init_309 : decode cX21_init 309 = .ok (.invokestatic 128, 3) := by decide +kernel
theorem dX21_init_312 : decode cX21_init 312 = .ok (.aastore, 1) := by decide +kernel
theorem dX21_init_313 : decode cX21_init 313 = .ok (.putfield 132, 3) := by decide +kernel
theorem dX21_init_316 : decode cX21_init 316 = .ok (.aload_n 0, 1) := by decide +kernel
theorem dX21_init_317 : decode cX21_init 317 = .ok (.new 49, 3) := by decide +kernel
theorem dX21_init_320 : decode cX21_init 320 = .ok (.dup, 1) := by decide +kernel
theorem dX21_init_321 : decode cX21_init 321 = .ok (.invokespecial 108, 3) := by decide +kernel
theorem dX21_init_324 : decode cX21_init 324 = .ok (.putfield 135, 3) := by decide +kernel
theorem dX21_init_327 : decode cX21_init 327 = .ok (.aload_n 0, 1) := by decide +kernel
theorem dX21_init_328 : decode cX21_init 328 = .ok (.ldc 138, 2) := by decide +kernel
theorem dX21_init_330 : decode cX21_init 330 = .ok (.newarray .byte, 2) := by decide +kernel
theorem dX21_init_332 : decode cX21_init 332 = .ok (.putfield 139, 3) := by decide +kernel
theorem dX21_init_335 : decode cX21_init 335 = .ok (.aload_n 0, 1) := by decide +kernel
theorem dX21_init_336 : decode cX21_init 336 = .ok (.getstatic 59, 3) := by decide +kernel
theorem dX21_init_339 : decode cX21_init 339 = .ok (.putfield 142, 3) := by decide +kernel
theorem dX21_init_342 : decode cX21_init 342 = .ok (.return_, 1) := by decide +kernel
theorem dX21_thrown_0 : decode cX21_thrown 0 = .ok (.aload_n 0, 1) := by decide +kernel
theorem dX21_thrown_1 : decode cX21_thrown 1 = .ok (.getfield 145, 3) := by decide +kernel
theorem dX21_thrown_4 : decode cX21_thrown 4 = .ok (.ireturn, 1) := by decide +kernel
theorem dX21_fail_0 : decode cX21_fail 0 = .ok (.aload_n 0, 1) := by decide +kernel
theorem dX21_fail_1 : decode cX21_fail 1 = .ok (.iload_n 1, 1) := by decide +kernel
theorem dX21_fail_2 : decode cX21_fail 2 = .ok (.putfield 145, 3) := by decide +kernel
theorem dX21_fail_5 : decode cX21_fail 5 = .ok (.iconst 0, 1) := by decide +kernel
theorem dX21_fail_6 : decode cX21_fail 6 = .ok (.ireturn, 1) := by decide +kernel
theorem dX21_complete_0 : decode cX21_complete 0 = .ok (.aload_n 0, 1) := by decide +kernel
theorem dX21_complete_1 : decode cX21_complete 1 = .ok (.getfield 240, 3) := by decide +kernel
theorem dX21_complete_4 : decode cX21_complete 4 = .ok (.ifCond .ne 14, 3) := by decide +kernel
theorem dX21_complete_7 : decode cX21_complete 7 = .ok (.aload_n 0, 1) := by decide +kernel
theorem dX21_complete_8 : decode cX21_complete 8 = .ok (.getfield 278, 3) := by decide +kernel
theorem dX21_complete_11 : decode cX21_complete 11 = .ok (.ifCond .ne 7, 3) := by decide +kernel
theorem dX21_complete_14 : decode cX21_complete 14 = .ok (.iconst 1, 1) := by decide +kernel
theorem dX21_complete_15 : decode cX21_complete 15 = .ok (.goto 4, 3) := by decide +kernel
theorem dX21_complete_18 : decode cX21_complete 18 = .ok (.iconst 0, 1) := by decide +kernel
theorem dX21_complete_19 : decode cX21_complete 19 = .ok (.ireturn, 1) := by decide +kernel
theorem dX21_line_0 : decode cX21_line 0 = .ok (.iload_n 0, 1) := by decide +kernel
theorem dX21_line_1 : decode cX21_line 1 = .ok (.ifCond .ne 9, 3) := by decide +kernel
theorem dX21_line_4 : decode cX21_line 4 = .ok (.ldc_w 423, 3) := by decide +kernel
theorem dX21_line_7 : decode cX21_line 7 = .ok (.goto 6, 3) := by decide +kernel
theorem dX21_line_10 : decode cX21_line 10 = .ok (.ldc_w 425, 3) := by decide +kernel
theorem dX21_line_13 : decode cX21_line 13 = .ok (.astore_n 1, 1) := by decide +kernel
theorem dX21_line_14 : decode cX21_line 14 = .ok (.aload_n 1, 1) := by decide +kernel
theorem dX21_line_15 : decode cX21_line 15 = .ok (.invokevirtual 427, 3) := by decide +kernel
theorem dX21_line_18 : decode cX21_line 18 = .ok (.newarray .byte, 2) := by decide +kernel
theorem dX21_line_20 : decode cX21_line 20 = .ok (.astore_n 2, 1) := by decide +kernel
theorem dX21_line_21 : decode cX21_line 21 = .ok (.iconst 0, 1) := by decide +kernel
theorem dX21_line_22 : decode cX21_line 22 = .ok (.istore_n 3, 1) := by decide +kernel
theorem dX21_line_23 : decode cX21_line 23 = .ok (.iload_n 3, 1) := by decide +kernel
theorem dX21_line_24 : decode cX21_line 24 = .ok (.aload_n 2, 1) := by decide +kernel
theorem dX21_line_25 : decode cX21_line 25 = .ok (.arraylength, 1) := by decide +kernel
theorem dX21_line_26 : decode cX21_line 26 = .ok (.if_icmp .ge 18, 3) := by decide +kernel
theorem dX21_line_29 : decode cX21_line 29 = .ok (.aload_n 2, 1) := by decide +kernel
theorem dX21_line_30 : decode cX21_line 30 = .ok (.iload_n 3, 1) := by decide +kernel
theorem dX21_line_31 : decode cX21_line 31 = .ok (.aload_n 1, 1) := by decide +kernel
theorem dX21_line_32 : decode cX21_line 32 = .ok (.iload_n 3, 1) := by decide +kernel
theorem dX21_line_33 : decode cX21_line 33 = .ok (.invokevirtual 432, 3) := by decide +kernel
theorem dX21_line_36 : decode cX21_line 36 = .ok (.i2b, 1) := by decide +kernel
theorem dX21_line_37 : decode cX21_line 37 = .ok (.bastore, 1) := by decide +kernel
theorem dX21_line_38 : decode cX21_line 38 = .ok (.iinc 3 1, 3) := by decide +kernel
theorem dX21_line_41 : decode cX21_line 41 = .ok (.goto (-18), 3) := by decide +kernel
theorem dX21_line_44 : decode cX21_line 44 = .ok (.aload_n 2, 1) := by decide +kernel
theorem dX21_line_45 : decode cX21_line 45 = .ok (.areturn, 1) := by decide +kernel
theorem dX21_sessionOf_0 : decode cX21_sessionOf 0 = .ok (.aload_n 1, 1) := by decide +kernel
theorem dX21_sessionOf_1 : decode cX21_sessionOf 1 = .ok (.getfield 221, 3) := by decide +kernel
theorem dX21_sessionOf_4 : decode cX21_sessionOf 4 = .ok (.ifCond .ne 10, 3) := by decide +kernel
theorem dX21_sessionOf_7 : decode cX21_sessionOf 7 = .ok (.aload_n 0, 1) := by decide +kernel
theorem dX21_sessionOf_8 : decode cX21_sessionOf 8 = .ok (.getfield 484, 3) := by decide +kernel
theorem dX21_sessionOf_11 : decode cX21_sessionOf 11 = .ok (.goto 7, 3) := by decide +kernel
theorem dX21_sessionOf_14 : decode cX21_sessionOf 14 = .ok (.aload_n 0, 1) := by decide +kernel
theorem dX21_sessionOf_15 : decode cX21_sessionOf 15 = .ok (.getfield 469, 3) := by decide +kernel
theorem dX21_sessionOf_18 : decode cX21_sessionOf 18 = .ok (.areturn, 1) := by decide +kernel
theorem dX21_used_0 : decode cX21_used 0 = .ok (.aload_n 0, 1) := by decide +kernel
theorem dX21_used_1 : decode cX21_used 1 = .ok (.getfield 710, 3) := by decide +kernel
theorem dX21_used_4 : decode cX21_used 4 = .ok (.ifCond .eq 11, 3) := by decide +kernel
theorem dX21_used_7 : decode cX21_used 7 = .ok (.aload_n 0, 1) := by decide +kernel
theorem dX21_used_8 : decode cX21_used 8 = .ok (.getfield 710, 3) := by decide +kernel
theorem dX21_used_11 : decode cX21_used 11 = .ok (.iconst 1, 1) := by decide +kernel
theorem dX21_used_12 : decode cX21_used 12 = .ok (.if_icmp .ne 7, 3) := by decide +kernel
theorem dX21_used_15 : decode cX21_used 15 = .ok (.iconst 1, 1) := by decide +kernel
theorem dX21_used_16 : decode cX21_used 16 = .ok (.goto 4, 3) := by decide +kernel
theorem dX21_used_19 : decode cX21_used 19 = .ok (.iconst 0, 1) := by decide +kernel
theorem dX21_used_20 : decode cX21_used 20 = .ok (.ireturn, 1) := by decide +kernel
theorem dX21_farSide_0 : decode cX21_farSide 0 = .ok (.iconst 0, 1) := by decide +kernel
theorem dX21_farSide_1 : decode cX21_farSide 1 = .ok (.istore_n 2, 1) := by decide +kernel
theorem dX21_farSide_2 : decode cX21_farSide 2 = .ok (.iload_n 2, 1) := by decide +kernel
theorem dX21_farSide_3 : decode cX21_farSide 3 = .ok (.bipush 16, 2) := by decide +kernel
theorem dX21_farSide_5 : decode cX21_farSide 5 = .ok (.if_icmp .ge 46, 3) := by decide +kernel
theorem dX21_farSide_8 : decode cX21_farSide 8 = .ok (.aload_n 0, 1) := by decide +kernel
theorem dX21_farSide_9 : decode cX21_farSide 9 = .ok (.getfield 45, 3) := by decide +kernel
theorem dX21_farSide_12 : decode cX21_farSide 12 = .ok (.iconst 1, 1) := by decide +kernel
theorem dX21_farSide_13 : decode cX21_farSide 13 = .ok (.aaload, 1) := by decide +kernel
theorem dX21_farSide_14 : decode cX21_farSide 14 = .ok (.getfield 706, 3) := by decide +kernel
theorem dX21_farSide_17 : decode cX21_farSide 17 = .ok (.iload_n 2, 1) := by decide +kernel
theorem dX21_farSide_18 : decode cX21_farSide 18 = .ok (.aaload, 1) := by decide +kernel
theorem dX21_farSide_19 : decode cX21_farSide 19 = .ok (.astore_n 3, 1) := by decide +kernel
theorem dX21_farSide_20 : decode cX21_farSide 20 = .ok (.aload_n 3, 1) := by decide +kernel
theorem dX21_farSide_21 : decode cX21_farSide 21 = .ok (.getfield 710, 3) := by decide +kernel
theorem dX21_farSide_24 : decode cX21_farSide 24 = .ok (.iconst 1, 1) := by decide +kernel
theorem dX21_farSide_25 : decode cX21_farSide 25 = .ok (.if_icmp .ne 20, 3) := by decide +kernel
theorem dX21_farSide_28 : decode cX21_farSide 28 = .ok (.aload_n 3, 1) := by decide +kernel
theorem dX21_farSide_29 : decode cX21_farSide 29 = .ok (.getfield 746, 3) := by decide +kernel
theorem dX21_farSide_32 : decode cX21_farSide 32 = .ok (.ifCond .ne 13, 3) := by decide +kernel
theorem dX21_farSide_35 : decode cX21_farSide 35 = .ok (.aload_n 3, 1) := by decide +kernel
theorem dX21_farSide_36 : decode cX21_farSide 36 = .ok (.getfield 748, 3) := by decide +kernel
theorem dX21_farSide_39 : decode cX21_farSide 39 = .ok (.iload_n 1, 1) := by decide +kernel
theorem dX21_farSide_40 : decode cX21_farSide 40 = .ok (.if_icmp .ne 5, 3) := by decide +kernel
theorem dX21_farSide_43 : decode cX21_farSide 43 = .ok (.aload_n 3, 1) := by decide +kernel
theorem dX21_farSide_44 : decode cX21_farSide 44 = .ok (.areturn, 1) := by decide +kernel
theorem dX21_farSide_45 : decode cX21_farSide 45 = .ok (.iinc 2 1, 3) := by decide +kernel
theorem dX21_farSide_48 : decode cX21_farSide 48 = .ok (.goto (-46), 3) := by decide +kernel
theorem dX21_farSide_51 : decode cX21_farSide 51 = .ok (.aconst_null, 1) := by decide +kernel
theorem dX21_farSide_52 : decode cX21_farSide 52 = .ok (.areturn, 1) := by decide +kernel
theorem dX21_bytesStored_0 : decode cX21_bytesStored 0 = .ok (.iconst 0, 1) := by decide +kernel
theorem dX21_bytesStored_1 : decode cX21_bytesStored 1 = .ok (.istore_n 1, 1) := by decide +kernel
theorem dX21_bytesStored_2 : decode cX21_bytesStored 2 = .ok (.iconst 0, 1) := by decide +kernel
theorem dX21_bytesStored_3 : decode cX21_bytesStored 3 = .ok (.istore_n 2, 1) := by decide +kernel
theorem dX21_bytesStored_4 : decode cX21_bytesStored 4 = .ok (.iload_n 2, 1) := by decide +kernel
theorem dX21_bytesStored_5 : decode cX21_bytesStored 5 = .ok (.aload_n 0, 1) := by decide +kernel
theorem dX21_bytesStored_6 : decode cX21_bytesStored 6 = .ok (.getfield 861, 3) := by decide +kernel
theorem dX21_bytesStored_9 : decode cX21_bytesStored 9 = .ok (.if_icmp .ge 19, 3) := by decide +kernel
theorem dX21_bytesStored_12 : decode cX21_bytesStored 12 = .ok (.iload_n 1, 1) := by decide +kernel
theorem dX21_bytesStored_13 : decode cX21_bytesStored 13 = .ok (.aload_n 0, 1) := by decide +kernel
theorem dX21_bytesStored_14 : decode cX21_bytesStored 14 = .ok (.getfield 86, 3) := by decide +kernel
theorem dX21_bytesStored_17 : decode cX21_bytesStored 17 = .ok (.iload_n 2, 1) := by decide +kernel
theorem dX21_bytesStored_18 : decode cX21_bytesStored 18 = .ok (.aaload, 1) := by decide +kernel
theorem dX21_bytesStored_19 : decode cX21_bytesStored 19 = .ok (.arraylength, 1) := by decide +kernel
theorem dX21_bytesStored_20 : decode cX21_bytesStored 20 = .ok (.iadd, 1) := by decide +kernel
theorem dX21_bytesStored_21 : decode cX21_bytesStored 21 = .ok (.istore_n 1, 1) := by decide +kernel
theorem dX21_bytesStored_22 : decode cX21_bytesStored 22 = .ok (.iinc 2 1, 3) := by decide +kernel
theorem dX21_bytesStored_25 : decode cX21_bytesStored 25 = .ok (.goto (-21), 3) := by decide +kernel
theorem dX21_bytesStored_28 : decode cX21_bytesStored 28 = .ok (.iload_n 1, 1) := by decide +kernel
theorem dX21_bytesStored_29 : decode cX21_bytesStored 29 = .ok (.ireturn, 1) := by decide +kernel
theorem dX21_feed_0 : decode cX21_feed 0 = .ok (.aload_n 0, 1) := by decide +kernel
theorem dX21_feed_1 : decode cX21_feed 1 = .ok (.iconst 0, 1) := by decide +kernel
theorem dX21_feed_2 : decode cX21_feed 2 = .ok (.putfield 145, 3) := by decide +kernel
theorem dX21_feed_5 : decode cX21_feed 5 = .ok (.aload_n 0, 1) := by decide +kernel
theorem dX21_feed_6 : decode cX21_feed 6 = .ok (.getfield 922, 3) := by decide +kernel
theorem dX21_feed_9 : decode cX21_feed 9 = .ok (.ldc_w 925, 3) := by decide +kernel
theorem dX21_feed_12 : decode cX21_feed 12 = .ok (.if_icmp .le 9, 3) := by decide +kernel
theorem dX21_feed_15 : decode cX21_feed 15 = .ok (.aload_n 0, 1) := by decide +kernel
theorem dX21_feed_16 : decode cX21_feed 16 = .ok (.iconst 1, 1) := by decide +kernel
theorem dX21_feed_17 : decode cX21_feed 17 = .ok (.invokevirtual 926, 3) := by decide +kernel
theorem dX21_feed_20 : decode cX21_feed 20 = .ok (.ireturn, 1) := by decide +kernel
theorem dX21_feed_21 : decode cX21_feed 21 = .ok (.iconst 0, 1) := by decide +kernel
theorem dX21_feed_22 : decode cX21_feed 22 = .ok (.istore 6, 2) := by decide +kernel
theorem dX21_feed_24 : decode cX21_feed 24 = .ok (.iload 6, 2) := by decide +kernel
theorem dX21_feed_26 : decode cX21_feed 26 = .ok (.bipush 20, 2) := by decide +kernel
theorem dX21_feed_28 : decode cX21_feed 28 = .ok (.if_icmp .ge 82, 3) := by decide +kernel
theorem dX21_feed_31 : decode cX21_feed 31 = .ok (.iload 6, 2) := by decide +kernel
theorem dX21_feed_33 : decode cX21_feed 33 = .ok (.iconst 4, 1) := by decide +kernel
theorem dX21_feed_34 : decode cX21_feed 34 = .ok (.if_icmp .ge 7, 3) := by decide +kernel
theorem dX21_feed_37 : decode cX21_feed 37 = .ok (.iload_n 1, 1) := by decide +kernel
theorem dX21_feed_38 : decode cX21_feed 38 = .ok (.goto 39, 3) := by decide +kernel
theorem dX21_feed_41 : decode cX21_feed 41 = .ok (.iload 6, 2) := by decide +kernel
theorem dX21_feed_43 : decode cX21_feed 43 = .ok (.bipush 8, 2) := by decide +kernel
theorem dX21_feed_45 : decode cX21_feed 45 = .ok (.if_icmp .ge 7, 3) := by decide +kernel
theorem dX21_feed_48 : decode cX21_feed 48 = .ok (.iload_n 2, 1) := by decide +kernel
theorem dX21_feed_49 : decode cX21_feed 49 = .ok (.goto 28, 3) := by decide +kernel
theorem dX21_feed_52 : decode cX21_feed 52 = .ok (.iload 6, 2) := by decide +kernel
theorem dX21_feed_54 : decode cX21_feed 54 = .ok (.bipush 12, 2) := by decide +kernel
theorem dX21_feed_56 : decode cX21_feed 56 = .ok (.if_icmp .ge 7, 3) := by decide +kernel
theorem dX21_feed_59 : decode cX21_feed 59 = .ok (.iload_n 3, 1) := by decide +kernel
theorem dX21_feed_60 : decode cX21_feed 60 = .ok (.goto 17, 3) := by decide +kernel
theorem dX21_feed_63 : decode cX21_feed 63 = .ok (.iload 6, 2) := by decide +kernel
theorem dX21_feed_65 : decode cX21_feed 65 = .ok (.bipush 16, 2) := by decide +kernel
theorem dX21_feed_67 : decode cX21_feed 67 = .ok (.if_icmp .ge 8, 3) := by decide +kernel
theorem dX21_feed_70 : decode cX21_feed 70 = .ok (.iload 4, 2) := by decide +kernel
theorem dX21_feed_72 : decode cX21_feed 72 = .ok (.goto 5, 3) := by decide +kernel
theorem dX21_feed_75 : decode cX21_feed 75 = .ok (.iload 5, 2) := by decide +kernel
theorem dX21_feed_77 : decode cX21_feed 77 = .ok (.istore 7, 2) := by decide +kernel
theorem dX21_feed_79 : decode cX21_feed 79 = .ok (.aload_n 0, 1) := by decide +kernel
theorem dX21_feed_80 : decode cX21_feed 80 = .ok (.getfield 8, 3) := by decide +kernel
theorem dX21_feed_83 : decode cX21_feed 83 = .ok (.aload_n 0, 1) := by decide +kernel
theorem dX21_feed_84 : decode cX21_feed 84 = .ok (.getfield 922, 3) := by decide +kernel
theorem dX21_feed_87 : decode cX21_feed 87 = .ok (.iload 6, 2) := by decide +kernel
theorem dX21_feed_89 : decode cX21_feed 89 = .ok (.iadd, 1) := by decide +kernel
theorem dX21_feed_90 : decode cX21_feed 90 = .ok (.iload 7, 2) := by decide +kernel
theorem dX21_feed_92 : decode cX21_feed 92 = .ok (.bipush 8, 2) := by decide +kernel
theorem dX21_feed_94 : decode cX21_feed 94 = .ok (.iconst 3, 1) := by decide +kernel
theorem dX21_feed_95 : decode cX21_feed 95 = .ok (.iload 6, 2) := by decide +kernel
theorem dX21_feed_97 : decode cX21_feed 97 = .ok (.iconst 4, 1) := by decide +kernel
theorem dX21_feed_98 : decode cX21_feed 98 = .ok (.irem, 1) := by decide +kernel
theorem dX21_feed_99 : decode cX21_feed 99 = .ok (.isub, 1) := by decide +kernel
theorem dX21_feed_100 : decode cX21_feed 100 = .ok (.imul, 1) := by decide +kernel
theorem dX21_feed_101 : decode cX21_feed 101 = .ok (.ishr, 1) := by decide +kernel
theorem dX21_feed_102 : decode cX21_feed 102 = .ok (.i2b, 1) := by decide +kernel
theorem dX21_feed_103 : decode cX21_feed 103 = .ok (.bastore, 1) := by decide +kernel
theorem dX21_feed_104 : decode cX21_feed 104 = .ok (.iinc 6 1, 3) := by decide +kernel
theorem dX21_feed_107 : decode cX21_feed 107 = .ok (.goto (-83), 3) := by decide +kernel
theorem dX21_feed_110 : decode cX21_feed 110 = .ok (.aload_n 0, 1) := by decide +kernel
theorem dX21_feed_111 : decode cX21_feed 111 = .ok (.dup, 1) := by decide +kernel
theorem dX21_feed_112 : decode cX21_feed 112 = .ok (.getfield 922, 3) := by decide +kernel
theorem dX21_feed_115 : decode cX21_feed 115 = .ok (.bipush 20, 2) := by decide +kernel
theorem dX21_feed_117 : decode cX21_feed 117 = .ok (.iadd, 1) := by decide +kernel
theorem dX21_feed_118 : decode cX21_feed 118 = .ok (.putfield 922, 3) := by decide +kernel
theorem dX21_feed_121 : decode cX21_feed 121 = .ok (.aload_n 0, 1) := by decide +kernel
theorem dX21_feed_122 : decode cX21_feed 122 = .ok (.getfield 922, 3) := by decide +kernel
theorem dX21_feed_125 : decode cX21_feed 125 = .ok (.ireturn, 1) := by decide +kernel
theorem dX21_end_0 : decode cX21_end 0 = .ok (.aload_n 0, 1) := by decide +kernel
theorem dX21_end_1 : decode cX21_end 1 = .ok (.iconst 0, 1) := by decide +kernel
theorem dX21_end_2 : decode cX21_end 2 = .ok (.putfield 145, 3) := by decide +kernel
theorem dX21_end_5 : decode cX21_end 5 = .ok (.iload_n 1, 1) := by decide +kernel
theorem dX21_end_6 : decode cX21_end 6 = .ok (.ifCond .lt 11, 3) := by decide +kernel
theorem dX21_end_9 : decode cX21_end 9 = .ok (.iload_n 1, 1) := by decide +kernel
theorem dX21_end_10 : decode cX21_end 10 = .ok (.aload_n 0, 1) := by decide +kernel
theorem dX21_end_11 : decode cX21_end 11 = .ok (.getfield 922, 3) := by decide +kernel
theorem dX21_end_14 : decode cX21_end 14 = .ok (.if_icmp .le 9, 3) := by decide +kernel
theorem dX21_end_17 : decode cX21_end 17 = .ok (.aload_n 0, 1) := by decide +kernel
theorem dX21_end_18 : decode cX21_end 18 = .ok (.iconst 1, 1) := by decide +kernel
theorem dX21_end_19 : decode cX21_end 19 = .ok (.invokevirtual 926, 3) := by decide +kernel
theorem dX21_end_22 : decode cX21_end 22 = .ok (.ireturn, 1) := by decide +kernel
theorem dX21_end_23 : decode cX21_end 23 = .ok (.aload_n 0, 1) := by decide +kernel
theorem dX21_end_24 : decode cX21_end 24 = .ok (.iload_n 1, 1) := by decide +kernel
theorem dX21_end_25 : decode cX21_end 25 = .ok (.putfield 922, 3) := by decide +kernel
theorem dX21_end_28 : decode cX21_end 28 = .ok (.iload_n 1, 1) := by decide +kernel
theorem dX21_end_29 : decode cX21_end 29 = .ok (.ireturn, 1) := by decide +kernel
theorem dX21_secret_0 : decode cX21_secret 0 = .ok (.aload_n 0, 1) := by decide +kernel
theorem dX21_secret_1 : decode cX21_secret 1 = .ok (.iload_n 1, 1) := by decide +kernel
theorem dX21_secret_2 : decode cX21_secret 2 = .ok (.ifCond .lt 8, 3) := by decide +kernel
theorem dX21_secret_5 : decode cX21_secret 5 = .ok (.iload_n 1, 1) := by decide +kernel
theorem dX21_secret_6 : decode cX21_secret 6 = .ok (.iconst 4, 1) := by decide +kernel
theorem dX21_secret_7 : decode cX21_secret 7 = .ok (.if_icmp .le 7, 3) := by decide +kernel
theorem dX21_secret_10 : decode cX21_secret 10 = .ok (.iconst 1, 1) := by decide +kernel
theorem dX21_secret_11 : decode cX21_secret 11 = .ok (.goto 17, 3) := by decide +kernel
theorem dX21_secret_14 : decode cX21_secret 14 = .ok (.aload_n 0, 1) := by decide +kernel
theorem dX21_secret_15 : decode cX21_secret 15 = .ok (.getfield 922, 3) := by decide +kernel
theorem dX21_secret_18 : decode cX21_secret 18 = .ok (.bipush 32, 2) := by decide +kernel
theorem dX21_secret_20 : decode cX21_secret 20 = .ok (.if_icmp .eq 7, 3) := by decide +kernel
theorem dX21_secret_23 : decode cX21_secret 23 = .ok (.iconst 2, 1) := by decide +kernel
theorem dX21_secret_24 : decode cX21_secret 24 = .ok (.goto 4, 3) := by decide +kernel
theorem dX21_secret_27 : decode cX21_secret 27 = .ok (.iconst 0, 1) := by decide +kernel
theorem dX21_secret_28 : decode cX21_secret 28 = .ok (.putfield 145, 3) := by decide +kernel
theorem dX21_secret_31 : decode cX21_secret 31 = .ok (.aload_n 0, 1) := by decide +kernel
theorem dX21_secret_32 : decode cX21_secret 32 = .ok (.getfield 145, 3) := by decide +kernel
theorem dX21_secret_35 : decode cX21_secret 35 = .ok (.ifCond .le 4, 3) := by decide +kernel
theorem dX21_secret_38 : decode cX21_secret 38 = .ok (.return_, 1) := by decide +kernel
theorem dX21_secret_39 : decode cX21_secret 39 = .ok (.aload_n 0, 1) := by decide +kernel
theorem dX21_secret_40 : decode cX21_secret 40 = .ok (.iconst 0, 1) := by decide +kernel
theorem dX21_secret_41 : decode cX21_secret 41 = .ok (.bipush 32, 2) := by decide +kernel
theorem dX21_secret_43 : decode cX21_secret 43 = .ok (.invokevirtual 930, 3) := by decide +kernel
theorem dX21_secret_46 : decode cX21_secret 46 = .ok (.astore_n 2, 1) := by decide +kernel
theorem dX21_secret_47 : decode cX21_secret 47 = .ok (.aload_n 0, 1) := by decide +kernel
theorem dX21_secret_48 : decode cX21_secret 48 = .ok (.iconst 0, 1) := by decide +kernel
theorem dX21_secret_49 : decode cX21_secret 49 = .ok (.putfield 922, 3) := by decide +kernel
theorem dX21_secret_52 : decode cX21_secret 52 = .ok (.iload_n 1, 1) := by decide +kernel
theorem dX21_secret_53 : decode cX21_secret 53 = .ok (.iconst 2, 1) := by decide +kernel
theorem dX21_secret_54 : decode cX21_secret 54 = .ok (.if_icmp .ge 54, 3) := by decide +kernel
theorem dX21_secret_57 : decode cX21_secret 57 = .ok (.iconst 0, 1) := by decide +kernel
theorem dX21_secret_58 : decode cX21_secret 58 = .ok (.istore_n 3, 1) := by decide +kernel
theorem dX21_secret_59 : decode cX21_secret 59 = .ok (.iload_n 3, 1) := by decide +kernel
theorem dX21_secret_60 : decode cX21_secret 60 = .ok (.bipush 32, 2) := by decide +kernel
theorem dX21_secret_62 : decode cX21_secret 62 = .ok (.if_icmp .ge 23, 3) := by decide +kernel
theorem dX21_secret_65 : decode cX21_secret 65 = .ok (.aload_n 0, 1) := by decide +kernel
theorem dX21_secret_66 : decode cX21_secret 66 = .ok (.getfield 45, 3) := by decide +kernel
theorem dX21_secret_69 : decode cX21_secret 69 = .ok (.iload_n 1, 1) := by decide +kernel
theorem dX21_secret_70 : decode cX21_secret 70 = .ok (.aaload, 1) := by decide +kernel
theorem dX21_secret_71 : decode cX21_secret 71 = .ok (.getfield 152, 3) := by decide +kernel
theorem dX21_secret_74 : decode cX21_secret 74 = .ok (.iload_n 3, 1) := by decide +kernel
theorem dX21_secret_75 : decode cX21_secret 75 = .ok (.aload_n 2, 1) := by decide +kernel
theorem dX21_secret_76 : decode cX21_secret 76 = .ok (.iload_n 3, 1) := by decide +kernel
theorem dX21_secret_77 : decode cX21_secret 77 = .ok (.baload, 1) := by decide +kernel
theorem dX21_secret_78 : decode cX21_secret 78 = .ok (.bastore, 1) := by decide +kernel
theorem dX21_secret_79 : decode cX21_secret 79 = .ok (.iinc 3 1, 3) := by decide +kernel
theorem dX21_secret_82 : decode cX21_secret 82 = .ok (.goto (-23), 3) := by decide +kernel
theorem dX21_secret_85 : decode cX21_secret 85 = .ok (.aload_n 0, 1) := by decide +kernel
theorem dX21_secret_86 : decode cX21_secret 86 = .ok (.getfield 45, 3) := by decide +kernel
theorem dX21_secret_89 : decode cX21_secret 89 = .ok (.iload_n 1, 1) := by decide +kernel
theorem dX21_secret_90 : decode cX21_secret 90 = .ok (.aaload, 1) := by decide +kernel
theorem dX21_secret_91 : decode cX21_secret 91 = .ok (.lconst 0, 1) := by decide +kernel
theorem dX21_secret_92 : decode cX21_secret 92 = .ok (.putfield 155, 3) := by decide +kernel
theorem dX21_secret_95 : decode cX21_secret 95 = .ok (.aload_n 0, 1) := by decide +kernel
theorem dX21_secret_96 : decode cX21_secret 96 = .ok (.getfield 45, 3) := by decide +kernel
theorem dX21_secret_99 : decode cX21_secret 99 = .ok (.iload_n 1, 1) := by decide +kernel
theorem dX21_secret_100 : decode cX21_secret 100 = .ok (.aaload, 1) := by decide +kernel
theorem dX21_secret_101 : decode cX21_secret 101 = .ok (.iconst 0, 1) := by decide +kernel
theorem dX21_secret_102 : decode cX21_secret 102 = .ok (.putfield 149, 3) := by decide +kernel
theorem dX21_secret_105 : decode cX21_secret 105 = .ok (.goto 34, 3) := by decide +kernel
theorem dX21_secret_108 : decode cX21_secret 108 = .ok (.iload_n 1, 1) := by decide +kernel
theorem dX21_secret_109 : decode cX21_secret 109 = .ok (.iconst 2, 1) := by decide +kernel
theorem dX21_secret_110 : decode cX21_secret 110 = .ok (.if_icmp .ne 11, 3) := by decide +kernel
theorem dX21_secret_113 : decode cX21_secret 113 = .ok (.aload_n 0, 1) := by decide +kernel
theorem dX21_secret_114 : decode cX21_secret 114 = .ok (.aload_n 2, 1) := by decide +kernel
theorem dX21_secret_115 : decode cX21_secret 115 = .ok (.putfield 451, 3) := by decide +kernel
theorem dX21_secret_118 : decode cX21_secret 118 = .ok (.goto 21, 3) := by decide +kernel
theorem dX21_secret_121 : decode cX21_secret 121 = .ok (.iload_n 1, 1) := by decide +kernel
theorem dX21_secret_122 : decode cX21_secret 122 = .ok (.iconst 3, 1) := by decide +kernel
theorem dX21_secret_123 : decode cX21_secret 123 = .ok (.if_icmp .ne 11, 3) := by decide +kernel
theorem dX21_secret_126 : decode cX21_secret 126 = .ok (.aload_n 0, 1) := by decide +kernel
theorem dX21_secret_127 : decode cX21_secret 127 = .ok (.aload_n 2, 1) := by decide +kernel
theorem dX21_secret_128 : decode cX21_secret 128 = .ok (.putfield 660, 3) := by decide +kernel
theorem dX21_secret_131 : decode cX21_secret 131 = .ok (.goto 8, 3) := by decide +kernel
theorem dX21_secret_134 : decode cX21_secret 134 = .ok (.aload_n 0, 1) := by decide +kernel
theorem dX21_secret_135 : decode cX21_secret 135 = .ok (.aload_n 2, 1) := by decide +kernel
theorem dX21_secret_136 : decode cX21_secret 136 = .ok (.putfield 495, 3) := by decide +kernel
theorem dX21_secret_139 : decode cX21_secret 139 = .ok (.return_, 1) := by decide +kernel
theorem dX21_user_0 : decode cX21_user 0 = .ok (.aload_n 0, 1) := by decide +kernel
theorem dX21_user_1 : decode cX21_user 1 = .ok (.iconst 0, 1) := by decide +kernel
theorem dX21_user_2 : decode cX21_user 2 = .ok (.putfield 145, 3) := by decide +kernel
theorem dX21_user_5 : decode cX21_user 5 = .ok (.iload_n 1, 1) := by decide +kernel
theorem dX21_user_6 : decode cX21_user 6 = .ok (.iconst 1, 1) := by decide +kernel
theorem dX21_user_7 : decode cX21_user 7 = .ok (.if_icmp .lt 28, 3) := by decide +kernel
theorem dX21_user_10 : decode cX21_user 10 = .ok (.iload_n 1, 1) := by decide +kernel
theorem dX21_user_11 : decode cX21_user 11 = .ok (.bipush 32, 2) := by decide +kernel
theorem dX21_user_13 : decode cX21_user 13 = .ok (.if_icmp .gt 22, 3) := by decide +kernel
theorem dX21_user_16 : decode cX21_user 16 = .ok (.iload_n 1, 1) := by decide +kernel
theorem dX21_user_17 : decode cX21_user 17 = .ok (.aload_n 0, 1) := by decide +kernel
theorem dX21_user_18 : decode cX21_user 18 = .ok (.getfield 922, 3) := by decide +kernel
theorem dX21_user_21 : decode cX21_user 21 = .ok (.if_icmp .gt 14, 3) := by decide +kernel
theorem dX21_user_24 : decode cX21_user 24 = .ok (.aload_n 0, 1) := by decide +kernel
theorem dX21_user_25 : decode cX21_user 25 = .ok (.getfield 922, 3) := by decide +kernel
theorem dX21_user_28 : decode cX21_user 28 = .ok (.iload_n 1, 1) := by decide +kernel
theorem dX21_user_29 : decode cX21_user 29 = .ok (.isub, 1) := by decide +kernel
theorem dX21_user_30 : decode cX21_user 30 = .ok (.bipush 64, 2) := by decide +kernel
theorem dX21_user_32 : decode cX21_user 32 = .ok (.if_icmp .le 9, 3) := by decide +kernel
theorem dX21_user_35 : decode cX21_user 35 = .ok (.aload_n 0, 1) := by decide +kernel
theorem dX21_user_36 : decode cX21_user 36 = .ok (.iconst 1, 1) := by decide +kernel
theorem dX21_user_37 : decode cX21_user 37 = .ok (.invokevirtual 926, 3) := by decide +kernel
theorem dX21_user_40 : decode cX21_user 40 = .ok (.ireturn, 1) := by decide +kernel
theorem dX21_user_41 : decode cX21_user 41 = .ok (.aload_n 0, 1) := by decide +kernel
theorem dX21_user_42 : decode cX21_user 42 = .ok (.iconst 0, 1) := by decide +kernel
theorem dX21_user_43 : decode cX21_user 43 = .ok (.iload_n 1, 1) := by decide +kernel
theorem dX21_user_44 : decode cX21_user 44 = .ok (.invokevirtual 930, 3) := by decide +kernel
theorem dX21_user_47 : decode cX21_user 47 = .ok (.astore_n 3, 1) := by decide +kernel
theorem dX21_user_48 : decode cX21_user 48 = .ok (.aload_n 0, 1) := by decide +kernel
theorem dX21_user_49 : decode cX21_user 49 = .ok (.iload_n 1, 1) := by decide +kernel
theorem dX21_user_50 : decode cX21_user 50 = .ok (.aload_n 0, 1) := by decide +kernel
theorem dX21_user_51 : decode cX21_user 51 = .ok (.getfield 922, 3) := by decide +kernel
theorem dX21_user_54 : decode cX21_user 54 = .ok (.invokevirtual 930, 3) := by decide +kernel
theorem dX21_user_57 : decode cX21_user 57 = .ok (.astore 4, 2) := by decide +kernel
theorem dX21_user_59 : decode cX21_user 59 = .ok (.iload_n 2, 1) := by decide +kernel
theorem dX21_user_60 : decode cX21_user 60 = .ok (.ifCond .ne 24, 3) := by decide +kernel
theorem dX21_user_63 : decode cX21_user 63 = .ok (.aload_n 0, 1) := by decide +kernel
theorem dX21_user_64 : decode cX21_user 64 = .ok (.aload_n 3, 1) := by decide +kernel
theorem dX21_user_65 : decode cX21_user 65 = .ok (.putfield 62, 3) := by decide +kernel
theorem dX21_user_68 : decode cX21_user 68 = .ok (.aload_n 0, 1) := by decide +kernel
theorem dX21_user_69 : decode cX21_user 69 = .ok (.aload 4, 2) := by decide +kernel
theorem dX21_user_71 : decode cX21_user 71 = .ok (.putfield 65, 3) := by decide +kernel
theorem dX21_user_74 : decode cX21_user 74 = .ok (.aload_n 0, 1) := by decide +kernel
theorem dX21_user_75 : decode cX21_user 75 = .ok (.iconst 0, 1) := by decide +kernel
theorem dX21_user_76 : decode cX21_user 76 = .ok (.putfield 922, 3) := by decide +kernel
theorem dX21_user_79 : decode cX21_user 79 = .ok (.aload_n 0, 1) := by decide +kernel
theorem dX21_user_80 : decode cX21_user 80 = .ok (.getfield 687, 3) := by decide +kernel
theorem dX21_user_83 : decode cX21_user 83 = .ok (.ireturn, 1) := by decide +kernel
theorem dX21_user_84 : decode cX21_user 84 = .ok (.iconst 0, 1) := by decide +kernel
theorem dX21_user_85 : decode cX21_user 85 = .ok (.istore 5, 2) := by decide +kernel
theorem dX21_user_87 : decode cX21_user 87 = .ok (.iload 5, 2) := by decide +kernel
theorem dX21_user_89 : decode cX21_user 89 = .ok (.aload_n 0, 1) := by decide +kernel
theorem dX21_user_90 : decode cX21_user 90 = .ok (.getfield 687, 3) := by decide +kernel
theorem dX21_user_93 : decode cX21_user 93 = .ok (.if_icmp .ge 29, 3) := by decide +kernel
theorem dX21_user_96 : decode cX21_user 96 = .ok (.aload_n 0, 1) := by decide +kernel
theorem dX21_user_97 : decode cX21_user 97 = .ok (.getfield 69, 3) := by decide +kernel
theorem dX21_user_100 : decode cX21_user 100 = .ok (.iload 5, 2) := by decide +kernel
theorem dX21_user_102 : decode cX21_user 102 = .ok (.aaload, 1) := by decide +kernel
theorem dX21_user_103 : decode cX21_user 103 = .ok (.aload_n 3, 1) := by decide +kernel
theorem dX21_user_104 : decode cX21_user 104 = .ok (.invokestatic 498, 3) := by decide +kernel
theorem dX21_user_107 : decode cX21_user 107 = .ok (.ifCond .eq 9, 3) := by decide +kernel
theorem dX21_user_110 : decode cX21_user 110 = .ok (.aload_n 0, 1) := by decide +kernel
theorem dX21_user_111 : decode cX21_user 111 = .ok (.iconst 1, 1) := by decide +kernel
theorem dX21_user_112 : decode cX21_user 112 = .ok (.invokevirtual 926, 3) := by decide +kernel
theorem dX21_user_115 : decode cX21_user 115 = .ok (.ireturn, 1) := by decide +kernel
theorem dX21_user_116 : decode cX21_user 116 = .ok (.iinc 5 1, 3) := by decide +kernel
theorem dX21_user_119 : decode cX21_user 119 = .ok (.goto (-32), 3) := by decide +kernel
theorem dX21_user_122 : decode cX21_user 122 = .ok (.aload_n 0, 1) := by decide +kernel
theorem dX21_user_123 : decode cX21_user 123 = .ok (.getfield 687, 3) := by decide +kernel
theorem dX21_user_126 : decode cX21_user 126 = .ok (.bipush 8, 2) := by decide +kernel
theorem dX21_user_128 : decode cX21_user 128 = .ok (.if_icmp .ne 9, 3) := by decide +kernel
theorem dX21_user_131 : decode cX21_user 131 = .ok (.aload_n 0, 1) := by decide +kernel
theorem dX21_user_132 : decode cX21_user 132 = .ok (.iconst 2, 1) := by decide +kernel
theorem dX21_user_133 : decode cX21_user 133 = .ok (.invokevirtual 926, 3) := by decide +kernel
theorem dX21_user_136 : decode cX21_user 136 = .ok (.ireturn, 1) := by decide +kernel
theorem dX21_user_137 : decode cX21_user 137 = .ok (.aload_n 0, 1) := by decide +kernel
theorem dX21_user_138 : decode cX21_user 138 = .ok (.getfield 69, 3) := by decide +kernel
theorem dX21_user_141 : decode cX21_user 141 = .ok (.aload_n 0, 1) := by decide +kernel
theorem dX21_user_142 : decode cX21_user 142 = .ok (.getfield 687, 3) := by decide +kernel
theorem dX21_user_145 : decode cX21_user 145 = .ok (.aload_n 3, 1) := by decide +kernel
theorem dX21_user_146 : decode cX21_user 146 = .ok (.aastore, 1) := by decide +kernel
theorem dX21_user_147 : decode cX21_user 147 = .ok (.aload_n 0, 1) := by decide +kernel
theorem dX21_user_148 : decode cX21_user 148 = .ok (.getfield 73, 3) := by decide +kernel
theorem dX21_user_151 : decode cX21_user 151 = .ok (.aload_n 0, 1) := by decide +kernel
theorem dX21_user_152 : decode cX21_user 152 = .ok (.getfield 687, 3) := by decide +kernel
theorem dX21_user_155 : decode cX21_user 155 = .ok (.aload 4, 2) := by decide +kernel
theorem dX21_user_157 : decode cX21_user 157 = .ok (.aastore, 1) := by decide +kernel
theorem dX21_user_158 : decode cX21_user 158 = .ok (.aload_n 0, 1) := by decide +kernel
theorem dX21_user_159 : decode cX21_user 159 = .ok (.dup, 1) := by decide +kernel
theorem dX21_user_160 : decode cX21_user 160 = .ok (.getfield 687, 3) := by decide +kernel
theorem dX21_user_163 : decode cX21_user 163 = .ok (.iconst 1, 1) := by decide +kernel
theorem dX21_user_164 : decode cX21_user 164 = .ok (.iadd, 1) := by decide +kernel
theorem dX21_user_165 : decode cX21_user 165 = .ok (.putfield 687, 3) := by decide +kernel
theorem dX21_user_168 : decode cX21_user 168 = .ok (.aload_n 0, 1) := by decide +kernel
theorem dX21_user_169 : decode cX21_user 169 = .ok (.iconst 0, 1) := by decide +kernel
theorem dX21_user_170 : decode cX21_user 170 = .ok (.putfield 922, 3) := by decide +kernel
theorem dX21_user_173 : decode cX21_user 173 = .ok (.aload_n 0, 1) := by decide +kernel
theorem dX21_user_174 : decode cX21_user 174 = .ok (.getfield 687, 3) := by decide +kernel
theorem dX21_user_177 : decode cX21_user 177 = .ok (.ireturn, 1) := by decide +kernel
theorem dX21_allow_0 : decode cX21_allow 0 = .ok (.aload_n 0, 1) := by decide +kernel
theorem dX21_allow_1 : decode cX21_allow 1 = .ok (.iload_n 1, 1) := by decide +kernel
theorem dX21_allow_2 : decode cX21_allow 2 = .ok (.ifCond .lt 11, 3) := by decide +kernel
theorem dX21_allow_5 : decode cX21_allow 5 = .ok (.iload_n 1, 1) := by decide +kernel
theorem dX21_allow_6 : decode cX21_allow 6 = .ok (.aload_n 0, 1) := by decide +kernel
theorem dX21_allow_7 : decode cX21_allow 7 = .ok (.getfield 687, 3) := by decide +kernel
theorem dX21_allow_10 : decode cX21_allow 10 = .ok (.if_icmp .lt 7, 3) := by decide +kernel
theorem dX21_allow_13 : decode cX21_allow 13 = .ok (.iconst 1, 1) := by decide +kernel
theorem dX21_allow_14 : decode cX21_allow 14 = .ok (.goto 17, 3) := by decide +kernel
theorem dX21_allow_17 : decode cX21_allow 17 = .ok (.aload_n 0, 1) := by decide +kernel
theorem dX21_allow_18 : decode cX21_allow 18 = .ok (.getfield 922, 3) := by decide +kernel
theorem dX21_allow_21 : decode cX21_allow 21 = .ok (.bipush 32, 2) := by decide +kernel
theorem dX21_allow_23 : decode cX21_allow 23 = .ok (.if_icmp .eq 7, 3) := by decide +kernel
theorem dX21_allow_26 : decode cX21_allow 26 = .ok (.iconst 2, 1) := by decide +kernel
theorem dX21_allow_27 : decode cX21_allow 27 = .ok (.goto 4, 3) := by decide +kernel
theorem dX21_allow_30 : decode cX21_allow 30 = .ok (.iconst 0, 1) := by decide +kernel
theorem dX21_allow_31 : decode cX21_allow 31 = .ok (.putfield 145, 3) := by decide +kernel
theorem dX21_allow_34 : decode cX21_allow 34 = .ok (.aload_n 0, 1) := by decide +kernel
theorem dX21_allow_35 : decode cX21_allow 35 = .ok (.getfield 145, 3) := by decide +kernel
theorem dX21_allow_38 : decode cX21_allow 38 = .ok (.ifCond .le 4, 3) := by decide +kernel
theorem dX21_allow_41 : decode cX21_allow 41 = .ok (.return_, 1) := by decide +kernel
theorem dX21_allow_42 : decode cX21_allow 42 = .ok (.aload_n 0, 1) := by decide +kernel
theorem dX21_allow_43 : decode cX21_allow 43 = .ok (.getfield 76, 3) := by decide +kernel
theorem dX21_allow_46 : decode cX21_allow 46 = .ok (.iload_n 1, 1) := by decide +kernel
theorem dX21_allow_47 : decode cX21_allow 47 = .ok (.aload_n 0, 1) := by decide +kernel
theorem dX21_allow_48 : decode cX21_allow 48 = .ok (.iconst 0, 1) := by decide +kernel
theorem dX21_allow_49 : decode cX21_allow 49 = .ok (.bipush 32, 2) := by decide +kernel
theorem dX21_allow_51 : decode cX21_allow 51 = .ok (.invokevirtual 930, 3) := by decide +kernel
theorem dX21_allow_54 : decode cX21_allow 54 = .ok (.aastore, 1) := by decide +kernel
theorem dX21_allow_55 : decode cX21_allow 55 = .ok (.aload_n 0, 1) := by decide +kernel
theorem dX21_allow_56 : decode cX21_allow 56 = .ok (.iconst 0, 1) := by decide +kernel
theorem dX21_allow_57 : decode cX21_allow 57 = .ok (.putfield 922, 3) := by decide +kernel
theorem dX21_allow_60 : decode cX21_allow 60 = .ok (.return_, 1) := by decide +kernel
theorem dX21_none_0 : decode cX21_none 0 = .ok (.iload_n 0, 1) := by decide +kernel
theorem dX21_none_1 : decode cX21_none 1 = .ok (.ifCond .lt 8, 3) := by decide +kernel
theorem dX21_none_4 : decode cX21_none 4 = .ok (.iload_n 0, 1) := by decide +kernel
theorem dX21_none_5 : decode cX21_none 5 = .ok (.iconst 1, 1) := by decide +kernel
theorem dX21_none_6 : decode cX21_none 6 = .ok (.if_icmp .le 7, 3) := by decide +kernel
theorem dX21_none_9 : decode cX21_none 9 = .ok (.iconst 1, 1) := by decide +kernel
theorem dX21_none_10 : decode cX21_none 10 = .ok (.goto 4, 3) := by decide +kernel
theorem dX21_none_13 : decode cX21_none 13 = .ok (.iconst 0, 1) := by decide +kernel
theorem dX21_none_14 : decode cX21_none 14 = .ok (.ireturn, 1) := by decide +kernel
theorem dX21_set_0 : decode cX21_set 0 = .ok (.aload_n 0, 1) := by decide +kernel
theorem dX21_set_1 : decode cX21_set 1 = .ok (.iconst 0, 1) := by decide +kernel
theorem dX21_set_2 : decode cX21_set 2 = .ok (.putfield 145, 3) := by decide +kernel
theorem dX21_set_5 : decode cX21_set 5 = .ok (.iload_n 1, 1) := by decide +kernel
theorem dX21_set_6 : decode cX21_set 6 = .ok (.invokestatic 934, 3) := by decide +kernel
theorem dX21_set_9 : decode cX21_set 9 = .ok (.ifCond .ne 12, 3) := by decide +kernel
theorem dX21_set_12 : decode cX21_set 12 = .ok (.iload_n 2, 1) := by decide +kernel
theorem dX21_set_13 : decode cX21_set 13 = .ok (.ifCond .lt 8, 3) := by decide +kernel
theorem dX21_set_16 : decode cX21_set 16 = .ok (.iload_n 2, 1) := by decide +kernel
theorem dX21_set_17 : decode cX21_set 17 = .ok (.iconst 4, 1) := by decide +kernel
theorem dX21_set_18 : decode cX21_set 18 = .ok (.if_icmp .le 9, 3) := by decide +kernel
theorem dX21_set_21 : decode cX21_set 21 = .ok (.aload_n 0, 1) := by decide +kernel
theorem dX21_set_22 : decode cX21_set 22 = .ok (.iconst 1, 1) := by decide +kernel
theorem dX21_set_23 : decode cX21_set 23 = .ok (.invokevirtual 926, 3) := by decide +kernel
theorem dX21_set_26 : decode cX21_set 26 = .ok (.ireturn, 1) := by decide +kernel
theorem dX21_set_27 : decode cX21_set 27 = .ok (.iload_n 2, 1) := by decide +kernel
theorem dX21_set_28 : decode cX21_set 28 = .ok (.iconst 2, 1) := by decide +kernel
theorem dX21_set_29 : decode cX21_set 29 = .ok (.if_icmp .ge 33, 3) := by decide +kernel
theorem dX21_set_32 : decode cX21_set 32 = .ok (.iload_n 3, 1) := by decide +kernel
theorem dX21_set_33 : decode cX21_set 33 = .ok (.iconst 1, 1) := by decide +kernel
theorem dX21_set_34 : decode cX21_set 34 = .ok (.if_icmp .eq 20, 3) := by decide +kernel
theorem dX21_set_37 : decode cX21_set 37 = .ok (.iload_n 3, 1) := by decide +kernel
theorem dX21_set_38 : decode cX21_set 38 = .ok (.iconst 2, 1) := by decide +kernel
theorem dX21_set_39 : decode cX21_set 39 = .ok (.if_icmp .eq 15, 3) := by decide +kernel
theorem dX21_set_42 : decode cX21_set 42 = .ok (.iload_n 3, 1) := by decide +kernel
theorem dX21_set_43 : decode cX21_set 43 = .ok (.bipush 12, 2) := by decide +kernel
theorem dX21_set_45 : decode cX21_set 45 = .ok (.if_icmp .eq 9, 3) := by decide +kernel
theorem dX21_set_48 : decode cX21_set 48 = .ok (.iload_n 3, 1) := by decide +kernel
theorem dX21_set_49 : decode cX21_set 49 = .ok (.bipush 21, 2) := by decide +kernel
theorem dX21_set_51 : decode cX21_set 51 = .ok (.if_icmp .ne 7, 3) := by decide +kernel
theorem dX21_set_54 : decode cX21_set 54 = .ok (.iconst 1, 1) := by decide +kernel
theorem dX21_set_55 : decode cX21_set 55 = .ok (.goto 77, 3) := by decide +kernel
theorem dX21_set_58 : decode cX21_set 58 = .ok (.iconst 0, 1) := by decide +kernel
theorem dX21_set_59 : decode cX21_set 59 = .ok (.goto 73, 3) := by decide +kernel
theorem dX21_set_62 : decode cX21_set 62 = .ok (.iload_n 2, 1) := by decide +kernel
theorem dX21_set_63 : decode cX21_set 63 = .ok (.iconst 2, 1) := by decide +kernel
theorem dX21_set_64 : decode cX21_set 64 = .ok (.if_icmp .ne 23, 3) := by decide +kernel
theorem dX21_set_67 : decode cX21_set 67 = .ok (.iload_n 3, 1) := by decide +kernel
theorem dX21_set_68 : decode cX21_set 68 = .ok (.iconst 1, 1) := by decide +kernel
theorem dX21_set_69 : decode cX21_set 69 = .ok (.if_icmp .lt 14, 3) := by decide +kernel
theorem dX21_set_72 : decode cX21_set 72 = .ok (.iload_n 3, 1) := by decide +kernel
theorem dX21_set_73 : decode cX21_set 73 = .ok (.sipush 16384, 3) := by decide +kernel
theorem dX21_set_76 : decode cX21_set 76 = .ok (.if_icmp .gt 7, 3) := by decide +kernel
theorem dX21_set_79 : decode cX21_set 79 = .ok (.iconst 1, 1) := by decide +kernel
theorem dX21_set_80 : decode cX21_set 80 = .ok (.goto 52, 3) := by decide +kernel
theorem dX21_set_83 : decode cX21_set 83 = .ok (.iconst 0, 1) := by decide +kernel
theorem dX21_set_84 : decode cX21_set 84 = .ok (.goto 48, 3) := by decide +kernel
theorem dX21_set_87 : decode cX21_set 87 = .ok (.iload_n 2, 1) := by decide +kernel
theorem dX21_set_88 : decode cX21_set 88 = .ok (.iconst 3, 1) := by decide +kernel
theorem dX21_set_89 : decode cX21_set 89 = .ok (.if_icmp .ne 24, 3) := by decide +kernel
theorem dX21_set_92 : decode cX21_set 92 = .ok (.iload_n 3, 1) := by decide +kernel
theorem dX21_set_93 : decode cX21_set 93 = .ok (.bipush 16, 2) := by decide +kernel
theorem dX21_set_95 : decode cX21_set 95 = .ok (.if_icmp .lt 14, 3) := by decide +kernel
theorem dX21_set_98 : decode cX21_set 98 = .ok (.iload_n 3, 1) := by decide +kernel
theorem dX21_set_99 : decode cX21_set 99 = .ok (.ldc_w 936, 3) := by decide +kernel
theorem dX21_set_102 : decode cX21_set 102 = .ok (.if_icmp .gt 7, 3) := by decide +kernel
theorem dX21_set_105 : decode cX21_set 105 = .ok (.iconst 1, 1) := by decide +kernel
theorem dX21_set_106 : decode cX21_set 106 = .ok (.goto 26, 3) := by decide +kernel
theorem dX21_set_109 : decode cX21_set 109 = .ok (.iconst 0, 1) := by decide +kernel
theorem dX21_set_110 : decode cX21_set 110 = .ok (.goto 22, 3) := by decide +kernel
theorem dX21_set_113 : decode cX21_set 113 = .ok (.iload_n 3, 1) := by decide +kernel
theorem dX21_set_114 : decode cX21_set 114 = .ok (.sipush 256, 3) := by decide +kernel
theorem dX21_set_117 : decode cX21_set 117 = .ok (.if_icmp .lt 14, 3) := by decide +kernel
theorem dX21_set_120 : decode cX21_set 120 = .ok (.iload_n 3, 1) := by decide +kernel
theorem dX21_set_121 : decode cX21_set 121 = .ok (.ldc_w 937, 3) := by decide +kernel
theorem dX21_set_124 : decode cX21_set 124 = .ok (.if_icmp .gt 7, 3) := by decide +kernel
theorem dX21_set_127 : decode cX21_set 127 = .ok (.iconst 1, 1) := by decide +kernel
theorem dX21_set_128 : decode cX21_set 128 = .ok (.goto 4, 3) := by decide +kernel
theorem dX21_set_131 : decode cX21_set 131 = .ok (.iconst 0, 1) := by decide +kernel
theorem dX21_set_132 : decode cX21_set 132 = .ok (.istore 4, 2) := by decide +kernel
theorem dX21_set_134 : decode cX21_set 134 = .ok (.iload 4, 2) := by decide +kernel
theorem dX21_set_136 : decode cX21_set 136 = .ok (.ifCond .ne 9, 3) := by decide +kernel
theorem dX21_set_139 : decode cX21_set 139 = .ok (.aload_n 0, 1) := by decide +kernel
theorem dX21_set_140 : decode cX21_set 140 = .ok (.iconst 2, 1) := by decide +kernel
theorem dX21_set_141 : decode cX21_set 141 = .ok (.invokevirtual 926, 3) := by decide +kernel
theorem dX21_set_144 : decode cX21_set 144 = .ok (.ireturn, 1) := by decide +kernel
theorem dX21_set_145 : decode cX21_set 145 = .ok (.aload_n 0, 1) := by decide +kernel
theorem dX21_set_146 : decode cX21_set 146 = .ok (.getfield 45, 3) := by decide +kernel
theorem dX21_set_149 : decode cX21_set 149 = .ok (.iload_n 1, 1) := by decide +kernel
theorem dX21_set_150 : decode cX21_set 150 = .ok (.aaload, 1) := by decide +kernel
theorem dX21_set_151 : decode cX21_set 151 = .ok (.getfield 272, 3) := by decide +kernel
theorem dX21_set_154 : decode cX21_set 154 = .ok (.iload_n 2, 1) := by decide +kernel
theorem dX21_set_155 : decode cX21_set 155 = .ok (.iaload, 1) := by decide +kernel
theorem dX21_set_156 : decode cX21_set 156 = .ok (.istore 5, 2) := by decide +kernel
theorem dX21_set_158 : decode cX21_set 158 = .ok (.aload_n 0, 1) := by decide +kernel
theorem dX21_set_159 : decode cX21_set 159 = .ok (.getfield 45, 3) := by decide +kernel
theorem dX21_set_162 : decode cX21_set 162 = .ok (.iload_n 1, 1) := by decide +kernel
theorem dX21_set_163 : decode cX21_set 163 = .ok (.aaload, 1) := by decide +kernel
theorem dX21_set_164 : decode cX21_set 164 = .ok (.getfield 272, 3) := by decide +kernel
theorem dX21_set_167 : decode cX21_set 167 = .ok (.iload_n 2, 1) := by decide +kernel
theorem dX21_set_168 : decode cX21_set 168 = .ok (.iload_n 3, 1) := by decide +kernel
theorem dX21_set_169 : decode cX21_set 169 = .ok (.iastore, 1) := by decide +kernel
theorem dX21_set_170 : decode cX21_set 170 = .ok (.iload 5, 2) := by decide +kernel
theorem dX21_set_172 : decode cX21_set 172 = .ok (.ireturn, 1) := by decide +kernel
theorem dX21_port_0 : decode cX21_port 0 = .ok (.aload_n 0, 1) := by decide +kernel
theorem dX21_port_1 : decode cX21_port 1 = .ok (.iload_n 1, 1) := by decide +kernel
theorem dX21_port_2 : decode cX21_port 2 = .ok (.iconst 1, 1) := by decide +kernel
theorem dX21_port_3 : decode cX21_port 3 = .ok (.if_icmp .lt 10, 3) := by decide +kernel
theorem dX21_port_6 : decode cX21_port 6 = .ok (.iload_n 1, 1) := by decide +kernel
theorem dX21_port_7 : decode cX21_port 7 = .ok (.ldc_w 938, 3) := by decide +kernel
theorem dX21_port_10 : decode cX21_port 10 = .ok (.if_icmp .le 7, 3) := by decide +kernel
theorem dX21_port_13 : decode cX21_port 13 = .ok (.iconst 1, 1) := by decide +kernel
theorem dX21_port_14 : decode cX21_port 14 = .ok (.goto 4, 3) := by decide +kernel
theorem dX21_port_17 : decode cX21_port 17 = .ok (.iconst 0, 1) := by decide +kernel
theorem dX21_port_18 : decode cX21_port 18 = .ok (.putfield 145, 3) := by decide +kernel
theorem dX21_port_21 : decode cX21_port 21 = .ok (.aload_n 0, 1) := by decide +kernel
theorem dX21_port_22 : decode cX21_port 22 = .ok (.getfield 145, 3) := by decide +kernel
theorem dX21_port_25 : decode cX21_port 25 = .ok (.ifCond .le 4, 3) := by decide +kernel
theorem dX21_port_28 : decode cX21_port 28 = .ok (.return_, 1) := by decide +kernel
theorem dX21_port_29 : decode cX21_port 29 = .ok (.aload_n 0, 1) := by decide +kernel
theorem dX21_port_30 : decode cX21_port 30 = .ok (.getfield 79, 3) := by decide +kernel
theorem dX21_port_33 : decode cX21_port 33 = .ok (.iload_n 1, 1) := by decide +kernel
theorem dX21_port_34 : decode cX21_port 34 = .ok (.baload, 1) := by decide +kernel
theorem dX21_port_35 : decode cX21_port 35 = .ok (.iload_n 2, 1) := by decide +kernel
theorem dX21_port_36 : decode cX21_port 36 = .ok (.if_icmp .eq 21, 3) := by decide +kernel
theorem dX21_port_39 : decode cX21_port 39 = .ok (.aload_n 0, 1) := by decide +kernel
theorem dX21_port_40 : decode cX21_port 40 = .ok (.dup, 1) := by decide +kernel
theorem dX21_port_41 : decode cX21_port 41 = .ok (.getfield 939, 3) := by decide +kernel
theorem dX21_port_44 : decode cX21_port 44 = .ok (.iload_n 2, 1) := by decide +kernel
theorem dX21_port_45 : decode cX21_port 45 = .ok (.ifCond .eq 7, 3) := by decide +kernel
theorem dX21_port_48 : decode cX21_port 48 = .ok (.iconst 1, 1) := by decide +kernel
theorem dX21_port_49 : decode cX21_port 49 = .ok (.goto 4, 3) := by decide +kernel
theorem dX21_port_52 : decode cX21_port 52 = .ok (.iconst (-1), 1) := by decide +kernel
theorem dX21_port_53 : decode cX21_port 53 = .ok (.iadd, 1) := by decide +kernel
theorem dX21_port_54 : decode cX21_port 54 = .ok (.putfield 939, 3) := by decide +kernel
theorem dX21_port_57 : decode cX21_port 57 = .ok (.aload_n 0, 1) := by decide +kernel
theorem dX21_port_58 : decode cX21_port 58 = .ok (.getfield 79, 3) := by decide +kernel
theorem dX21_port_61 : decode cX21_port 61 = .ok (.iload_n 1, 1) := by decide +kernel
theorem dX21_port_62 : decode cX21_port 62 = .ok (.iload_n 2, 1) := by decide +kernel
theorem dX21_port_63 : decode cX21_port 63 = .ok (.bastore, 1) := by decide +kernel
theorem dX21_port_64 : decode cX21_port 64 = .ok (.return_, 1) := by decide +kernel
theorem dX21_start_0 : decode cX21_start 0 = .ok (.aload_n 0, 1) := by decide +kernel
theorem dX21_start_1 : decode cX21_start 1 = .ok (.aload_n 0, 1) := by decide +kernel
theorem dX21_start_2 : decode cX21_start 2 = .ok (.getfield 451, 3) := by decide +kernel
theorem dX21_start_5 : decode cX21_start 5 = .ok (.ifnonnull 7, 3) := by decide +kernel
theorem dX21_start_8 : decode cX21_start 8 = .ok (.iconst 1, 1) := by decide +kernel
theorem dX21_start_9 : decode cX21_start 9 = .ok (.goto 4, 3) := by decide +kernel
theorem dX21_start_12 : decode cX21_start 12 = .ok (.iconst 0, 1) := by decide +kernel
theorem dX21_start_13 : decode cX21_start 13 = .ok (.putfield 145, 3) := by decide +kernel
theorem dX21_start_16 : decode cX21_start 16 = .ok (.aload_n 0, 1) := by decide +kernel
theorem dX21_start_17 : decode cX21_start 17 = .ok (.getfield 145, 3) := by decide +kernel
theorem dX21_start_20 : decode cX21_start 20 = .ok (.ifCond .le 4, 3) := by decide +kernel
theorem dX21_start_23 : decode cX21_start 23 = .ok (.return_, 1) := by decide +kernel
theorem dX21_start_24 : decode cX21_start 24 = .ok (.aload_n 0, 1) := by decide +kernel
theorem dX21_start_25 : decode cX21_start 25 = .ok (.getfield 55, 3) := by decide +kernel
theorem dX21_start_28 : decode cX21_start 28 = .ok (.iconst 0, 1) := by decide +kernel
theorem dX21_start_29 : decode cX21_start 29 = .ok (.aaload, 1) := by decide +kernel
theorem dX21_start_30 : decode cX21_start 30 = .ok (.invokevirtual 171, 3) := by decide +kernel
theorem dX21_start_33 : decode cX21_start 33 = .ok (.aload_n 0, 1) := by decide +kernel
theorem dX21_start_34 : decode cX21_start 34 = .ok (.getfield 55, 3) := by decide +kernel
theorem dX21_start_37 : decode cX21_start 37 = .ok (.iconst 1, 1) := by decide +kernel
theorem dX21_start_38 : decode cX21_start 38 = .ok (.aaload, 1) := by decide +kernel
theorem dX21_start_39 : decode cX21_start 39 = .ok (.invokevirtual 171, 3) := by decide +kernel
theorem dX21_start_42 : decode cX21_start 42 = .ok (.aload_n 0, 1) := by decide +kernel
theorem dX21_start_43 : decode cX21_start 43 = .ok (.aconst_null, 1) := by decide +kernel
theorem dX21_start_44 : decode cX21_start 44 = .ok (.putfield 469, 3) := by decide +kernel
theorem dX21_start_47 : decode cX21_start 47 = .ok (.aload_n 0, 1) := by decide +kernel
theorem dX21_start_48 : decode cX21_start 48 = .ok (.aconst_null, 1) := by decide +kernel
theorem dX21_start_49 : decode cX21_start 49 = .ok (.putfield 484, 3) := by decide +kernel
theorem dX21_start_52 : decode cX21_start 52 = .ok (.aload_n 0, 1) := by decide +kernel
theorem dX21_start_53 : decode cX21_start 53 = .ok (.aload_n 0, 1) := by decide +kernel
theorem dX21_start_54 : decode cX21_start 54 = .ok (.getfield 45, 3) := by decide +kernel
theorem dX21_start_57 : decode cX21_start 57 = .ok (.iconst 0, 1) := by decide +kernel
theorem dX21_start_58 : decode cX21_start 58 = .ok (.aaload, 1) := by decide +kernel
theorem dX21_start_59 : decode cX21_start 59 = .ok (.invokevirtual 942, 3) := by decide +kernel
theorem dX21_start_62 : decode cX21_start 62 = .ok (.aload_n 0, 1) := by decide +kernel
theorem dX21_start_63 : decode cX21_start 63 = .ok (.aload_n 0, 1) := by decide +kernel
theorem dX21_start_64 : decode cX21_start 64 = .ok (.getfield 45, 3) := by decide +kernel
theorem dX21_start_67 : decode cX21_start 67 = .ok (.iconst 1, 1) := by decide +kernel
theorem dX21_start_68 : decode cX21_start 68 = .ok (.aaload, 1) := by decide +kernel
theorem dX21_start_69 : decode cX21_start 69 = .ok (.invokevirtual 942, 3) := by decide +kernel
theorem dX21_start_72 : decode cX21_start 72 = .ok (.return_, 1) := by decide +kernel
theorem dX21_move_0 : decode cX21_move 0 = .ok (.aload_n 0, 1) := by decide +kernel
theorem dX21_move_1 : decode cX21_move 1 = .ok (.iconst 0, 1) := by decide +kernel
theorem dX21_move_2 : decode cX21_move 2 = .ok (.putfield 145, 3) := by decide +kernel
theorem dX21_move_5 : decode cX21_move 5 = .ok (.iload_n 1, 1) := by decide +kernel
theorem dX21_move_6 : decode cX21_move 6 = .ok (.invokestatic 934, 3) := by decide +kernel
theorem dX21_move_9 : decode cX21_move 9 = .ok (.ifCond .eq 9, 3) := by decide +kernel
theorem dX21_move_12 : decode cX21_move 12 = .ok (.aload_n 0, 1) := by decide +kernel
theorem dX21_move_13 : decode cX21_move 13 = .ok (.iconst 1, 1) := by decide +kernel
theorem dX21_move_14 : decode cX21_move 14 = .ok (.invokevirtual 926, 3) := by decide +kernel
theorem dX21_move_17 : decode cX21_move 17 = .ok (.ireturn, 1) := by decide +kernel
theorem dX21_move_18 : decode cX21_move 18 = .ok (.iload_n 2, 1) := by decide +kernel
theorem dX21_move_19 : decode cX21_move 19 = .ok (.iconst 1, 1) := by decide +kernel
theorem dX21_move_20 : decode cX21_move 20 = .ok (.if_icmp .ge 9, 3) := by decide +kernel
theorem dX21_move_23 : decode cX21_move 23 = .ok (.aload_n 0, 1) := by decide +kernel
theorem dX21_move_24 : decode cX21_move 24 = .ok (.iconst 2, 1) := by decide +kernel
theorem dX21_move_25 : decode cX21_move 25 = .ok (.invokevirtual 926, 3) := by decide +kernel
theorem dX21_move_28 : decode cX21_move 28 = .ok (.ireturn, 1) := by decide +kernel
theorem dX21_move_29 : decode cX21_move 29 = .ok (.iload_n 2, 1) := by decide +kernel
theorem dX21_move_30 : decode cX21_move 30 = .ok (.aload_n 0, 1) := by decide +kernel
theorem dX21_move_31 : decode cX21_move 31 = .ok (.getfield 55, 3) := by decide +kernel
theorem dX21_move_34 : decode cX21_move 34 = .ok (.iload_n 1, 1) := by decide +kernel
theorem dX21_move_35 : decode cX21_move 35 = .ok (.aaload, 1) := by decide +kernel
theorem dX21_move_36 : decode cX21_move 36 = .ok (.invokevirtual 224, 3) := by decide +kernel
theorem dX21_move_39 : decode cX21_move 39 = .ok (.invokestatic 944, 3) := by decide +kernel
theorem dX21_move_42 : decode cX21_move 42 = .ok (.istore_n 3, 1) := by decide +kernel
theorem dX21_move_43 : decode cX21_move 43 = .ok (.iconst 0, 1) := by decide +kernel
theorem dX21_move_44 : decode cX21_move 44 = .ok (.istore 4, 2) := by decide +kernel
theorem dX21_move_46 : decode cX21_move 46 = .ok (.iload 4, 2) := by decide +kernel
theorem dX21_move_48 : decode cX21_move 48 = .ok (.iload_n 3, 1) := by decide +kernel
theorem dX21_move_49 : decode cX21_move 49 = .ok (.if_icmp .ge 28, 3) := by decide +kernel
theorem dX21_move_52 : decode cX21_move 52 = .ok (.aload_n 0, 1) := by decide +kernel
theorem dX21_move_53 : decode cX21_move 53 = .ok (.aload_n 0, 1) := by decide +kernel
theorem dX21_move_54 : decode cX21_move 54 = .ok (.getfield 45, 3) := by decide +kernel
theorem dX21_move_57 : decode cX21_move 57 = .ok (.iload_n 1, 1) := by decide +kernel
theorem dX21_move_58 : decode cX21_move 58 = .ok (.aaload, 1) := by decide +kernel
theorem dX21_move_59 : decode cX21_move 59 = .ok (.aload_n 0, 1) := by decide +kernel
theorem dX21_move_60 : decode cX21_move 60 = .ok (.getfield 55, 3) := by decide +kernel
theorem dX21_move_63 : decode cX21_move 63 = .ok (.iload_n 1, 1) := by decide +kernel
theorem dX21_move_64 : decode cX21_move 64 = .ok (.aaload, 1) := by decide +kernel
theorem dX21_move_65 : decode cX21_move 65 = .ok (.invokevirtual 947, 3) := by decide +kernel
theorem dX21_move_68 : decode cX21_move 68 = .ok (.invokevirtual 949, 3) := by decide +kernel
theorem dX21_move_71 : decode cX21_move 71 = .ok (.iinc 4 1, 3) := by decide +kernel
theorem dX21_move_74 : decode cX21_move 74 = .ok (.goto (-28), 3) := by decide +kernel
theorem dX21_move_77 : decode cX21_move 77 = .ok (.aload_n 0, 1) := by decide +kernel
theorem dX21_move_78 : decode cX21_move 78 = .ok (.getfield 55, 3) := by decide +kernel
theorem dX21_move_81 : decode cX21_move 81 = .ok (.iload_n 1, 1) := by decide +kernel
theorem dX21_move_82 : decode cX21_move 82 = .ok (.aaload, 1) := by decide +kernel
theorem dX21_move_83 : decode cX21_move 83 = .ok (.invokevirtual 224, 3) := by decide +kernel
theorem dX21_move_86 : decode cX21_move 86 = .ok (.ireturn, 1) := by decide +kernel
theorem dX21_flip_0 : decode cX21_flip 0 = .ok (.aload_n 0, 1) := by decide +kernel
theorem dX21_flip_1 : decode cX21_flip 1 = .ok (.iconst 0, 1) := by decide +kernel
theorem dX21_flip_2 : decode cX21_flip 2 = .ok (.putfield 145, 3) := by decide +kernel
theorem dX21_flip_5 : decode cX21_flip 5 = .ok (.iload_n 1, 1) := by decide +kernel
theorem dX21_flip_6 : decode cX21_flip 6 = .ok (.invokestatic 934, 3) := by decide +kernel
theorem dX21_flip_9 : decode cX21_flip 9 = .ok (.ifCond .eq 9, 3) := by decide +kernel
theorem dX21_flip_12 : decode cX21_flip 12 = .ok (.aload_n 0, 1) := by decide +kernel
theorem dX21_flip_13 : decode cX21_flip 13 = .ok (.iconst 1, 1) := by decide +kernel
theorem dX21_flip_14 : decode cX21_flip 14 = .ok (.invokevirtual 926, 3) := by decide +kernel
theorem dX21_flip_17 : decode cX21_flip 17 = .ok (.ireturn, 1) := by decide +kernel
theorem dX21_flip_18 : decode cX21_flip 18 = .ok (.iload_n 2, 1) := by decide +kernel
theorem dX21_flip_19 : decode cX21_flip 19 = .ok (.ifCond .lt 16, 3) := by decide +kernel
theorem dX21_flip_22 : decode cX21_flip 22 = .ok (.iload_n 2, 1) := by decide +kernel
theorem dX21_flip_23 : decode cX21_flip 23 = .ok (.aload_n 0, 1) := by decide +kernel
theorem dX21_flip_24 : decode cX21_flip 24 = .ok (.getfield 55, 3) := by decide +kernel
theorem dX21_flip_27 : decode cX21_flip 27 = .ok (.iload_n 1, 1) := by decide +kernel
theorem dX21_flip_28 : decode cX21_flip 28 = .ok (.aaload, 1) := by decide +kernel
theorem dX21_flip_29 : decode cX21_flip 29 = .ok (.invokevirtual 224, 3) := by decide +kernel
theorem dX21_flip_32 : decode cX21_flip 32 = .ok (.if_icmp .lt 9, 3) := by decide +kernel
theorem dX21_flip_35 : decode cX21_flip 35 = .ok (.aload_n 0, 1) := by decide +kernel
theorem dX21_flip_36 : decode cX21_flip 36 = .ok (.iconst 2, 1) := by decide +kernel
theorem dX21_flip_37 : decode cX21_flip 37 = .ok (.invokevirtual 926, 3) := by decide +kernel
theorem dX21_flip_40 : decode cX21_flip 40 = .ok (.ireturn, 1) := by decide +kernel
theorem dX21_flip_41 : decode cX21_flip 41 = .ok (.aload_n 0, 1) := by decide +kernel
theorem dX21_flip_42 : decode cX21_flip 42 = .ok (.getfield 55, 3) := by decide +kernel
theorem dX21_flip_45 : decode cX21_flip 45 = .ok (.iload_n 1, 1) := by decide +kernel
theorem dX21_flip_46 : decode cX21_flip 46 = .ok (.aaload, 1) := by decide +kernel
theorem dX21_flip_47 : decode cX21_flip 47 = .ok (.getfield 185, 3) := by decide +kernel
theorem dX21_flip_50 : decode cX21_flip 50 = .ok (.aload_n 0, 1) := by decide +kernel
theorem dX21_flip_51 : decode cX21_flip 51 = .ok (.getfield 55, 3) := by decide +kernel
theorem dX21_flip_54 : decode cX21_flip 54 = .ok (.iload_n 1, 1) := by decide +kernel
theorem dX21_flip_55 : decode cX21_flip 55 = .ok (.aaload, 1) := by decide +kernel
theorem dX21_flip_56 : decode cX21_flip 56 = .ok (.getfield 524, 3) := by decide +kernel
theorem dX21_flip_59 : decode cX21_flip 59 = .ok (.iload_n 2, 1) := by decide +kernel
theorem dX21_flip_60 : decode cX21_flip 60 = .ok (.iadd, 1) := by decide +kernel
theorem dX21_flip_61 : decode cX21_flip 61 = .ok (.dup2, 1) := by decide +kernel
theorem dX21_flip_62 : decode cX21_flip 62 = .ok (.baload, 1) := by decide +kernel
theorem dX21_flip_63 : decode cX21_flip 63 = .ok (.iload_n 3, 1) := by decide +kernel
theorem dX21_flip_64 : decode cX21_flip 64 = .ok (.i2b, 1) := by decide +kernel
theorem dX21_flip_65 : decode cX21_flip 65 = .ok (.ixor, 1) := by decide +kernel
theorem dX21_flip_66 : decode cX21_flip 66 = .ok (.i2b, 1) := by decide +kernel
theorem dX21_flip_67 : decode cX21_flip 67 = .ok (.bastore, 1) := by decide +kernel
theorem dX21_flip_68 : decode cX21_flip 68 = .ok (.aload_n 0, 1) := by decide +kernel
theorem dX21_flip_69 : decode cX21_flip 69 = .ok (.getfield 55, 3) := by decide +kernel
theorem dX21_flip_72 : decode cX21_flip 72 = .ok (.iload_n 1, 1) := by decide +kernel
theorem dX21_flip_73 : decode cX21_flip 73 = .ok (.aaload, 1) := by decide +kernel
theorem dX21_flip_74 : decode cX21_flip 74 = .ok (.getfield 185, 3) := by decide +kernel
theorem dX21_flip_77 : decode cX21_flip 77 = .ok (.aload_n 0, 1) := by decide +kernel
theorem dX21_flip_78 : decode cX21_flip 78 = .ok (.getfield 55, 3) := by decide +kernel
theorem dX21_flip_81 : decode cX21_flip 81 = .ok (.iload_n 1, 1) := by decide +kernel
theorem dX21_flip_82 : decode cX21_flip 82 = .ok (.aaload, 1) := by decide +kernel
theorem dX21_flip_83 : decode cX21_flip 83 = .ok (.getfield 524, 3) := by decide +kernel
theorem dX21_flip_86 : decode cX21_flip 86 = .ok (.iload_n 2, 1) := by decide +kernel
theorem dX21_flip_87 : decode cX21_flip 87 = .ok (.iadd, 1) := by decide +kernel
theorem dX21_flip_88 : decode cX21_flip 88 = .ok (.baload, 1) := by decide +kernel
theorem dX21_flip_89 : decode cX21_flip 89 = .ok (.sipush 255, 3) := by decide +kernel
theorem dX21_flip_92 : decode cX21_flip 92 = .ok (.iand, 1) := by decide +kernel
theorem dX21_flip_93 : decode cX21_flip 93 = .ok (.ireturn, 1) := by decide +kernel
theorem dX21_seen_0 : decode cX21_seen 0 = .ok (.aload_n 0, 1) := by decide +kernel
theorem dX21_seen_1 : decode cX21_seen 1 = .ok (.iconst 0, 1) := by decide +kernel
theorem dX21_seen_2 : decode cX21_seen 2 = .ok (.putfield 145, 3) := by decide +kernel
theorem dX21_seen_5 : decode cX21_seen 5 = .ok (.iload_n 1, 1) := by decide +kernel
theorem dX21_seen_6 : decode cX21_seen 6 = .ok (.invokestatic 934, 3) := by decide +kernel
theorem dX21_seen_9 : decode cX21_seen 9 = .ok (.ifCond .eq 9, 3) := by decide +kernel
theorem dX21_seen_12 : decode cX21_seen 12 = .ok (.aload_n 0, 1) := by decide +kernel
theorem dX21_seen_13 : decode cX21_seen 13 = .ok (.iconst 1, 1) := by decide +kernel
theorem dX21_seen_14 : decode cX21_seen 14 = .ok (.invokevirtual 926, 3) := by decide +kernel
theorem dX21_seen_17 : decode cX21_seen 17 = .ok (.ireturn, 1) := by decide +kernel
theorem dX21_seen_18 : decode cX21_seen 18 = .ok (.iload_n 2, 1) := by decide +kernel
theorem dX21_seen_19 : decode cX21_seen 19 = .ok (.ifCond .lt 16, 3) := by decide +kernel
theorem dX21_seen_22 : decode cX21_seen 22 = .ok (.iload_n 2, 1) := by decide +kernel
theorem dX21_seen_23 : decode cX21_seen 23 = .ok (.aload_n 0, 1) := by decide +kernel
theorem dX21_seen_24 : decode cX21_seen 24 = .ok (.getfield 55, 3) := by decide +kernel
theorem dX21_seen_27 : decode cX21_seen 27 = .ok (.iload_n 1, 1) := by decide +kernel
theorem dX21_seen_28 : decode cX21_seen 28 = .ok (.aaload, 1) := by decide +kernel
theorem dX21_seen_29 : decode cX21_seen 29 = .ok (.invokevirtual 224, 3) := by decide +kernel
theorem dX21_seen_32 : decode cX21_seen 32 = .ok (.if_icmp .lt 9, 3) := by decide +kernel
theorem dX21_seen_35 : decode cX21_seen 35 = .ok (.aload_n 0, 1) := by decide +kernel
theorem dX21_seen_36 : decode cX21_seen 36 = .ok (.iconst 2, 1) := by decide +kernel
theorem dX21_seen_37 : decode cX21_seen 37 = .ok (.invokevirtual 926, 3) := by decide +kernel
theorem dX21_seen_40 : decode cX21_seen 40 = .ok (.ireturn, 1) := by decide +kernel
theorem dX21_seen_41 : decode cX21_seen 41 = .ok (.aload_n 0, 1) := by decide +kernel
theorem dX21_seen_42 : decode cX21_seen 42 = .ok (.getfield 55, 3) := by decide +kernel
theorem dX21_seen_45 : decode cX21_seen 45 = .ok (.iload_n 1, 1) := by decide +kernel
theorem dX21_seen_46 : decode cX21_seen 46 = .ok (.aaload, 1) := by decide +kernel
theorem dX21_seen_47 : decode cX21_seen 47 = .ok (.getfield 185, 3) := by decide +kernel
theorem dX21_seen_50 : decode cX21_seen 50 = .ok (.aload_n 0, 1) := by decide +kernel
theorem dX21_seen_51 : decode cX21_seen 51 = .ok (.getfield 55, 3) := by decide +kernel
theorem dX21_seen_54 : decode cX21_seen 54 = .ok (.iload_n 1, 1) := by decide +kernel
theorem dX21_seen_55 : decode cX21_seen 55 = .ok (.aaload, 1) := by decide +kernel
theorem dX21_seen_56 : decode cX21_seen 56 = .ok (.getfield 524, 3) := by decide +kernel
theorem dX21_seen_59 : decode cX21_seen 59 = .ok (.iload_n 2, 1) := by decide +kernel
theorem dX21_seen_60 : decode cX21_seen 60 = .ok (.iadd, 1) := by decide +kernel
theorem dX21_seen_61 : decode cX21_seen 61 = .ok (.baload, 1) := by decide +kernel
theorem dX21_seen_62 : decode cX21_seen 62 = .ok (.sipush 255, 3) := by decide +kernel
theorem dX21_seen_65 : decode cX21_seen 65 = .ok (.iand, 1) := by decide +kernel
theorem dX21_seen_66 : decode cX21_seen 66 = .ok (.ireturn, 1) := by decide +kernel
theorem dX21_inject_0 : decode cX21_inject 0 = .ok (.aload_n 0, 1) := by decide +kernel
theorem dX21_inject_1 : decode cX21_inject 1 = .ok (.iconst 0, 1) := by decide +kernel
theorem dX21_inject_2 : decode cX21_inject 2 = .ok (.putfield 145, 3) := by decide +kernel
theorem dX21_inject_5 : decode cX21_inject 5 = .ok (.iload_n 1, 1) := by decide +kernel
theorem dX21_inject_6 : decode cX21_inject 6 = .ok (.invokestatic 934, 3) := by decide +kernel
theorem dX21_inject_9 : decode cX21_inject 9 = .ok (.ifCond .eq 9, 3) := by decide +kernel
theorem dX21_inject_12 : decode cX21_inject 12 = .ok (.aload_n 0, 1) := by decide +kernel
theorem dX21_inject_13 : decode cX21_inject 13 = .ok (.iconst 1, 1) := by decide +kernel
theorem dX21_inject_14 : decode cX21_inject 14 = .ok (.invokevirtual 926, 3) := by decide +kernel
theorem dX21_inject_17 : decode cX21_inject 17 = .ok (.ireturn, 1) := by decide +kernel
theorem dX21_inject_18 : decode cX21_inject 18 = .ok (.aload_n 0, 1) := by decide +kernel
theorem dX21_inject_19 : decode cX21_inject 19 = .ok (.getfield 55, 3) := by decide +kernel
theorem dX21_inject_22 : decode cX21_inject 22 = .ok (.iload_n 1, 1) := by decide +kernel
theorem dX21_inject_23 : decode cX21_inject 23 = .ok (.aaload, 1) := by decide +kernel
theorem dX21_inject_24 : decode cX21_inject 24 = .ok (.invokevirtual 224, 3) := by decide +kernel
theorem dX21_inject_27 : decode cX21_inject 27 = .ok (.aload_n 0, 1) := by decide +kernel
theorem dX21_inject_28 : decode cX21_inject 28 = .ok (.getfield 922, 3) := by decide +kernel
theorem dX21_inject_31 : decode cX21_inject 31 = .ok (.iadd, 1) := by decide +kernel
theorem dX21_inject_32 : decode cX21_inject 32 = .ok (.ldc 228, 2) := by decide +kernel
theorem dX21_inject_34 : decode cX21_inject 34 = .ok (.if_icmp .le 9, 3) := by decide +kernel
theorem dX21_inject_37 : decode cX21_inject 37 = .ok (.aload_n 0, 1) := by decide +kernel
theorem dX21_inject_38 : decode cX21_inject 38 = .ok (.iconst 2, 1) := by decide +kernel
theorem dX21_inject_39 : decode cX21_inject 39 = .ok (.invokevirtual 926, 3) := by decide +kernel
theorem dX21_inject_42 : decode cX21_inject 42 = .ok (.ireturn, 1) := by decide +kernel
theorem dX21_inject_43 : decode cX21_inject 43 = .ok (.aload_n 0, 1) := by decide +kernel
theorem dX21_inject_44 : decode cX21_inject 44 = .ok (.getfield 55, 3) := by decide +kernel
theorem dX21_inject_47 : decode cX21_inject 47 = .ok (.iload_n 1, 1) := by decide +kernel
theorem dX21_inject_48 : decode cX21_inject 48 = .ok (.aaload, 1) := by decide +kernel
theorem dX21_inject_49 : decode cX21_inject 49 = .ok (.aload_n 0, 1) := by decide +kernel
theorem dX21_inject_50 : decode cX21_inject 50 = .ok (.getfield 8, 3) := by decide +kernel
theorem dX21_inject_53 : decode cX21_inject 53 = .ok (.iconst 0, 1) := by decide +kernel
theorem dX21_inject_54 : decode cX21_inject 54 = .ok (.aload_n 0, 1) := by decide +kernel
theorem dX21_inject_55 : decode cX21_inject 55 = .ok (.getfield 922, 3) := by decide +kernel
theorem dX21_inject_58 : decode cX21_inject 58 = .ok (.invokevirtual 178, 3) := by decide +kernel
theorem dX21_inject_61 : decode cX21_inject 61 = .ok (.aload_n 0, 1) := by decide +kernel
theorem dX21_inject_62 : decode cX21_inject 62 = .ok (.iconst 0, 1) := by decide +kernel
theorem dX21_inject_63 : decode cX21_inject 63 = .ok (.putfield 922, 3) := by decide +kernel
theorem dX21_inject_66 : decode cX21_inject 66 = .ok (.aload_n 0, 1) := by decide +kernel
theorem dX21_inject_67 : decode cX21_inject 67 = .ok (.getfield 55, 3) := by decide +kernel
theorem dX21_inject_70 : decode cX21_inject 70 = .ok (.iload_n 1, 1) := by decide +kernel
theorem dX21_inject_71 : decode cX21_inject 71 = .ok (.aaload, 1) := by decide +kernel
theorem dX21_inject_72 : decode cX21_inject 72 = .ok (.invokevirtual 224, 3) := by decide +kernel
theorem dX21_inject_75 : decode cX21_inject 75 = .ok (.ireturn, 1) := by decide +kernel
theorem dX21_open_0 : decode cX21_open 0 = .ok (.aload_n 0, 1) := by decide +kernel
theorem dX21_open_1 : decode cX21_open 1 = .ok (.iconst 0, 1) := by decide +kernel
theorem dX21_open_2 : decode cX21_open 2 = .ok (.putfield 145, 3) := by decide +kernel
theorem dX21_open_5 : decode cX21_open 5 = .ok (.iload_n 1, 1) := by decide +kernel
theorem dX21_open_6 : decode cX21_open 6 = .ok (.ifCond .lt 24, 3) := by decide +kernel
theorem dX21_open_9 : decode cX21_open 9 = .ok (.iload_n 1, 1) := by decide +kernel
theorem dX21_open_10 : decode cX21_open 10 = .ok (.ldc_w 938, 3) := by decide +kernel
theorem dX21_open_13 : decode cX21_open 13 = .ok (.if_icmp .gt 17, 3) := by decide +kernel
theorem dX21_open_16 : decode cX21_open 16 = .ok (.iload_n 1, 1) := by decide +kernel
theorem dX21_open_17 : decode cX21_open 17 = .ok (.ifCond .le 19, 3) := by decide +kernel
theorem dX21_open_20 : decode cX21_open 20 = .ok (.aload_n 0, 1) := by decide +kernel
theorem dX21_open_21 : decode cX21_open 21 = .ok (.getfield 922, 3) := by decide +kernel
theorem dX21_open_24 : decode cX21_open 24 = .ok (.sipush 255, 3) := by decide +kernel
theorem dX21_open_27 : decode cX21_open 27 = .ok (.if_icmp .le 9, 3) := by decide +kernel
theorem dX21_open_30 : decode cX21_open 30 = .ok (.aload_n 0, 1) := by decide +kernel
theorem dX21_open_31 : decode cX21_open 31 = .ok (.iconst 1, 1) := by decide +kernel
theorem dX21_open_32 : decode cX21_open 32 = .ok (.invokevirtual 926, 3) := by decide +kernel
theorem dX21_open_35 : decode cX21_open 35 = .ok (.ireturn, 1) := by decide +kernel
theorem dX21_open_36 : decode cX21_open 36 = .ok (.aload_n 0, 1) := by decide +kernel
theorem dX21_open_37 : decode cX21_open 37 = .ok (.getfield 45, 3) := by decide +kernel
theorem dX21_open_40 : decode cX21_open 40 = .ok (.iconst 0, 1) := by decide +kernel
theorem dX21_open_41 : decode cX21_open 41 = .ok (.aaload, 1) := by decide +kernel
theorem dX21_open_42 : decode cX21_open 42 = .ok (.astore_n 2, 1) := by decide +kernel
theorem dX21_open_43 : decode cX21_open 43 = .ok (.iconst 0, 1) := by decide +kernel
theorem dX21_open_44 : decode cX21_open 44 = .ok (.istore_n 3, 1) := by decide +kernel
theorem dX21_open_45 : decode cX21_open 45 = .ok (.iload_n 3, 1) := by decide +kernel
theorem dX21_open_46 : decode cX21_open 46 = .ok (.bipush 16, 2) := by decide +kernel
theorem dX21_open_48 : decode cX21_open 48 = .ok (.if_icmp .ge 21, 3) := by decide +kernel
theorem dX21_open_51 : decode cX21_open 51 = .ok (.aload_n 2, 1) := by decide +kernel
theorem dX21_open_52 : decode cX21_open 52 = .ok (.getfield 706, 3) := by decide +kernel
theorem dX21_open_55 : decode cX21_open 55 = .ok (.iload_n 3, 1) := by decide +kernel
theorem dX21_open_56 : decode cX21_open 56 = .ok (.aaload, 1) := by decide +kernel
theorem dX21_open_57 : decode cX21_open 57 = .ok (.invokestatic 720, 3) := by decide +kernel
theorem dX21_open_60 : decode cX21_open 60 = .ok (.ifCond .eq 9, 3) := by decide +kernel
theorem dX21_open_63 : decode cX21_open 63 = .ok (.iinc 3 1, 3) := by decide +kernel
theorem dX21_open_66 : decode cX21_open 66 = .ok (.goto (-21), 3) := by decide +kernel
theorem dX21_open_69 : decode cX21_open 69 = .ok (.aload_n 2, 1) := by decide +kernel
theorem dX21_open_70 : decode cX21_open 70 = .ok (.getfield 195, 3) := by decide +kernel
theorem dX21_open_73 : decode cX21_open 73 = .ok (.iconst 1, 1) := by decide +kernel
theorem dX21_open_74 : decode cX21_open 74 = .ok (.if_icmp .ne 16, 3) := by decide +kernel
theorem dX21_open_77 : decode cX21_open 77 = .ok (.aload_n 2, 1) := by decide +kernel
theorem dX21_open_78 : decode cX21_open 78 = .ok (.getfield 607, 3) := by decide +kernel
theorem dX21_open_81 : decode cX21_open 81 = .ok (.ifCond .eq 9, 3) := by decide +kernel
theorem dX21_open_84 : decode cX21_open 84 = .ok (.iload_n 3, 1) := by decide +kernel
theorem dX21_open_85 : decode cX21_open 85 = .ok (.bipush 16, 2) := by decide +kernel
theorem dX21_open_87 : decode cX21_open 87 = .ok (.if_icmp .ne 9, 3) := by decide +kernel
theorem dX21_open_90 : decode cX21_open 90 = .ok (.aload_n 0, 1) := by decide +kernel
theorem dX21_open_91 : decode cX21_open 91 = .ok (.iconst 2, 1) := by decide +kernel
theorem dX21_open_92 : decode cX21_open 92 = .ok (.invokevirtual 926, 3) := by decide +kernel
theorem dX21_open_95 : decode cX21_open 95 = .ok (.ireturn, 1) := by decide +kernel
theorem dX21_open_96 : decode cX21_open 96 = .ok (.aload_n 2, 1) := by decide +kernel
theorem dX21_open_97 : decode cX21_open 97 = .ok (.getfield 706, 3) := by decide +kernel
theorem dX21_open_100 : decode cX21_open 100 = .ok (.iload_n 3, 1) := by decide +kernel
theorem dX21_open_101 : decode cX21_open 101 = .ok (.aaload, 1) := by decide +kernel
theorem dX21_open_102 : decode cX21_open 102 = .ok (.astore 4, 2) := by decide +kernel
theorem dX21_open_104 : decode cX21_open 104 = .ok (.aload 4, 2) := by decide +kernel
theorem dX21_open_106 : decode cX21_open 106 = .ok (.iload_n 3, 1) := by decide +kernel
theorem dX21_open_107 : decode cX21_open 107 = .ok (.invokevirtual 730, 3) := by decide +kernel
theorem dX21_open_110 : decode cX21_open 110 = .ok (.aload 4, 2) := by decide +kernel
theorem dX21_open_112 : decode cX21_open 112 = .ok (.aload_n 2, 1) := by decide +kernel
theorem dX21_open_113 : decode cX21_open 113 = .ok (.getfield 272, 3) := by decide +kernel
theorem dX21_open_116 : decode cX21_open 116 = .ok (.iconst 2, 1) := by decide +kernel
theorem dX21_open_117 : decode cX21_open 117 = .ok (.iaload, 1) := by decide +kernel
theorem dX21_open_118 : decode cX21_open 118 = .ok (.i2l, 1) := by decide +kernel
theorem dX21_open_119 : decode cX21_open 119 = .ok (.putfield 740, 3) := by decide +kernel
theorem dX21_open_122 : decode cX21_open 122 = .ok (.aload 4, 2) := by decide +kernel
theorem dX21_open_124 : decode cX21_open 124 = .ok (.aload_n 2, 1) := by decide +kernel
theorem dX21_open_125 : decode cX21_open 125 = .ok (.getfield 272, 3) := by decide +kernel
theorem dX21_open_128 : decode cX21_open 128 = .ok (.iconst 3, 1) := by decide +kernel
theorem dX21_open_129 : decode cX21_open 129 = .ok (.iaload, 1) := by decide +kernel
theorem dX21_open_130 : decode cX21_open 130 = .ok (.i2l, 1) := by decide +kernel
theorem dX21_open_131 : decode cX21_open 131 = .ok (.putfield 743, 3) := by decide +kernel
theorem dX21_open_134 : decode cX21_open 134 = .ok (.aload_n 0, 1) := by decide +kernel
theorem dX21_open_135 : decode cX21_open 135 = .ok (.bipush 90, 2) := by decide +kernel
theorem dX21_open_137 : decode cX21_open 137 = .ok (.invokevirtual 281, 3) := by decide +kernel
theorem dX21_open_140 : decode cX21_open 140 = .ok (.astore 5, 2) := by decide +kernel
theorem dX21_open_142 : decode cX21_open 142 = .ok (.aload 5, 2) := by decide +kernel
theorem dX21_open_144 : decode cX21_open 144 = .ok (.iload_n 1, 1) := by decide +kernel
theorem dX21_open_145 : decode cX21_open 145 = .ok (.ifCond .ne 9, 3) := by decide +kernel
theorem dX21_open_148 : decode cX21_open 148 = .ok (.ldc_w 713, 3) := by decide +kernel
theorem dX21_open_151 : decode cX21_open 151 = .ok (.goto 6, 3) := by decide +kernel
theorem dX21_open_154 : decode cX21_open 154 = .ok (.ldc_w 714, 3) := by decide +kernel
theorem dX21_open_157 : decode cX21_open 157 = .ok (.invokevirtual 316, 3) := by decide +kernel
theorem dX21_open_160 : decode cX21_open 160 = .ok (.aload 5, 2) := by decide +kernel
theorem dX21_open_162 : decode cX21_open 162 = .ok (.iload_n 3, 1) := by decide +kernel
theorem dX21_open_163 : decode cX21_open 163 = .ok (.i2l, 1) := by decide +kernel
theorem dX21_open_164 : decode cX21_open 164 = .ok (.invokevirtual 174, 3) := by decide +kernel
theorem dX21_open_167 : decode cX21_open 167 = .ok (.aload 5, 2) := by decide +kernel
theorem dX21_open_169 : decode cX21_open 169 = .ok (.aload_n 2, 1) := by decide +kernel
theorem dX21_open_170 : decode cX21_open 170 = .ok (.getfield 272, 3) := by decide +kernel
theorem dX21_open_173 : decode cX21_open 173 = .ok (.iconst 2, 1) := by decide +kernel
theorem dX21_open_174 : decode cX21_open 174 = .ok (.iaload, 1) := by decide +kernel
theorem dX21_open_175 : decode cX21_open 175 = .ok (.i2l, 1) := by decide +kernel
theorem dX21_open_176 : decode cX21_open 176 = .ok (.invokevirtual 174, 3) := by decide +kernel
theorem dX21_open_179 : decode cX21_open 179 = .ok (.aload 5, 2) := by decide +kernel
theorem dX21_open_181 : decode cX21_open 181 = .ok (.aload_n 2, 1) := by decide +kernel
theorem dX21_open_182 : decode cX21_open 182 = .ok (.getfield 272, 3) := by decide +kernel
theorem dX21_open_185 : decode cX21_open 185 = .ok (.iconst 3, 1) := by decide +kernel
theorem dX21_open_186 : decode cX21_open 186 = .ok (.iaload, 1) := by decide +kernel
theorem dX21_open_187 : decode cX21_open 187 = .ok (.i2l, 1) := by decide +kernel
theorem dX21_open_188 : decode cX21_open 188 = .ok (.invokevirtual 174, 3) := by decide +kernel
theorem dX21_open_191 : decode cX21_open 191 = .ok (.iload_n 1, 1) := by decide +kernel
theorem dX21_open_192 : decode cX21_open 192 = .ok (.ifCond .le 38, 3) := by decide +kernel
theorem dX21_open_195 : decode cX21_open 195 = .ok (.aload 5, 2) := by decide +kernel
theorem dX21_open_197 : decode cX21_open 197 = .ok (.aload_n 0, 1) := by decide +kernel
theorem dX21_open_198 : decode cX21_open 198 = .ok (.getfield 8, 3) := by decide +kernel
theorem dX21_open_201 : decode cX21_open 201 = .ok (.iconst 0, 1) := by decide +kernel
theorem dX21_open_202 : decode cX21_open 202 = .ok (.aload_n 0, 1) := by decide +kernel
theorem dX21_open_203 : decode cX21_open 203 = .ok (.getfield 922, 3) := by decide +kernel
theorem dX21_open_206 : decode cX21_open 206 = .ok (.invokevirtual 254, 3) := by decide +kernel
theorem dX21_open_209 : decode cX21_open 209 = .ok (.aload 5, 2) := by decide +kernel
theorem dX21_open_211 : decode cX21_open 211 = .ok (.iload_n 1, 1) := by decide +kernel
theorem dX21_open_212 : decode cX21_open 212 = .ok (.i2l, 1) := by decide +kernel
theorem dX21_open_213 : decode cX21_open 213 = .ok (.invokevirtual 174, 3) := by decide +kernel
theorem dX21_open_216 : decode cX21_open 216 = .ok (.aload 5, 2) := by decide +kernel
theorem dX21_open_218 : decode cX21_open 218 = .ok (.ldc_w 952, 3) := by decide +kernel
theorem dX21_open_221 : decode cX21_open 221 = .ok (.invokevirtual 316, 3) := by decide +kernel
theorem dX21_open_224 : decode cX21_open 224 = .ok (.aload 5, 2) := by decide +kernel
theorem dX21_open_226 : decode cX21_open 226 = .ok (.lconst 0, 1) := by decide +kernel
theorem dX21_open_227 : decode cX21_open 227 = .ok (.invokevirtual 174, 3) := by decide +kernel
theorem dX21_open_230 : decode cX21_open 230 = .ok (.aload_n 0, 1) := by decide +kernel
theorem dX21_open_231 : decode cX21_open 231 = .ok (.iconst 0, 1) := by decide +kernel
theorem dX21_open_232 : decode cX21_open 232 = .ok (.putfield 922, 3) := by decide +kernel
theorem dX21_open_235 : decode cX21_open 235 = .ok (.aload_n 0, 1) := by decide +kernel
theorem dX21_open_236 : decode cX21_open 236 = .ok (.aload_n 2, 1) := by decide +kernel
theorem dX21_open_237 : decode cX21_open 237 = .ok (.aload 5, 2) := by decide +kernel
theorem dX21_open_239 : decode cX21_open 239 = .ok (.invokevirtual 535, 3) := by decide +kernel
theorem dX21_open_242 : decode cX21_open 242 = .ok (.iload_n 3, 1) := by decide +kernel
theorem dX21_open_243 : decode cX21_open 243 = .ok (.ireturn, 1) := by decide +kernel
theorem dX21_live_0 : decode cX21_live 0 = .ok (.iload_n 1, 1) := by decide +kernel
theorem dX21_live_1 : decode cX21_live 1 = .ok (.ifCond .lt 9, 3) := by decide +kernel
theorem dX21_live_4 : decode cX21_live 4 = .ok (.iload_n 1, 1) := by decide +kernel
theorem dX21_live_5 : decode cX21_live 5 = .ok (.bipush 15, 2) := by decide +kernel
theorem dX21_live_7 : decode cX21_live 7 = .ok (.if_icmp .le 7, 3) := by decide +kernel
theorem dX21_live_10 : decode cX21_live 10 = .ok (.aconst_null, 1) := by decide +kernel
theorem dX21_live_11 : decode cX21_live 11 = .ok (.goto 14, 3) := by decide +kernel
theorem dX21_live_14 : decode cX21_live 14 = .ok (.aload_n 0, 1) := by decide +kernel
theorem dX21_live_15 : decode cX21_live 15 = .ok (.getfield 45, 3) := by decide +kernel
theorem dX21_live_18 : decode cX21_live 18 = .ok (.iconst 0, 1) := by decide +kernel
theorem dX21_live_19 : decode cX21_live 19 = .ok (.aaload, 1) := by decide +kernel
theorem dX21_live_20 : decode cX21_live 20 = .ok (.getfield 706, 3) := by decide +kernel
theorem dX21_live_23 : decode cX21_live 23 = .ok (.iload_n 1, 1) := by decide +kernel
theorem dX21_live_24 : decode cX21_live 24 = .ok (.aaload, 1) := by decide +kernel
theorem dX21_live_25 : decode cX21_live 25 = .ok (.astore_n 2, 1) := by decide +kernel
theorem dX21_live_26 : decode cX21_live 26 = .ok (.aload_n 2, 1) := by decide +kernel
theorem dX21_live_27 : decode cX21_live 27 = .ok (.ifnull 10, 3) := by decide +kernel
theorem dX21_live_30 : decode cX21_live 30 = .ok (.aload_n 2, 1) := by decide +kernel
theorem dX21_live_31 : decode cX21_live 31 = .ok (.invokestatic 720, 3) := by decide +kernel
theorem dX21_live_34 : decode cX21_live 34 = .ok (.ifCond .ne 7, 3) := by decide +kernel
theorem dX21_live_37 : decode cX21_live 37 = .ok (.aconst_null, 1) := by decide +kernel
theorem dX21_live_38 : decode cX21_live 38 = .ok (.goto 4, 3) := by decide +kernel
theorem dX21_live_41 : decode cX21_live 41 = .ok (.aload_n 2, 1) := by decide +kernel
theorem dX21_live_42 : decode cX21_live 42 = .ok (.areturn, 1) := by decide +kernel
theorem dX21_exec_0 : decode cX21_exec 0 = .ok (.aload_n 0, 1) := by decide +kernel
theorem dX21_exec_1 : decode cX21_exec 1 = .ok (.iload_n 1, 1) := by decide +kernel
theorem dX21_exec_2 : decode cX21_exec 2 = .ok (.invokevirtual 954, 3) := by decide +kernel
theorem dX21_exec_5 : decode cX21_exec 5 = .ok (.astore_n 2, 1) := by decide +kernel
theorem dX21_exec_6 : decode cX21_exec 6 = .ok (.aload_n 0, 1) := by decide +kernel
theorem dX21_exec_7 : decode cX21_exec 7 = .ok (.aload_n 2, 1) := by decide +kernel
theorem dX21_exec_8 : decode cX21_exec 8 = .ok (.ifnonnull 7, 3) := by decide +kernel
theorem dX21_exec_11 : decode cX21_exec 11 = .ok (.iconst 1, 1) := by decide +kernel
theorem dX21_exec_12 : decode cX21_exec 12 = .ok (.goto 56, 3) := by decide +kernel
theorem dX21_exec_15 : decode cX21_exec 15 = .ok (.aload_n 0, 1) := by decide +kernel
theorem dX21_exec_16 : decode cX21_exec 16 = .ok (.getfield 922, 3) := by decide +kernel
theorem dX21_exec_19 : decode cX21_exec 19 = .ok (.sipush 1000, 3) := by decide +kernel
theorem dX21_exec_22 : decode cX21_exec 22 = .ok (.if_icmp .le 7, 3) := by decide +kernel
theorem dX21_exec_25 : decode cX21_exec 25 = .ok (.iconst 2, 1) := by decide +kernel
theorem dX21_exec_26 : decode cX21_exec 26 = .ok (.goto 42, 3) := by decide +kernel
theorem dX21_exec_29 : decode cX21_exec 29 = .ok (.aload_n 0, 1) := by decide +kernel
theorem dX21_exec_30 : decode cX21_exec 30 = .ok (.getfield 45, 3) := by decide +kernel
theorem dX21_exec_33 : decode cX21_exec 33 = .ok (.iconst 0, 1) := by decide +kernel
theorem dX21_exec_34 : decode cX21_exec 34 = .ok (.aaload, 1) := by decide +kernel
theorem dX21_exec_35 : decode cX21_exec 35 = .ok (.getfield 195, 3) := by decide +kernel
theorem dX21_exec_38 : decode cX21_exec 38 = .ok (.iconst 1, 1) := by decide +kernel
theorem dX21_exec_39 : decode cX21_exec 39 = .ok (.if_icmp .ne 24, 3) := by decide +kernel
theorem dX21_exec_42 : decode cX21_exec 42 = .ok (.aload_n 2, 1) := by decide +kernel
theorem dX21_exec_43 : decode cX21_exec 43 = .ok (.getfield 710, 3) := by decide +kernel
theorem dX21_exec_46 : decode cX21_exec 46 = .ok (.ifCond .eq 17, 3) := by decide +kernel
theorem dX21_exec_49 : decode cX21_exec 49 = .ok (.aload_n 2, 1) := by decide +kernel
theorem dX21_exec_50 : decode cX21_exec 50 = .ok (.getfield 803, 3) := by decide +kernel
theorem dX21_exec_53 : decode cX21_exec 53 = .ok (.ifCond .ne 10, 3) := by decide +kernel
theorem dX21_exec_56 : decode cX21_exec 56 = .ok (.aload_n 2, 1) := by decide +kernel
theorem dX21_exec_57 : decode cX21_exec 57 = .ok (.getfield 761, 3) := by decide +kernel
theorem dX21_exec_60 : decode cX21_exec 60 = .ok (.ifCond .eq 7, 3) := by decide +kernel
theorem dX21_exec_63 : decode cX21_exec 63 = .ok (.iconst 3, 1) := by decide +kernel
theorem dX21_exec_64 : decode cX21_exec 64 = .ok (.goto 4, 3) := by decide +kernel
theorem dX21_exec_67 : decode cX21_exec 67 = .ok (.iconst 0, 1) := by decide +kernel
theorem dX21_exec_68 : decode cX21_exec 68 = .ok (.putfield 145, 3) := by decide +kernel
theorem dX21_exec_71 : decode cX21_exec 71 = .ok (.aload_n 0, 1) := by decide +kernel
theorem dX21_exec_72 : decode cX21_exec 72 = .ok (.getfield 145, 3) := by decide +kernel
theorem dX21_exec_75 : decode cX21_exec 75 = .ok (.ifCond .le 4, 3) := by decide +kernel
theorem dX21_exec_78 : decode cX21_exec 78 = .ok (.return_, 1) := by decide +kernel
theorem dX21_exec_79 : decode cX21_exec 79 = .ok (.aload_n 0, 1) := by decide +kernel
theorem dX21_exec_80 : decode cX21_exec 80 = .ok (.aload_n 2, 1) := by decide +kernel
theorem dX21_exec_81 : decode cX21_exec 81 = .ok (.bipush 98, 2) := by decide +kernel
theorem dX21_exec_83 : decode cX21_exec 83 = .ok (.invokevirtual 817, 3) := by decide +kernel
theorem dX21_exec_86 : decode cX21_exec 86 = .ok (.astore_n 3, 1) := by decide +kernel
theorem dX21_exec_87 : decode cX21_exec 87 = .ok (.aload_n 3, 1) := by decide +kernel
theorem dX21_exec_88 : decode cX21_exec 88 = .ok (.ldc_w 852, 3) := by decide +kernel
theorem dX21_exec_91 : decode cX21_exec 91 = .ok (.invokevirtual 316, 3) := by decide +kernel
theorem dX21_exec_94 : decode cX21_exec 94 = .ok (.aload_n 3, 1) := by decide +kernel
theorem dX21_exec_95 : decode cX21_exec 95 = .ok (.iconst 1, 1) := by decide +kernel
theorem dX21_exec_96 : decode cX21_exec 96 = .ok (.invokevirtual 209, 3) := by decide +kernel
theorem dX21_exec_99 : decode cX21_exec 99 = .ok (.aload_n 3, 1) := by decide +kernel
theorem dX21_exec_100 : decode cX21_exec 100 = .ok (.aload_n 0, 1) := by decide +kernel
theorem dX21_exec_101 : decode cX21_exec 101 = .ok (.getfield 8, 3) := by decide +kernel
theorem dX21_exec_104 : decode cX21_exec 104 = .ok (.iconst 0, 1) := by decide +kernel
theorem dX21_exec_105 : decode cX21_exec 105 = .ok (.aload_n 0, 1) := by decide +kernel
theorem dX21_exec_106 : decode cX21_exec 106 = .ok (.getfield 922, 3) := by decide +kernel
theorem dX21_exec_109 : decode cX21_exec 109 = .ok (.invokevirtual 254, 3) := by decide +kernel
theorem dX21_exec_112 : decode cX21_exec 112 = .ok (.aload_n 0, 1) := by decide +kernel
theorem dX21_exec_113 : decode cX21_exec 113 = .ok (.iconst 0, 1) := by decide +kernel
theorem dX21_exec_114 : decode cX21_exec 114 = .ok (.putfield 922, 3) := by decide +kernel
theorem dX21_exec_117 : decode cX21_exec 117 = .ok (.aload_n 2, 1) := by decide +kernel
theorem dX21_exec_118 : decode cX21_exec 118 = .ok (.dup, 1) := by decide +kernel
theorem dX21_exec_119 : decode cX21_exec 119 = .ok (.getfield 790, 3) := by decide +kernel
theorem dX21_exec_122 : decode cX21_exec 122 = .ok (.iconst 1, 1) := by decide +kernel
theorem dX21_exec_123 : decode cX21_exec 123 = .ok (.iadd, 1) := by decide +kernel
theorem dX21_exec_124 : decode cX21_exec 124 = .ok (.putfield 790, 3) := by decide +kernel
theorem dX21_exec_127 : decode cX21_exec 127 = .ok (.aload_n 0, 1) := by decide +kernel
theorem dX21_exec_128 : decode cX21_exec 128 = .ok (.aload_n 0, 1) := by decide +kernel
theorem dX21_exec_129 : decode cX21_exec 129 = .ok (.getfield 45, 3) := by decide +kernel
theorem dX21_exec_132 : decode cX21_exec 132 = .ok (.iconst 0, 1) := by decide +kernel
theorem dX21_exec_133 : decode cX21_exec 133 = .ok (.aaload, 1) := by decide +kernel
theorem dX21_exec_134 : decode cX21_exec 134 = .ok (.aload_n 3, 1) := by decide +kernel
theorem dX21_exec_135 : decode cX21_exec 135 = .ok (.invokevirtual 535, 3) := by decide +kernel
theorem dX21_exec_138 : decode cX21_exec 138 = .ok (.return_, 1) := by decide +kernel
theorem dX21_write_0 : decode cX21_write 0 = .ok (.aload_n 0, 1) := by decide +kernel
theorem dX21_write_1 : decode cX21_write 1 = .ok (.iconst 0, 1) := by decide +kernel
theorem dX21_write_2 : decode cX21_write 2 = .ok (.putfield 145, 3) := by decide +kernel
theorem dX21_write_5 : decode cX21_write 5 = .ok (.iload_n 2, 1) := by decide +kernel
theorem dX21_write_6 : decode cX21_write 6 = .ok (.ifCond .eq 27, 3) := by decide +kernel
theorem dX21_write_9 : decode cX21_write 9 = .ok (.iload_n 1, 1) := by decide +kernel
theorem dX21_write_10 : decode cX21_write 10 = .ok (.iconst 1, 1) := by decide +kernel
theorem dX21_write_11 : decode cX21_write 11 = .ok (.if_icmp .lt 10, 3) := by decide +kernel
theorem dX21_write_14 : decode cX21_write 14 = .ok (.iload_n 1, 1) := by decide +kernel
theorem dX21_write_15 : decode cX21_write 15 = .ok (.ldc_w 938, 3) := by decide +kernel
theorem dX21_write_18 : decode cX21_write 18 = .ok (.if_icmp .le 7, 3) := by decide +kernel
theorem dX21_write_21 : decode cX21_write 21 = .ok (.aconst_null, 1) := by decide +kernel
theorem dX21_write_22 : decode cX21_write 22 = .ok (.goto 16, 3) := by decide +kernel
theorem dX21_write_25 : decode cX21_write 25 = .ok (.aload_n 0, 1) := by decide +kernel
theorem dX21_write_26 : decode cX21_write 26 = .ok (.iload_n 1, 1) := by decide +kernel
theorem dX21_write_27 : decode cX21_write 27 = .ok (.invokevirtual 726, 3) := by decide +kernel
theorem dX21_write_30 : decode cX21_write 30 = .ok (.goto 8, 3) := by decide +kernel
theorem dX21_write_33 : decode cX21_write 33 = .ok (.aload_n 0, 1) := by decide +kernel
theorem dX21_write_34 : decode cX21_write 34 = .ok (.iload_n 1, 1) := by decide +kernel
theorem dX21_write_35 : decode cX21_write 35 = .ok (.invokevirtual 954, 3) := by decide +kernel
theorem dX21_write_38 : decode cX21_write 38 = .ok (.astore_n 3, 1) := by decide +kernel
theorem dX21_write_39 : decode cX21_write 39 = .ok (.aload_n 3, 1) := by decide +kernel
theorem dX21_write_40 : decode cX21_write 40 = .ok (.ifnonnull 9, 3) := by decide +kernel
theorem dX21_write_43 : decode cX21_write 43 = .ok (.aload_n 0, 1) := by decide +kernel
theorem dX21_write_44 : decode cX21_write 44 = .ok (.iconst 1, 1) := by decide +kernel
theorem dX21_write_45 : decode cX21_write 45 = .ok (.invokevirtual 926, 3) := by decide +kernel
theorem dX21_write_48 : decode cX21_write 48 = .ok (.ireturn, 1) := by decide +kernel
theorem dX21_write_49 : decode cX21_write 49 = .ok (.aload_n 3, 1) := by decide +kernel
theorem dX21_write_50 : decode cX21_write 50 = .ok (.getfield 824, 3) := by decide +kernel
theorem dX21_write_53 : decode cX21_write 53 = .ok (.ifCond .ne 35, 3) := by decide +kernel
theorem dX21_write_56 : decode cX21_write 56 = .ok (.aload_n 3, 1) := by decide +kernel
theorem dX21_write_57 : decode cX21_write 57 = .ok (.getfield 803, 3) := by decide +kernel
theorem dX21_write_60 : decode cX21_write 60 = .ok (.ifCond .ne 28, 3) := by decide +kernel
theorem dX21_write_63 : decode cX21_write 63 = .ok (.aload_n 3, 1) := by decide +kernel
theorem dX21_write_64 : decode cX21_write 64 = .ok (.getfield 798, 3) := by decide +kernel
theorem dX21_write_67 : decode cX21_write 67 = .ok (.ifCond .ne 21, 3) := by decide +kernel
theorem dX21_write_70 : decode cX21_write 70 = .ok (.aload_n 3, 1) := by decide +kernel
theorem dX21_write_71 : decode cX21_write 71 = .ok (.getfield 800, 3) := by decide +kernel
theorem dX21_write_74 : decode cX21_write 74 = .ok (.invokevirtual 224, 3) := by decide +kernel
theorem dX21_write_77 : decode cX21_write 77 = .ok (.aload_n 0, 1) := by decide +kernel
theorem dX21_write_78 : decode cX21_write 78 = .ok (.getfield 922, 3) := by decide +kernel
theorem dX21_write_81 : decode cX21_write 81 = .ok (.iadd, 1) := by decide +kernel
theorem dX21_write_82 : decode cX21_write 82 = .ok (.sipush 16384, 3) := by decide +kernel
theorem dX21_write_85 : decode cX21_write 85 = .ok (.if_icmp .le 9, 3) := by decide +kernel
theorem dX21_write_88 : decode cX21_write 88 = .ok (.aload_n 0, 1) := by decide +kernel
theorem dX21_write_89 : decode cX21_write 89 = .ok (.iconst 2, 1) := by decide +kernel
theorem dX21_write_90 : decode cX21_write 90 = .ok (.invokevirtual 926, 3) := by decide +kernel
theorem dX21_write_93 : decode cX21_write 93 = .ok (.ireturn, 1) := by decide +kernel
theorem dX21_write_94 : decode cX21_write 94 = .ok (.aload_n 3, 1) := by decide +kernel
theorem dX21_write_95 : decode cX21_write 95 = .ok (.getfield 800, 3) := by decide +kernel
theorem dX21_write_98 : decode cX21_write 98 = .ok (.aload_n 0, 1) := by decide +kernel
theorem dX21_write_99 : decode cX21_write 99 = .ok (.getfield 8, 3) := by decide +kernel
theorem dX21_write_102 : decode cX21_write 102 = .ok (.iconst 0, 1) := by decide +kernel
theorem dX21_write_103 : decode cX21_write 103 = .ok (.aload_n 0, 1) := by decide +kernel
theorem dX21_write_104 : decode cX21_write 104 = .ok (.getfield 922, 3) := by decide +kernel
theorem dX21_write_107 : decode cX21_write 107 = .ok (.invokevirtual 178, 3) := by decide +kernel
theorem dX21_write_110 : decode cX21_write 110 = .ok (.aload_n 0, 1) := by decide +kernel
theorem dX21_write_111 : decode cX21_write 111 = .ok (.iconst 0, 1) := by decide +kernel
theorem dX21_write_112 : decode cX21_write 112 = .ok (.putfield 922, 3) := by decide +kernel
theorem dX21_write_115 : decode cX21_write 115 = .ok (.aload_n 0, 1) := by decide +kernel
theorem dX21_write_116 : decode cX21_write 116 = .ok (.aload_n 0, 1) := by decide +kernel
theorem dX21_write_117 : decode cX21_write 117 = .ok (.getfield 45, 3) := by decide +kernel
theorem dX21_write_120 : decode cX21_write 120 = .ok (.iload_n 2, 1) := by decide +kernel
theorem dX21_write_121 : decode cX21_write 121 = .ok (.ifCond .eq 7, 3) := by decide +kernel
theorem dX21_write_124 : decode cX21_write 124 = .ok (.iconst 1, 1) := by decide +kernel
theorem dX21_write_125 : decode cX21_write 125 = .ok (.goto 4, 3) := by decide +kernel
theorem dX21_write_128 : decode cX21_write 128 = .ok (.iconst 0, 1) := by decide +kernel
theorem dX21_write_129 : decode cX21_write 129 = .ok (.aaload, 1) := by decide +kernel
theorem dX21_write_130 : decode cX21_write 130 = .ok (.aload_n 3, 1) := by decide +kernel
theorem dX21_write_131 : decode cX21_write 131 = .ok (.invokevirtual 764, 3) := by decide +kernel
theorem dX21_write_134 : decode cX21_write 134 = .ok (.aload_n 3, 1) := by decide +kernel
theorem dX21_write_135 : decode cX21_write 135 = .ok (.getfield 800, 3) := by decide +kernel
theorem dX21_write_138 : decode cX21_write 138 = .ok (.invokevirtual 224, 3) := by decide +kernel
theorem dX21_write_141 : decode cX21_write 141 = .ok (.ireturn, 1) := by decide +kernel
theorem dX21_read_0 : decode cX21_read 0 = .ok (.aload_n 0, 1) := by decide +kernel
theorem dX21_read_1 : decode cX21_read 1 = .ok (.iconst 0, 1) := by decide +kernel
theorem dX21_read_2 : decode cX21_read 2 = .ok (.putfield 145, 3) := by decide +kernel
theorem dX21_read_5 : decode cX21_read 5 = .ok (.iload_n 2, 1) := by decide +kernel
theorem dX21_read_6 : decode cX21_read 6 = .ok (.ifCond .lt 8, 3) := by decide +kernel
theorem dX21_read_9 : decode cX21_read 9 = .ok (.iload_n 2, 1) := by decide +kernel
theorem dX21_read_10 : decode cX21_read 10 = .ok (.iconst 2, 1) := by decide +kernel
theorem dX21_read_11 : decode cX21_read 11 = .ok (.if_icmp .le 10, 3) := by decide +kernel
theorem dX21_read_14 : decode cX21_read 14 = .ok (.aload_n 0, 1) := by decide +kernel
theorem dX21_read_15 : decode cX21_read 15 = .ok (.iconst 1, 1) := by decide +kernel
theorem dX21_read_16 : decode cX21_read 16 = .ok (.invokevirtual 926, 3) := by decide +kernel
theorem dX21_read_19 : decode cX21_read 19 = .ok (.i2l, 1) := by decide +kernel
theorem dX21_read_20 : decode cX21_read 20 = .ok (.lreturn, 1) := by decide +kernel
theorem dX21_read_21 : decode cX21_read 21 = .ok (.iload_n 2, 1) := by decide +kernel
theorem dX21_read_22 : decode cX21_read 22 = .ok (.iconst 2, 1) := by decide +kernel
theorem dX21_read_23 : decode cX21_read 23 = .ok (.if_icmp .ne 27, 3) := by decide +kernel
theorem dX21_read_26 : decode cX21_read 26 = .ok (.iload_n 1, 1) := by decide +kernel
theorem dX21_read_27 : decode cX21_read 27 = .ok (.iconst 1, 1) := by decide +kernel
theorem dX21_read_28 : decode cX21_read 28 = .ok (.if_icmp .lt 10, 3) := by decide +kernel
theorem dX21_read_31 : decode cX21_read 31 = .ok (.iload_n 1, 1) := by decide +kernel
theorem dX21_read_32 : decode cX21_read 32 = .ok (.ldc_w 938, 3) := by decide +kernel
theorem dX21_read_35 : decode cX21_read 35 = .ok (.if_icmp .le 7, 3) := by decide +kernel
theorem dX21_read_38 : decode cX21_read 38 = .ok (.aconst_null, 1) := by decide +kernel
theorem dX21_read_39 : decode cX21_read 39 = .ok (.goto 53, 3) := by decide +kernel
theorem dX21_read_42 : decode cX21_read 42 = .ok (.aload_n 0, 1) := by decide +kernel
theorem dX21_read_43 : decode cX21_read 43 = .ok (.iload_n 1, 1) := by decide +kernel
theorem dX21_read_44 : decode cX21_read 44 = .ok (.invokevirtual 726, 3) := by decide +kernel
theorem dX21_read_47 : decode cX21_read 47 = .ok (.goto 45, 3) := by decide +kernel
theorem dX21_read_50 : decode cX21_read 50 = .ok (.iload_n 1, 1) := by decide +kernel
theorem dX21_read_51 : decode cX21_read 51 = .ok (.ifCond .lt 26, 3) := by decide +kernel
theorem dX21_read_54 : decode cX21_read 54 = .ok (.iload_n 1, 1) := by decide +kernel
theorem dX21_read_55 : decode cX21_read 55 = .ok (.bipush 15, 2) := by decide +kernel
theorem dX21_read_57 : decode cX21_read 57 = .ok (.if_icmp .gt 20, 3) := by decide +kernel
theorem dX21_read_60 : decode cX21_read 60 = .ok (.aload_n 0, 1) := by decide +kernel
theorem dX21_read_61 : decode cX21_read 61 = .ok (.getfield 45, 3) := by decide +kernel
theorem dX21_read_64 : decode cX21_read 64 = .ok (.iconst 0, 1) := by decide +kernel
theorem dX21_read_65 : decode cX21_read 65 = .ok (.aaload, 1) := by decide +kernel
theorem dX21_read_66 : decode cX21_read 66 = .ok (.getfield 706, 3) := by decide +kernel
theorem dX21_read_69 : decode cX21_read 69 = .ok (.iload_n 1, 1) := by decide +kernel
theorem dX21_read_70 : decode cX21_read 70 = .ok (.aaload, 1) := by decide +kernel
theorem dX21_read_71 : decode cX21_read 71 = .ok (.getfield 710, 3) := by decide +kernel
theorem dX21_read_74 : decode cX21_read 74 = .ok (.ifCond .ge 7, 3) := by decide +kernel
theorem dX21_read_77 : decode cX21_read 77 = .ok (.aconst_null, 1) := by decide +kernel
theorem dX21_read_78 : decode cX21_read 78 = .ok (.goto 14, 3) := by decide +kernel
theorem dX21_read_81 : decode cX21_read 81 = .ok (.aload_n 0, 1) := by decide +kernel
theorem dX21_read_82 : decode cX21_read 82 = .ok (.getfield 45, 3) := by decide +kernel
theorem dX21_read_85 : decode cX21_read 85 = .ok (.iconst 0, 1) := by decide +kernel
theorem dX21_read_86 : decode cX21_read 86 = .ok (.aaload, 1) := by decide +kernel
theorem dX21_read_87 : decode cX21_read 87 = .ok (.getfield 706, 3) := by decide +kernel
theorem dX21_read_90 : decode cX21_read 90 = .ok (.iload_n 1, 1) := by decide +kernel
theorem dX21_read_91 : decode cX21_read 91 = .ok (.aaload, 1) := by decide +kernel
theorem dX21_read_92 : decode cX21_read 92 = .ok (.astore 4, 2) := by decide +kernel
theorem dX21_read_94 : decode cX21_read 94 = .ok (.aload 4, 2) := by decide +kernel
theorem dX21_read_96 : decode cX21_read 96 = .ok (.ifnonnull 10, 3) := by decide +kernel
theorem dX21_read_99 : decode cX21_read 99 = .ok (.aload_n 0, 1) := by decide +kernel
theorem dX21_read_100 : decode cX21_read 100 = .ok (.iconst 1, 1) := by decide +kernel
theorem dX21_read_101 : decode cX21_read 101 = .ok (.invokevirtual 926, 3) := by decide +kernel
theorem dX21_read_104 : decode cX21_read 104 = .ok (.i2l, 1) := by decide +kernel
theorem dX21_read_105 : decode cX21_read 105 = .ok (.lreturn, 1) := by decide +kernel
theorem dX21_read_106 : decode cX21_read 106 = .ok (.iload_n 3, 1) := by decide +kernel
theorem dX21_read_107 : decode cX21_read 107 = .ok (.iconst 1, 1) := by decide +kernel
theorem dX21_read_108 : decode cX21_read 108 = .ok (.if_icmp .lt 9, 3) := by decide +kernel
theorem dX21_read_111 : decode cX21_read 111 = .ok (.iload_n 3, 1) := by decide +kernel
theorem dX21_read_112 : decode cX21_read 112 = .ok (.bipush 7, 2) := by decide +kernel
theorem dX21_read_114 : decode cX21_read 114 = .ok (.if_icmp .le 10, 3) := by decide +kernel
theorem dX21_read_117 : decode cX21_read 117 = .ok (.aload_n 0, 1) := by decide +kernel
theorem dX21_read_118 : decode cX21_read 118 = .ok (.iconst 2, 1) := by decide +kernel
theorem dX21_read_119 : decode cX21_read 119 = .ok (.invokevirtual 926, 3) := by decide +kernel
theorem dX21_read_122 : decode cX21_read 122 = .ok (.i2l, 1) := by decide +kernel
theorem dX21_read_123 : decode cX21_read 123 = .ok (.lreturn, 1) := by decide +kernel
theorem dX21_read_124 : decode cX21_read 124 = .ok (.iload_n 2, 1) := by decide +kernel
theorem dX21_read_125 : decode cX21_read 125 = .ok (.iconst 1, 1) := by decide +kernel
theorem dX21_read_126 : decode cX21_read 126 = .ok (.if_icmp .ne 11, 3) := by decide +kernel
theorem dX21_read_129 : decode cX21_read 129 = .ok (.aload 4, 2) := by decide +kernel
theorem dX21_read_131 : decode cX21_read 131 = .ok (.getfield 837, 3) := by decide +kernel
theorem dX21_read_134 : decode cX21_read 134 = .ok (.goto 8, 3) := by decide +kernel
theorem dX21_read_137 : decode cX21_read 137 = .ok (.aload 4, 2) := by decide +kernel
theorem dX21_read_139 : decode cX21_read 139 = .ok (.getfield 840, 3) := by decide +kernel
theorem dX21_read_142 : decode cX21_read 142 = .ok (.astore 5, 2) := by decide +kernel
theorem dX21_read_144 : decode cX21_read 144 = .ok (.iload_n 3, 1) := by decide +kernel
theorem dX21_read_145 : decode cX21_read 145 = .ok (.aload 5, 2) := by decide +kernel
theorem dX21_read_147 : decode cX21_read 147 = .ok (.invokevirtual 224, 3) := by decide +kernel
theorem dX21_read_150 : decode cX21_read 150 = .ok (.invokestatic 944, 3) := by decide +kernel
theorem dX21_read_153 : decode cX21_read 153 = .ok (.istore 6, 2) := by decide +kernel
theorem dX21_read_155 : decode cX21_read 155 = .ok (.lconst 0, 1) := by decide +kernel
theorem dX21_read_156 : decode cX21_read 156 = .ok (.lstore 7, 2) := by decide +kernel
theorem dX21_read_158 : decode cX21_read 158 = .ok (.iconst 0, 1) := by decide +kernel
theorem dX21_read_159 : decode cX21_read 159 = .ok (.istore 9, 2) := by decide +kernel
theorem dX21_read_161 : decode cX21_read 161 = .ok (.iload 9, 2) := by decide +kernel
theorem dX21_read_163 : decode cX21_read 163 = .ok (.iload 6, 2) := by decide +kernel
theorem dX21_read_165 : decode cX21_read 165 = .ok (.if_icmp .ge 23, 3) := by decide +kernel
theorem dX21_read_168 : decode cX21_read 168 = .ok (.lload 7, 2) := by decide +kernel
theorem dX21_read_170 : decode cX21_read 170 = .ok (.bipush 8, 2) := by decide +kernel
theorem dX21_read_172 : decode cX21_read 172 = .ok (.lshl, 1) := by decide +kernel
theorem dX21_read_173 : decode cX21_read 173 = .ok (.aload 5, 2) := by decide +kernel
theorem dX21_read_175 : decode cX21_read 175 = .ok (.invokevirtual 947, 3) := by decide +kernel
theorem dX21_read_178 : decode cX21_read 178 = .ok (.i2l, 1) := by decide +kernel
theorem dX21_read_179 : decode cX21_read 179 = .ok (.lor, 1) := by decide +kernel
theorem dX21_read_180 : decode cX21_read 180 = .ok (.lstore 7, 2) := by decide +kernel
theorem dX21_read_182 : decode cX21_read 182 = .ok (.iinc 9 1, 3) := by decide +kernel
theorem dX21_read_185 : decode cX21_read 185 = .ok (.goto (-24), 3) := by decide +kernel
theorem dX21_read_188 : decode cX21_read 188 = .ok (.iload 6, 2) := by decide +kernel
theorem dX21_read_190 : decode cX21_read 190 = .ok (.ifCond .le 24, 3) := by decide +kernel
theorem dX21_read_193 : decode cX21_read 193 = .ok (.aload_n 0, 1) := by decide +kernel
theorem dX21_read_194 : decode cX21_read 194 = .ok (.aload_n 0, 1) := by decide +kernel
theorem dX21_read_195 : decode cX21_read 195 = .ok (.getfield 45, 3) := by decide +kernel
theorem dX21_read_198 : decode cX21_read 198 = .ok (.iload_n 2, 1) := by decide +kernel
theorem dX21_read_199 : decode cX21_read 199 = .ok (.iconst 2, 1) := by decide +kernel
theorem dX21_read_200 : decode cX21_read 200 = .ok (.if_icmp .ne 7, 3) := by decide +kernel
theorem dX21_read_203 : decode cX21_read 203 = .ok (.iconst 1, 1) := by decide +kernel
theorem dX21_read_204 : decode cX21_read 204 = .ok (.goto 4, 3) := by decide +kernel
theorem dX21_read_207 : decode cX21_read 207 = .ok (.iconst 0, 1) := by decide +kernel
theorem dX21_read_208 : decode cX21_read 208 = .ok (.aaload, 1) := by decide +kernel
theorem dX21_read_209 : decode cX21_read 209 = .ok (.aload 4, 2) := by decide +kernel
theorem dX21_read_211 : decode cX21_read 211 = .ok (.invokevirtual 834, 3) := by decide +kernel
theorem dX21_read_214 : decode cX21_read 214 = .ok (.iload 6, 2) := by decide +kernel
theorem dX21_read_216 : decode cX21_read 216 = .ok (.i2l, 1) := by decide +kernel
theorem dX21_read_217 : decode cX21_read 217 = .ok (.bipush 56, 2) := by decide +kernel
theorem dX21_read_219 : decode cX21_read 219 = .ok (.lshl, 1) := by decide +kernel
theorem dX21_read_220 : decode cX21_read 220 = .ok (.lload 7, 2) := by decide +kernel
theorem dX21_read_222 : decode cX21_read 222 = .ok (.lor, 1) := by decide +kernel
theorem dX21_read_223 : decode cX21_read 223 = .ok (.lreturn, 1) := by decide +kernel
theorem dX21_finish_0 : decode cX21_finish 0 = .ok (.aload_n 0, 1) := by decide +kernel
theorem dX21_finish_1 : decode cX21_finish 1 = .ok (.iconst 0, 1) := by decide +kernel
theorem dX21_finish_2 : decode cX21_finish 2 = .ok (.putfield 145, 3) := by decide +kernel
theorem dX21_finish_5 : decode cX21_finish 5 = .ok (.iload_n 2, 1) := by decide +kernel
theorem dX21_finish_6 : decode cX21_finish 6 = .ok (.ifCond .lt 8, 3) := by decide +kernel
theorem dX21_finish_9 : decode cX21_finish 9 = .ok (.iload_n 2, 1) := by decide +kernel
theorem dX21_finish_10 : decode cX21_finish 10 = .ok (.iconst 2, 1) := by decide +kernel
theorem dX21_finish_11 : decode cX21_finish 11 = .ok (.if_icmp .le 9, 3) := by decide +kernel
theorem dX21_finish_14 : decode cX21_finish 14 = .ok (.aload_n 0, 1) := by decide +kernel
theorem dX21_finish_15 : decode cX21_finish 15 = .ok (.iconst 1, 1) := by decide +kernel
theorem dX21_finish_16 : decode cX21_finish 16 = .ok (.putfield 145, 3) := by decide +kernel
theorem dX21_finish_19 : decode cX21_finish 19 = .ok (.return_, 1) := by decide +kernel
theorem dX21_finish_20 : decode cX21_finish 20 = .ok (.iload_n 2, 1) := by decide +kernel
theorem dX21_finish_21 : decode cX21_finish 21 = .ok (.iconst 2, 1) := by decide +kernel
theorem dX21_finish_22 : decode cX21_finish 22 = .ok (.if_icmp .ne 27, 3) := by decide +kernel
theorem dX21_finish_25 : decode cX21_finish 25 = .ok (.iload_n 1, 1) := by decide +kernel
theorem dX21_finish_26 : decode cX21_finish 26 = .ok (.iconst 1, 1) := by decide +kernel
theorem dX21_finish_27 : decode cX21_finish 27 = .ok (.if_icmp .lt 10, 3) := by decide +kernel
theorem dX21_finish_30 : decode cX21_finish 30 = .ok (.iload_n 1, 1) := by decide +kernel
theorem dX21_finish_31 : decode cX21_finish 31 = .ok (.ldc_w 938, 3) := by decide +kernel
theorem dX21_finish_34 : decode cX21_finish 34 = .ok (.if_icmp .le 7, 3) := by decide +kernel
theorem dX21_finish_37 : decode cX21_finish 37 = .ok (.aconst_null, 1) := by decide +kernel
theorem dX21_finish_38 : decode cX21_finish 38 = .ok (.goto 16, 3) := by decide +kernel
theorem dX21_finish_41 : decode cX21_finish 41 = .ok (.aload_n 0, 1) := by decide +kernel
theorem dX21_finish_42 : decode cX21_finish 42 = .ok (.iload_n 1, 1) := by decide +kernel
theorem dX21_finish_43 : decode cX21_finish 43 = .ok (.invokevirtual 726, 3) := by decide +kernel
theorem dX21_finish_46 : decode cX21_finish 46 = .ok (.goto 8, 3) := by decide +kernel
theorem dX21_finish_49 : decode cX21_finish 49 = .ok (.aload_n 0, 1) := by decide +kernel
theorem dX21_finish_50 : decode cX21_finish 50 = .ok (.iload_n 1, 1) := by decide +kernel
theorem dX21_finish_51 : decode cX21_finish 51 = .ok (.invokevirtual 954, 3) := by decide +kernel
theorem dX21_finish_54 : decode cX21_finish 54 = .ok (.astore_n 3, 1) := by decide +kernel
theorem dX21_finish_55 : decode cX21_finish 55 = .ok (.aload_n 3, 1) := by decide +kernel
theorem dX21_finish_56 : decode cX21_finish 56 = .ok (.ifnonnull 9, 3) := by decide +kernel
theorem dX21_finish_59 : decode cX21_finish 59 = .ok (.aload_n 0, 1) := by decide +kernel
theorem dX21_finish_60 : decode cX21_finish 60 = .ok (.iconst 1, 1) := by decide +kernel
theorem dX21_finish_61 : decode cX21_finish 61 = .ok (.putfield 145, 3) := by decide +kernel
theorem dX21_finish_64 : decode cX21_finish 64 = .ok (.return_, 1) := by decide +kernel
theorem dX21_finish_65 : decode cX21_finish 65 = .ok (.iload_n 2, 1) := by decide +kernel
theorem dX21_finish_66 : decode cX21_finish 66 = .ok (.iconst 1, 1) := by decide +kernel
theorem dX21_finish_67 : decode cX21_finish 67 = .ok (.if_icmp .ne 20, 3) := by decide +kernel
theorem dX21_finish_70 : decode cX21_finish 70 = .ok (.aload_n 3, 1) := by decide +kernel
theorem dX21_finish_71 : decode cX21_finish 71 = .ok (.getfield 803, 3) := by decide +kernel
theorem dX21_finish_74 : decode cX21_finish 74 = .ok (.ifCond .ne 38, 3) := by decide +kernel
theorem dX21_finish_77 : decode cX21_finish 77 = .ok (.aload_n 3, 1) := by decide +kernel
theorem dX21_finish_78 : decode cX21_finish 78 = .ok (.getfield 798, 3) := by decide +kernel
theorem dX21_finish_81 : decode cX21_finish 81 = .ok (.ifCond .eq 37, 3) := by decide +kernel
theorem dX21_finish_84 : decode cX21_finish 84 = .ok (.goto 28, 3) := by decide +kernel
theorem dX21_finish_87 : decode cX21_finish 87 = .ok (.aload_n 3, 1) := by decide +kernel
theorem dX21_finish_88 : decode cX21_finish 88 = .ok (.getfield 824, 3) := by decide +kernel
theorem dX21_finish_91 : decode cX21_finish 91 = .ok (.ifCond .ne 21, 3) := by decide +kernel
theorem dX21_finish_94 : decode cX21_finish 94 = .ok (.iload_n 2, 1) := by decide +kernel
theorem dX21_finish_95 : decode cX21_finish 95 = .ok (.ifCond .ne 23, 3) := by decide +kernel
theorem dX21_finish_98 : decode cX21_finish 98 = .ok (.aload_n 3, 1) := by decide +kernel
theorem dX21_finish_99 : decode cX21_finish 99 = .ok (.getfield 803, 3) := by decide +kernel
theorem dX21_finish_102 : decode cX21_finish 102 = .ok (.ifCond .ne 10, 3) := by decide +kernel
theorem dX21_finish_105 : decode cX21_finish 105 = .ok (.aload_n 3, 1) := by decide +kernel
theorem dX21_finish_106 : decode cX21_finish 106 = .ok (.getfield 798, 3) := by decide +kernel
theorem dX21_finish_109 : decode cX21_finish 109 = .ok (.ifCond .eq 9, 3) := by decide +kernel
theorem dX21_finish_112 : decode cX21_finish 112 = .ok (.aload_n 0, 1) := by decide +kernel
theorem dX21_finish_113 : decode cX21_finish 113 = .ok (.iconst 2, 1) := by decide +kernel
theorem dX21_finish_114 : decode cX21_finish 114 = .ok (.putfield 145, 3) := by decide +kernel
theorem dX21_finish_117 : decode cX21_finish 117 = .ok (.return_, 1) := by decide +kernel
theorem dX21_finish_118 : decode cX21_finish 118 = .ok (.iload_n 2, 1) := by decide +kernel
theorem dX21_finish_119 : decode cX21_finish 119 = .ok (.iconst 1, 1) := by decide +kernel
theorem dX21_finish_120 : decode cX21_finish 120 = .ok (.if_icmp .ne 35, 3) := by decide +kernel
theorem dX21_finish_123 : decode cX21_finish 123 = .ok (.aload_n 3, 1) := by decide +kernel
theorem dX21_finish_124 : decode cX21_finish 124 = .ok (.iconst 1, 1) := by decide +kernel
theorem dX21_finish_125 : decode cX21_finish 125 = .ok (.putfield 798, 3) := by decide +kernel
theorem dX21_finish_128 : decode cX21_finish 128 = .ok (.aload_n 3, 1) := by decide +kernel
theorem dX21_finish_129 : decode cX21_finish 129 = .ok (.getfield 800, 3) := by decide +kernel
theorem dX21_finish_132 : decode cX21_finish 132 = .ok (.invokevirtual 171, 3) := by decide +kernel
theorem dX21_finish_135 : decode cX21_finish 135 = .ok (.aload_n 3, 1) := by decide +kernel
theorem dX21_finish_136 : decode cX21_finish 136 = .ok (.getfield 710, 3) := by decide +kernel
theorem dX21_finish_139 : decode cX21_finish 139 = .ok (.iconst 1, 1) := by decide +kernel
theorem dX21_finish_140 : decode cX21_finish 140 = .ok (.if_icmp .ne 14, 3) := by decide +kernel
theorem dX21_finish_143 : decode cX21_finish 143 = .ok (.aload_n 0, 1) := by decide +kernel
theorem dX21_finish_144 : decode cX21_finish 144 = .ok (.aload_n 0, 1) := by decide +kernel
theorem dX21_finish_145 : decode cX21_finish 145 = .ok (.getfield 45, 3) := by decide +kernel
theorem dX21_finish_148 : decode cX21_finish 148 = .ok (.iconst 0, 1) := by decide +kernel
theorem dX21_finish_149 : decode cX21_finish 149 = .ok (.aaload, 1) := by decide +kernel
theorem dX21_finish_150 : decode cX21_finish 150 = .ok (.aload_n 3, 1) := by decide +kernel
theorem dX21_finish_151 : decode cX21_finish 151 = .ok (.invokevirtual 781, 3) := by decide +kernel
theorem dX21_finish_154 : decode cX21_finish 154 = .ok (.return_, 1) := by decide +kernel
theorem dX21_finish_155 : decode cX21_finish 155 = .ok (.aload_n 3, 1) := by decide +kernel
theorem dX21_finish_156 : decode cX21_finish 156 = .ok (.iconst 1, 1) := by decide +kernel
theorem dX21_finish_157 : decode cX21_finish 157 = .ok (.putfield 824, 3) := by decide +kernel
theorem dX21_finish_160 : decode cX21_finish 160 = .ok (.aload_n 0, 1) := by decide +kernel
theorem dX21_finish_161 : decode cX21_finish 161 = .ok (.aload_n 0, 1) := by decide +kernel
theorem dX21_finish_162 : decode cX21_finish 162 = .ok (.getfield 45, 3) := by decide +kernel
theorem dX21_finish_165 : decode cX21_finish 165 = .ok (.iload_n 2, 1) := by decide +kernel
theorem dX21_finish_166 : decode cX21_finish 166 = .ok (.iconst 2, 1) := by decide +kernel
theorem dX21_finish_167 : decode cX21_finish 167 = .ok (.if_icmp .ne 7, 3) := by decide +kernel
theorem dX21_finish_170 : decode cX21_finish 170 = .ok (.iconst 1, 1) := by decide +kernel
theorem dX21_finish_171 : decode cX21_finish 171 = .ok (.goto 4, 3) := by decide +kernel
theorem dX21_finish_174 : decode cX21_finish 174 = .ok (.iconst 0, 1) := by decide +kernel
theorem dX21_finish_175 : decode cX21_finish 175 = .ok (.aaload, 1) := by decide +kernel
theorem dX21_finish_176 : decode cX21_finish 176 = .ok (.aload_n 3, 1) := by decide +kernel
theorem dX21_finish_177 : decode cX21_finish 177 = .ok (.invokevirtual 764, 3) := by decide +kernel
theorem dX21_finish_180 : decode cX21_finish 180 = .ok (.return_, 1) := by decide +kernel
theorem dX21_rekey_0 : decode cX21_rekey 0 = .ok (.aload_n 0, 1) := by decide +kernel
theorem dX21_rekey_1 : decode cX21_rekey 1 = .ok (.iload_n 1, 1) := by decide +kernel
theorem dX21_rekey_2 : decode cX21_rekey 2 = .ok (.invokestatic 934, 3) := by decide +kernel
theorem dX21_rekey_5 : decode cX21_rekey 5 = .ok (.ifCond .eq 7, 3) := by decide +kernel
theorem dX21_rekey_8 : decode cX21_rekey 8 = .ok (.iconst 1, 1) := by decide +kernel
theorem dX21_rekey_9 : decode cX21_rekey 9 = .ok (.goto 45, 3) := by decide +kernel
theorem dX21_rekey_12 : decode cX21_rekey 12 = .ok (.aload_n 0, 1) := by decide +kernel
theorem dX21_rekey_13 : decode cX21_rekey 13 = .ok (.getfield 45, 3) := by decide +kernel
theorem dX21_rekey_16 : decode cX21_rekey 16 = .ok (.iload_n 1, 1) := by decide +kernel
theorem dX21_rekey_17 : decode cX21_rekey 17 = .ok (.aaload, 1) := by decide +kernel
theorem dX21_rekey_18 : decode cX21_rekey 18 = .ok (.getfield 195, 3) := by decide +kernel
theorem dX21_rekey_21 : decode cX21_rekey 21 = .ok (.iconst 1, 1) := by decide +kernel
theorem dX21_rekey_22 : decode cX21_rekey 22 = .ok (.if_icmp .ne 27, 3) := by decide +kernel
theorem dX21_rekey_25 : decode cX21_rekey 25 = .ok (.aload_n 0, 1) := by decide +kernel
theorem dX21_rekey_26 : decode cX21_rekey 26 = .ok (.getfield 45, 3) := by decide +kernel
theorem dX21_rekey_29 : decode cX21_rekey 29 = .ok (.iload_n 1, 1) := by decide +kernel
theorem dX21_rekey_30 : decode cX21_rekey 30 = .ok (.aaload, 1) := by decide +kernel
theorem dX21_rekey_31 : decode cX21_rekey 31 = .ok (.getfield 265, 3) := by decide +kernel
theorem dX21_rekey_34 : decode cX21_rekey 34 = .ok (.ifCond .eq 15, 3) := by decide +kernel
theorem dX21_rekey_37 : decode cX21_rekey 37 = .ok (.aload_n 0, 1) := by decide +kernel
theorem dX21_rekey_38 : decode cX21_rekey 38 = .ok (.getfield 45, 3) := by decide +kernel
theorem dX21_rekey_41 : decode cX21_rekey 41 = .ok (.iload_n 1, 1) := by decide +kernel
theorem dX21_rekey_42 : decode cX21_rekey 42 = .ok (.aaload, 1) := by decide +kernel
theorem dX21_rekey_43 : decode cX21_rekey 43 = .ok (.invokestatic 268, 3) := by decide +kernel
theorem dX21_rekey_46 : decode cX21_rekey 46 = .ok (.ifCond .ne 7, 3) := by decide +kernel
theorem dX21_rekey_49 : decode cX21_rekey 49 = .ok (.iconst 2, 1) := by decide +kernel
theorem dX21_rekey_50 : decode cX21_rekey 50 = .ok (.goto 4, 3) := by decide +kernel
theorem dX21_rekey_53 : decode cX21_rekey 53 = .ok (.iconst 0, 1) := by decide +kernel
theorem dX21_rekey_54 : decode cX21_rekey 54 = .ok (.putfield 145, 3) := by decide +kernel
theorem dX21_rekey_57 : decode cX21_rekey 57 = .ok (.aload_n 0, 1) := by decide +kernel
theorem dX21_rekey_58 : decode cX21_rekey 58 = .ok (.getfield 145, 3) := by decide +kernel
theorem dX21_rekey_61 : decode cX21_rekey 61 = .ok (.ifCond .ne 13, 3) := by decide +kernel
theorem dX21_rekey_64 : decode cX21_rekey 64 = .ok (.aload_n 0, 1) := by decide +kernel
theorem dX21_rekey_65 : decode cX21_rekey 65 = .ok (.aload_n 0, 1) := by decide +kernel
theorem dX21_rekey_66 : decode cX21_rekey 66 = .ok (.getfield 45, 3) := by decide +kernel
theorem dX21_rekey_69 : decode cX21_rekey 69 = .ok (.iload_n 1, 1) := by decide +kernel
theorem dX21_rekey_70 : decode cX21_rekey 70 = .ok (.aaload, 1) := by decide +kernel
theorem dX21_rekey_71 : decode cX21_rekey 71 = .ok (.invokevirtual 275, 3) := by decide +kernel
theorem dX21_rekey_74 : decode cX21_rekey 74 = .ok (.return_, 1) := by decide +kernel
theorem dX21_quit_0 : decode cX21_quit 0 = .ok (.aload_n 0, 1) := by decide +kernel
theorem dX21_quit_1 : decode cX21_quit 1 = .ok (.iload_n 1, 1) := by decide +kernel
theorem dX21_quit_2 : decode cX21_quit 2 = .ok (.invokestatic 934, 3) := by decide +kernel
theorem dX21_quit_5 : decode cX21_quit 5 = .ok (.ifCond .eq 7, 3) := by decide +kernel
theorem dX21_quit_8 : decode cX21_quit 8 = .ok (.iconst 1, 1) := by decide +kernel
theorem dX21_quit_9 : decode cX21_quit 9 = .ok (.goto 21, 3) := by decide +kernel
theorem dX21_quit_12 : decode cX21_quit 12 = .ok (.aload_n 0, 1) := by decide +kernel
theorem dX21_quit_13 : decode cX21_quit 13 = .ok (.getfield 45, 3) := by decide +kernel
theorem dX21_quit_16 : decode cX21_quit 16 = .ok (.iload_n 1, 1) := by decide +kernel
theorem dX21_quit_17 : decode cX21_quit 17 = .ok (.aaload, 1) := by decide +kernel
theorem dX21_quit_18 : decode cX21_quit 18 = .ok (.getfield 195, 3) := by decide +kernel
theorem dX21_quit_21 : decode cX21_quit 21 = .ok (.iconst 1, 1) := by decide +kernel
theorem dX21_quit_22 : decode cX21_quit 22 = .ok (.if_icmp .eq 7, 3) := by decide +kernel
theorem dX21_quit_25 : decode cX21_quit 25 = .ok (.iconst 2, 1) := by decide +kernel
theorem dX21_quit_26 : decode cX21_quit 26 = .ok (.goto 4, 3) := by decide +kernel
theorem dX21_quit_29 : decode cX21_quit 29 = .ok (.iconst 0, 1) := by decide +kernel
theorem dX21_quit_30 : decode cX21_quit 30 = .ok (.putfield 145, 3) := by decide +kernel
theorem dX21_quit_33 : decode cX21_quit 33 = .ok (.aload_n 0, 1) := by decide +kernel
theorem dX21_quit_34 : decode cX21_quit 34 = .ok (.getfield 145, 3) := by decide +kernel
theorem dX21_quit_37 : decode cX21_quit 37 = .ok (.ifCond .ne 16, 3) := by decide +kernel
theorem dX21_quit_40 : decode cX21_quit 40 = .ok (.aload_n 0, 1) := by decide +kernel
theorem dX21_quit_41 : decode cX21_quit 41 = .ok (.aload_n 0, 1) := by decide +kernel
theorem dX21_quit_42 : decode cX21_quit 42 = .ok (.getfield 45, 3) := by decide +kernel
theorem dX21_quit_45 : decode cX21_quit 45 = .ok (.iload_n 1, 1) := by decide +kernel
theorem dX21_quit_46 : decode cX21_quit 46 = .ok (.aaload, 1) := by decide +kernel
theorem dX21_quit_47 : decode cX21_quit 47 = .ok (.bipush 11, 2) := by decide +kernel
theorem dX21_quit_49 : decode cX21_quit 49 = .ok (.iconst 3, 1) := by decide +kernel
theorem dX21_quit_50 : decode cX21_quit 50 = .ok (.invokevirtual 285, 3) := by decide +kernel
theorem dX21_quit_53 : decode cX21_quit 53 = .ok (.return_, 1) := by decide +kernel
theorem dX21_about_0 : decode cX21_about 0 = .ok (.aload_n 0, 1) := by decide +kernel
theorem dX21_about_1 : decode cX21_about 1 = .ok (.iconst 0, 1) := by decide +kernel
theorem dX21_about_2 : decode cX21_about 2 = .ok (.putfield 145, 3) := by decide +kernel
theorem dX21_about_5 : decode cX21_about 5 = .ok (.iload_n 1, 1) := by decide +kernel
theorem dX21_about_6 : decode cX21_about 6 = .ok (.invokestatic 934, 3) := by decide +kernel
theorem dX21_about_9 : decode cX21_about 9 = .ok (.ifCond .eq 9, 3) := by decide +kernel
theorem dX21_about_12 : decode cX21_about 12 = .ok (.aload_n 0, 1) := by decide +kernel
theorem dX21_about_13 : decode cX21_about 13 = .ok (.iconst 1, 1) := by decide +kernel
theorem dX21_about_14 : decode cX21_about 14 = .ok (.invokevirtual 926, 3) := by decide +kernel
theorem dX21_about_17 : decode cX21_about 17 = .ok (.ireturn, 1) := by decide +kernel
theorem dX21_about_18 : decode cX21_about 18 = .ok (.aload_n 0, 1) := by decide +kernel
theorem dX21_about_19 : decode cX21_about 19 = .ok (.getfield 45, 3) := by decide +kernel
theorem dX21_about_22 : decode cX21_about 22 = .ok (.iload_n 1, 1) := by decide +kernel
theorem dX21_about_23 : decode cX21_about 23 = .ok (.aaload, 1) := by decide +kernel
theorem dX21_about_24 : decode cX21_about 24 = .ok (.astore_n 3, 1) := by decide +kernel
theorem dX21_about_25 : decode cX21_about 25 = .ok (.iconst 0, 1) := by decide +kernel
theorem dX21_about_26 : decode cX21_about 26 = .ok (.istore 4, 2) := by decide +kernel
theorem dX21_about_28 : decode cX21_about 28 = .ok (.iload_n 2, 1) := by decide +kernel
theorem dX21_about_29 : decode cX21_about 29 = .ok (.tableswitch 237 0 12 #[67, 72, 77, 82, 87, 92, 102, 110, 118, 131, 166, 171, 232], 67) := by decide +kernel
theorem dX21_about_96 : decode cX21_about 96 = .ok (.aload_n 3, 1) := by decide +kernel
theorem dX21_about_97 : decode cX21_about 97 = .ok (.getfield 195, 3) := by decide +kernel
theorem dX21_about_100 : decode cX21_about 100 = .ok (.ireturn, 1) := by decide +kernel
theorem dX21_about_101 : decode cX21_about 101 = .ok (.aload_n 3, 1) := by decide +kernel
theorem dX21_about_102 : decode cX21_about 102 = .ok (.getfield 229, 3) := by decide +kernel
theorem dX21_about_105 : decode cX21_about 105 = .ok (.ireturn, 1) := by decide +kernel
theorem dX21_about_106 : decode cX21_about 106 = .ok (.aload_n 3, 1) := by decide +kernel
theorem dX21_about_107 : decode cX21_about 107 = .ok (.getfield 234, 3) := by decide +kernel
theorem dX21_about_110 : decode cX21_about 110 = .ok (.ireturn, 1) := by decide +kernel
theorem dX21_about_111 : decode cX21_about 111 = .ok (.aload_n 3, 1) := by decide +kernel
theorem dX21_about_112 : decode cX21_about 112 = .ok (.getfield 586, 3) := by decide +kernel
theorem dX21_about_115 : decode cX21_about 115 = .ok (.ireturn, 1) := by decide +kernel
theorem dX21_about_116 : decode cX21_about 116 = .ok (.aload_n 3, 1) := by decide +kernel
theorem dX21_about_117 : decode cX21_about 117 = .ok (.getfield 265, 3) := by decide +kernel
theorem dX21_about_120 : decode cX21_about 120 = .ok (.ireturn, 1) := by decide +kernel
theorem dX21_about_121 : decode cX21_about 121 = .ok (.aload_n 0, 1) := by decide +kernel
theorem dX21_about_122 : decode cX21_about 122 = .ok (.getfield 55, 3) := by decide +kernel
theorem dX21_about_125 : decode cX21_about 125 = .ok (.iload_n 1, 1) := by decide +kernel
theorem dX21_about_126 : decode cX21_about 126 = .ok (.aaload, 1) := by decide +kernel
theorem dX21_about_127 : decode cX21_about 127 = .ok (.invokevirtual 224, 3) := by decide +kernel
theorem dX21_about_130 : decode cX21_about 130 = .ok (.ireturn, 1) := by decide +kernel
theorem dX21_about_131 : decode cX21_about 131 = .ok (.aload_n 3, 1) := by decide +kernel
theorem dX21_about_132 : decode cX21_about 132 = .ok (.getfield 198, 3) := by decide +kernel
theorem dX21_about_135 : decode cX21_about 135 = .ok (.getfield 202, 3) := by decide +kernel
theorem dX21_about_138 : decode cX21_about 138 = .ok (.ireturn, 1) := by decide +kernel
theorem dX21_about_139 : decode cX21_about 139 = .ok (.aload_n 3, 1) := by decide +kernel
theorem dX21_about_140 : decode cX21_about 140 = .ok (.getfield 198, 3) := by decide +kernel
theorem dX21_about_143 : decode cX21_about 143 = .ok (.getfield 169, 3) := by decide +kernel
theorem dX21_about_146 : decode cX21_about 146 = .ok (.ireturn, 1) := by decide +kernel
theorem dX21_about_147 : decode cX21_about 147 = .ok (.aload_n 3, 1) := by decide +kernel
theorem dX21_about_148 : decode cX21_about 148 = .ok (.getfield 607, 3) := by decide +kernel
theorem dX21_about_151 : decode cX21_about 151 = .ok (.ifCond .eq 7, 3) := by decide +kernel
theorem dX21_about_154 : decode cX21_about 154 = .ok (.iconst 1, 1) := by decide +kernel
theorem dX21_about_155 : decode cX21_about 155 = .ok (.goto 4, 3) := by decide +kernel
theorem dX21_about_158 : decode cX21_about 158 = .ok (.iconst 0, 1) := by decide +kernel
theorem dX21_about_159 : decode cX21_about 159 = .ok (.ireturn, 1) := by decide +kernel
theorem dX21_about_160 : decode cX21_about 160 = .ok (.iconst 0, 1) := by decide +kernel
theorem dX21_about_161 : decode cX21_about 161 = .ok (.istore 5, 2) := by decide +kernel
theorem dX21_about_163 : decode cX21_about 163 = .ok (.iload 5, 2) := by decide +kernel
theorem dX21_about_165 : decode cX21_about 165 = .ok (.bipush 16, 2) := by decide +kernel
theorem dX21_about_167 : decode cX21_about 167 = .ok (.if_icmp .ge 25, 3) := by decide +kernel
theorem dX21_about_170 : decode cX21_about 170 = .ok (.aload_n 3, 1) := by decide +kernel
theorem dX21_about_171 : decode cX21_about 171 = .ok (.getfield 706, 3) := by decide +kernel
theorem dX21_about_174 : decode cX21_about 174 = .ok (.iload 5, 2) := by decide +kernel
theorem dX21_about_176 : decode cX21_about 176 = .ok (.aaload, 1) := by decide +kernel
theorem dX21_about_177 : decode cX21_about 177 = .ok (.invokestatic 720, 3) := by decide +kernel
theorem dX21_about_180 : decode cX21_about 180 = .ok (.ifCond .eq 6, 3) := by decide +kernel
theorem dX21_about_183 : decode cX21_about 183 = .ok (.iinc 4 1, 3) := by decide +kernel
theorem dX21_about_186 : decode cX21_about 186 = .ok (.iinc 5 1, 3) := by decide +kernel
theorem dX21_about_189 : decode cX21_about 189 = .ok (.goto (-26), 3) := by decide +kernel
theorem dX21_about_192 : decode cX21_about 192 = .ok (.iload 4, 2) := by decide +kernel
theorem dX21_about_194 : decode cX21_about 194 = .ok (.ireturn, 1) := by decide +kernel
theorem dX21_about_195 : decode cX21_about 195 = .ok (.aload_n 3, 1) := by decide +kernel
theorem dX21_about_196 : decode cX21_about 196 = .ok (.getfield 655, 3) := by decide +kernel
theorem dX21_about_199 : decode cX21_about 199 = .ok (.ireturn, 1) := by decide +kernel
theorem dX21_about_200 : decode cX21_about 200 = .ok (.aload_n 0, 1) := by decide +kernel
theorem dX21_about_201 : decode cX21_about 201 = .ok (.aload_n 3, 1) := by decide +kernel
theorem dX21_about_202 : decode cX21_about 202 = .ok (.invokevirtual 502, 3) := by decide +kernel
theorem dX21_about_205 : decode cX21_about 205 = .ok (.astore 5, 2) := by decide +kernel
theorem dX21_about_207 : decode cX21_about 207 = .ok (.aload 5, 2) := by decide +kernel
theorem dX21_about_209 : decode cX21_about 209 = .ok (.ifnonnull 7, 3) := by decide +kernel
theorem dX21_about_212 : decode cX21_about 212 = .ok (.iconst 0, 1) := by decide +kernel
theorem dX21_about_213 : decode cX21_about 213 = .ok (.goto 47, 3) := by decide +kernel
theorem dX21_about_216 : decode cX21_about 216 = .ok (.aload 5, 2) := by decide +kernel
theorem dX21_about_218 : decode cX21_about 218 = .ok (.iconst 0, 1) := by decide +kernel
theorem dX21_about_219 : decode cX21_about 219 = .ok (.baload, 1) := by decide +kernel
theorem dX21_about_220 : decode cX21_about 220 = .ok (.sipush 255, 3) := by decide +kernel
theorem dX21_about_223 : decode cX21_about 223 = .ok (.iand, 1) := by decide +kernel
theorem dX21_about_224 : decode cX21_about 224 = .ok (.bipush 24, 2) := by decide +kernel
theorem dX21_about_226 : decode cX21_about 226 = .ok (.ishl, 1) := by decide +kernel
theorem dX21_about_227 : decode cX21_about 227 = .ok (.aload 5, 2) := by decide +kernel
theorem dX21_about_229 : decode cX21_about 229 = .ok (.iconst 1, 1) := by decide +kernel
theorem dX21_about_230 : decode cX21_about 230 = .ok (.baload, 1) := by decide +kernel
theorem dX21_about_231 : decode cX21_about 231 = .ok (.sipush 255, 3) := by decide +kernel
theorem dX21_about_234 : decode cX21_about 234 = .ok (.iand, 1) := by decide +kernel
theorem dX21_about_235 : decode cX21_about 235 = .ok (.bipush 16, 2) := by decide +kernel
theorem dX21_about_237 : decode cX21_about 237 = .ok (.ishl, 1) := by decide +kernel
theorem dX21_about_238 : decode cX21_about 238 = .ok (.ior, 1) := by decide +kernel
theorem dX21_about_239 : decode cX21_about 239 = .ok (.aload 5, 2) := by decide +kernel
theorem dX21_about_241 : decode cX21_about 241 = .ok (.iconst 2, 1) := by decide +kernel
theorem dX21_about_242 : decode cX21_about 242 = .ok (.baload, 1) := by decide +kernel
theorem dX21_about_243 : decode cX21_about 243 = .ok (.sipush 255, 3) := by decide +kernel
theorem dX21_about_246 : decode cX21_about 246 = .ok (.iand, 1) := by decide +kernel
theorem dX21_about_247 : decode cX21_about 247 = .ok (.bipush 8, 2) := by decide +kernel
theorem dX21_about_249 : decode cX21_about 249 = .ok (.ishl, 1) := by decide +kernel
theorem dX21_about_250 : decode cX21_about 250 = .ok (.ior, 1) := by decide +kernel
theorem dX21_about_251 : decode cX21_about 251 = .ok (.aload 5, 2) := by decide +kernel
theorem dX21_about_253 : decode cX21_about 253 = .ok (.iconst 3, 1) := by decide +kernel
theorem dX21_about_254 : decode cX21_about 254 = .ok (.baload, 1) := by decide +kernel
theorem dX21_about_255 : decode cX21_about 255 = .ok (.sipush 255, 3) := by decide +kernel
theorem dX21_about_258 : decode cX21_about 258 = .ok (.iand, 1) := by decide +kernel
theorem dX21_about_259 : decode cX21_about 259 = .ok (.ior, 1) := by decide +kernel
theorem dX21_about_260 : decode cX21_about 260 = .ok (.ireturn, 1) := by decide +kernel
theorem dX21_about_261 : decode cX21_about 261 = .ok (.aload_n 0, 1) := by decide +kernel
theorem dX21_about_262 : decode cX21_about 262 = .ok (.getfield 861, 3) := by decide +kernel
theorem dX21_about_265 : decode cX21_about 265 = .ok (.ireturn, 1) := by decide +kernel
theorem dX21_about_266 : decode cX21_about 266 = .ok (.aload_n 0, 1) := by decide +kernel
theorem dX21_about_267 : decode cX21_about 267 = .ok (.iconst 2, 1) := by decide +kernel
theorem dX21_about_268 : decode cX21_about 268 = .ok (.invokevirtual 926, 3) := by decide +kernel
theorem dX21_about_271 : decode cX21_about 271 = .ok (.ireturn, 1) := by decide +kernel
theorem dX21_channel_0 : decode cX21_channel 0 = .ok (.aload_n 0, 1) := by decide +kernel
theorem dX21_channel_1 : decode cX21_channel 1 = .ok (.iconst 0, 1) := by decide +kernel
theorem dX21_channel_2 : decode cX21_channel 2 = .ok (.putfield 145, 3) := by decide +kernel
theorem dX21_channel_5 : decode cX21_channel 5 = .ok (.iload_n 1, 1) := by decide +kernel
theorem dX21_channel_6 : decode cX21_channel 6 = .ok (.ifCond .lt 26, 3) := by decide +kernel
theorem dX21_channel_9 : decode cX21_channel 9 = .ok (.iload_n 1, 1) := by decide +kernel
theorem dX21_channel_10 : decode cX21_channel 10 = .ok (.bipush 15, 2) := by decide +kernel
theorem dX21_channel_12 : decode cX21_channel 12 = .ok (.if_icmp .gt 20, 3) := by decide +kernel
theorem dX21_channel_15 : decode cX21_channel 15 = .ok (.aload_n 0, 1) := by decide +kernel
theorem dX21_channel_16 : decode cX21_channel 16 = .ok (.getfield 45, 3) := by decide +kernel
theorem dX21_channel_19 : decode cX21_channel 19 = .ok (.iconst 0, 1) := by decide +kernel
theorem dX21_channel_20 : decode cX21_channel 20 = .ok (.aaload, 1) := by decide +kernel
theorem dX21_channel_21 : decode cX21_channel 21 = .ok (.getfield 706, 3) := by decide +kernel
theorem dX21_channel_24 : decode cX21_channel 24 = .ok (.iload_n 1, 1) := by decide +kernel
theorem dX21_channel_25 : decode cX21_channel 25 = .ok (.aaload, 1) := by decide +kernel
theorem dX21_channel_26 : decode cX21_channel 26 = .ok (.getfield 710, 3) := by decide +kernel
theorem dX21_channel_29 : decode cX21_channel 29 = .ok (.ifCond .ge 9, 3) := by decide +kernel
theorem dX21_channel_32 : decode cX21_channel 32 = .ok (.aload_n 0, 1) := by decide +kernel
theorem dX21_channel_33 : decode cX21_channel 33 = .ok (.iconst 1, 1) := by decide +kernel
theorem dX21_channel_34 : decode cX21_channel 34 = .ok (.invokevirtual 926, 3) := by decide +kernel
theorem dX21_channel_37 : decode cX21_channel 37 = .ok (.ireturn, 1) := by decide +kernel
theorem dX21_channel_38 : decode cX21_channel 38 = .ok (.aload_n 0, 1) := by decide +kernel
theorem dX21_channel_39 : decode cX21_channel 39 = .ok (.getfield 45, 3) := by decide +kernel
theorem dX21_channel_42 : decode cX21_channel 42 = .ok (.iconst 0, 1) := by decide +kernel
theorem dX21_channel_43 : decode cX21_channel 43 = .ok (.aaload, 1) := by decide +kernel
theorem dX21_channel_44 : decode cX21_channel 44 = .ok (.getfield 706, 3) := by decide +kernel
theorem dX21_channel_47 : decode cX21_channel 47 = .ok (.iload_n 1, 1) := by decide +kernel
theorem dX21_channel_48 : decode cX21_channel 48 = .ok (.aaload, 1) := by decide +kernel
theorem dX21_channel_49 : decode cX21_channel 49 = .ok (.astore_n 3, 1) := by decide +kernel
theorem dX21_channel_50 : decode cX21_channel 50 = .ok (.iload_n 2, 1) := by decide +kernel
theorem dX21_channel_51 : decode cX21_channel 51 = .ok (.tableswitch 138 0 10 #[57, 62, 67, 72, 80, 88, 96, 102, 108, 128, 133], 57) := by decide +kernel
theorem dX21_channel_108 : decode cX21_channel 108 = .ok (.aload_n 3, 1) := by decide +kernel
theorem dX21_channel_109 : decode cX21_channel 109 = .ok (.getfield 710, 3) := by decide +kernel
theorem dX21_channel_112 : decode cX21_channel 112 = .ok (.ireturn, 1) := by decide +kernel
theorem dX21_channel_113 : decode cX21_channel 113 = .ok (.aload_n 3, 1) := by decide +kernel
theorem dX21_channel_114 : decode cX21_channel 114 = .ok (.getfield 802, 3) := by decide +kernel
theorem dX21_channel_117 : decode cX21_channel 117 = .ok (.ireturn, 1) := by decide +kernel
theorem dX21_channel_118 : decode cX21_channel 118 = .ok (.aload_n 3, 1) := by decide +kernel
theorem dX21_channel_119 : decode cX21_channel 119 = .ok (.getfield 829, 3) := by decide +kernel
theorem dX21_channel_122 : decode cX21_channel 122 = .ok (.ireturn, 1) := by decide +kernel
theorem dX21_channel_123 : decode cX21_channel 123 = .ok (.aload_n 3, 1) := by decide +kernel
theorem dX21_channel_124 : decode cX21_channel 124 = .ok (.getfield 840, 3) := by decide +kernel
theorem dX21_channel_127 : decode cX21_channel 127 = .ok (.invokevirtual 224, 3) := by decide +kernel
theorem dX21_channel_130 : decode cX21_channel 130 = .ok (.ireturn, 1) := by decide +kernel
theorem dX21_channel_131 : decode cX21_channel 131 = .ok (.aload_n 3, 1) := by decide +kernel
theorem dX21_channel_132 : decode cX21_channel 132 = .ok (.getfield 837, 3) := by decide +kernel
theorem dX21_channel_135 : decode cX21_channel 135 = .ok (.invokevirtual 224, 3) := by decide +kernel
theorem dX21_channel_138 : decode cX21_channel 138 = .ok (.ireturn, 1) := by decide +kernel
theorem dX21_channel_139 : decode cX21_channel 139 = .ok (.aload_n 3, 1) := by decide +kernel
theorem dX21_channel_140 : decode cX21_channel 140 = .ok (.getfield 800, 3) := by decide +kernel
theorem dX21_channel_143 : decode cX21_channel 143 = .ok (.invokevirtual 224, 3) := by decide +kernel
theorem dX21_channel_146 : decode cX21_channel 146 = .ok (.ireturn, 1) := by decide +kernel
theorem dX21_channel_147 : decode cX21_channel 147 = .ok (.aload_n 3, 1) := by decide +kernel
theorem dX21_channel_148 : decode cX21_channel 148 = .ok (.getfield 735, 3) := by decide +kernel
theorem dX21_channel_151 : decode cX21_channel 151 = .ok (.l2i, 1) := by decide +kernel
theorem dX21_channel_152 : decode cX21_channel 152 = .ok (.ireturn, 1) := by decide +kernel
theorem dX21_channel_153 : decode cX21_channel 153 = .ok (.aload_n 3, 1) := by decide +kernel
theorem dX21_channel_154 : decode cX21_channel 154 = .ok (.getfield 740, 3) := by decide +kernel
theorem dX21_channel_157 : decode cX21_channel 157 = .ok (.l2i, 1) := by decide +kernel
theorem dX21_channel_158 : decode cX21_channel 158 = .ok (.ireturn, 1) := by decide +kernel
theorem dX21_channel_159 : decode cX21_channel 159 = .ok (.aload_n 3, 1) := by decide +kernel
theorem dX21_channel_160 : decode cX21_channel 160 = .ok (.getfield 772, 3) := by decide +kernel
theorem dX21_channel_163 : decode cX21_channel 163 = .ok (.ifCond .ne 10, 3) := by decide +kernel
theorem dX21_channel_166 : decode cX21_channel 166 = .ok (.aload_n 3, 1) := by decide +kernel
theorem dX21_channel_167 : decode cX21_channel 167 = .ok (.getfield 761, 3) := by decide +kernel
theorem dX21_channel_170 : decode cX21_channel 170 = .ok (.ifCond .eq 7, 3) := by decide +kernel
theorem dX21_channel_173 : decode cX21_channel 173 = .ok (.iconst 1, 1) := by decide +kernel
theorem dX21_channel_174 : decode cX21_channel 174 = .ok (.goto 4, 3) := by decide +kernel
theorem dX21_channel_177 : decode cX21_channel 177 = .ok (.iconst 0, 1) := by decide +kernel
theorem dX21_channel_178 : decode cX21_channel 178 = .ok (.ireturn, 1) := by decide +kernel
theorem dX21_channel_179 : decode cX21_channel 179 = .ok (.aload_n 3, 1) := by decide +kernel
theorem dX21_channel_180 : decode cX21_channel 180 = .ok (.getfield 792, 3) := by decide +kernel
theorem dX21_channel_183 : decode cX21_channel 183 = .ok (.ireturn, 1) := by decide +kernel
theorem dX21_channel_184 : decode cX21_channel 184 = .ok (.aload_n 3, 1) := by decide +kernel
theorem dX21_channel_185 : decode cX21_channel 185 = .ok (.getfield 795, 3) := by decide +kernel
theorem dX21_channel_188 : decode cX21_channel 188 = .ok (.ireturn, 1) := by decide +kernel
theorem dX21_channel_189 : decode cX21_channel 189 = .ok (.aload_n 0, 1) := by decide +kernel
theorem dX21_channel_190 : decode cX21_channel 190 = .ok (.iconst 2, 1) := by decide +kernel
theorem dX21_channel_191 : decode cX21_channel 191 = .ok (.invokevirtual 926, 3) := by decide +kernel
theorem dX21_channel_194 : decode cX21_channel 194 = .ok (.ireturn, 1) := by decide +kernel
theorem dX21_count_0 : decode cX21_count 0 = .ok (.aload_n 0, 1) := by decide +kernel
theorem dX21_count_1 : decode cX21_count 1 = .ok (.iconst 0, 1) := by decide +kernel
theorem dX21_count_2 : decode cX21_count 2 = .ok (.putfield 145, 3) := by decide +kernel
theorem dX21_count_5 : decode cX21_count 5 = .ok (.iconst 0, 1) := by decide +kernel
theorem dX21_count_6 : decode cX21_count 6 = .ok (.istore_n 2, 1) := by decide +kernel
theorem dX21_count_7 : decode cX21_count 7 = .ok (.iload_n 1, 1) := by decide +kernel
theorem dX21_count_8 : decode cX21_count 8 = .ok (.tableswitch 110 0 4 #[36, 41, 46, 51, 105], 36) := by decide +kernel
theorem dX21_count_44 : decode cX21_count 44 = .ok (.aload_n 0, 1) := by decide +kernel
theorem dX21_count_45 : decode cX21_count 45 = .ok (.getfield 922, 3) := by decide +kernel
theorem dX21_count_48 : decode cX21_count 48 = .ok (.ireturn, 1) := by decide +kernel
theorem dX21_count_49 : decode cX21_count 49 = .ok (.aload_n 0, 1) := by decide +kernel
theorem dX21_count_50 : decode cX21_count 50 = .ok (.getfield 687, 3) := by decide +kernel
theorem dX21_count_53 : decode cX21_count 53 = .ok (.ireturn, 1) := by decide +kernel
theorem dX21_count_54 : decode cX21_count 54 = .ok (.aload_n 0, 1) := by decide +kernel
theorem dX21_count_55 : decode cX21_count 55 = .ok (.getfield 939, 3) := by decide +kernel
theorem dX21_count_58 : decode cX21_count 58 = .ok (.ireturn, 1) := by decide +kernel
theorem dX21_count_59 : decode cX21_count 59 = .ok (.iconst 0, 1) := by decide +kernel
theorem dX21_count_60 : decode cX21_count 60 = .ok (.istore_n 3, 1) := by decide +kernel
theorem dX21_count_61 : decode cX21_count 61 = .ok (.iload_n 3, 1) := by decide +kernel
theorem dX21_count_62 : decode cX21_count 62 = .ok (.bipush 16, 2) := by decide +kernel
theorem dX21_count_64 : decode cX21_count 64 = .ok (.if_icmp .ge 47, 3) := by decide +kernel
theorem dX21_count_67 : decode cX21_count 67 = .ok (.aload_n 0, 1) := by decide +kernel
theorem dX21_count_68 : decode cX21_count 68 = .ok (.getfield 45, 3) := by decide +kernel
theorem dX21_count_71 : decode cX21_count 71 = .ok (.iconst 1, 1) := by decide +kernel
theorem dX21_count_72 : decode cX21_count 72 = .ok (.aaload, 1) := by decide +kernel
theorem dX21_count_73 : decode cX21_count 73 = .ok (.getfield 706, 3) := by decide +kernel
theorem dX21_count_76 : decode cX21_count 76 = .ok (.iload_n 3, 1) := by decide +kernel
theorem dX21_count_77 : decode cX21_count 77 = .ok (.aaload, 1) := by decide +kernel
theorem dX21_count_78 : decode cX21_count 78 = .ok (.getfield 710, 3) := by decide +kernel
theorem dX21_count_81 : decode cX21_count 81 = .ok (.iconst 1, 1) := by decide +kernel
theorem dX21_count_82 : decode cX21_count 82 = .ok (.if_icmp .ne 23, 3) := by decide +kernel
theorem dX21_count_85 : decode cX21_count 85 = .ok (.aload_n 0, 1) := by decide +kernel
theorem dX21_count_86 : decode cX21_count 86 = .ok (.getfield 45, 3) := by decide +kernel
theorem dX21_count_89 : decode cX21_count 89 = .ok (.iconst 1, 1) := by decide +kernel
theorem dX21_count_90 : decode cX21_count 90 = .ok (.aaload, 1) := by decide +kernel
theorem dX21_count_91 : decode cX21_count 91 = .ok (.getfield 706, 3) := by decide +kernel
theorem dX21_count_94 : decode cX21_count 94 = .ok (.iload_n 3, 1) := by decide +kernel
theorem dX21_count_95 : decode cX21_count 95 = .ok (.aaload, 1) := by decide +kernel
theorem dX21_count_96 : decode cX21_count 96 = .ok (.getfield 746, 3) := by decide +kernel
theorem dX21_count_99 : decode cX21_count 99 = .ok (.ifCond .ne 6, 3) := by decide +kernel
theorem dX21_count_102 : decode cX21_count 102 = .ok (.iinc 2 1, 3) := by decide +kernel
theorem dX21_count_105 : decode cX21_count 105 = .ok (.iinc 3 1, 3) := by decide +kernel
theorem dX21_count_108 : decode cX21_count 108 = .ok (.goto (-47), 3) := by decide +kernel
theorem dX21_count_111 : decode cX21_count 111 = .ok (.iload_n 2, 1) := by decide +kernel
theorem dX21_count_112 : decode cX21_count 112 = .ok (.ireturn, 1) := by decide +kernel
theorem dX21_count_113 : decode cX21_count 113 = .ok (.aload_n 0, 1) := by decide +kernel
theorem dX21_count_114 : decode cX21_count 114 = .ok (.invokevirtual 917, 3) := by decide +kernel
theorem dX21_count_117 : decode cX21_count 117 = .ok (.ireturn, 1) := by decide +kernel
theorem dX21_count_118 : decode cX21_count 118 = .ok (.iconst (-1), 1) := by decide +kernel
theorem dX21_count_119 : decode cX21_count 119 = .ok (.ireturn, 1) := by decide +kernel
theorem dJ6_bitCount_0f7a4_0 : decode cJ6_bitCount_0f7a4 0 = .ok (.iload_n 0, 1) := by decide +kernel
theorem dJ6_bitCount_0f7a4_1 : decode cJ6_bitCount_0f7a4 1 = .ok (.iload_n 0, 1) := by decide +kernel
theorem dJ6_bitCount_0f7a4_2 : decode cJ6_bitCount_0f7a4 2 = .ok (.iconst 1, 1) := by decide +kernel
theorem dJ6_bitCount_0f7a4_3 : decode cJ6_bitCount_0f7a4 3 = .ok (.iushr, 1) := by decide +kernel
theorem dJ6_bitCount_0f7a4_4 : decode cJ6_bitCount_0f7a4 4 = .ok (.ldc_w 265, 3) := by decide +kernel
theorem dJ6_bitCount_0f7a4_7 : decode cJ6_bitCount_0f7a4 7 = .ok (.iand, 1) := by decide +kernel
theorem dJ6_bitCount_0f7a4_8 : decode cJ6_bitCount_0f7a4 8 = .ok (.isub, 1) := by decide +kernel
theorem dJ6_bitCount_0f7a4_9 : decode cJ6_bitCount_0f7a4 9 = .ok (.istore_n 0, 1) := by decide +kernel
theorem dJ6_bitCount_0f7a4_10 : decode cJ6_bitCount_0f7a4 10 = .ok (.iload_n 0, 1) := by decide +kernel
theorem dJ6_bitCount_0f7a4_11 : decode cJ6_bitCount_0f7a4 11 = .ok (.ldc_w 266, 3) := by decide +kernel
theorem dJ6_bitCount_0f7a4_14 : decode cJ6_bitCount_0f7a4 14 = .ok (.iand, 1) := by decide +kernel
theorem dJ6_bitCount_0f7a4_15 : decode cJ6_bitCount_0f7a4 15 = .ok (.iload_n 0, 1) := by decide +kernel
theorem dJ6_bitCount_0f7a4_16 : decode cJ6_bitCount_0f7a4 16 = .ok (.iconst 2, 1) := by decide +kernel
theorem dJ6_bitCount_0f7a4_17 : decode cJ6_bitCount_0f7a4 17 = .ok (.iushr, 1) := by decide +kernel
theorem dJ6_bitCount_0f7a4_18 : decode cJ6_bitCount_0f7a4 18 = .ok (.ldc_w 266, 3) := by decide +kernel
theorem dJ6_bitCount_0f7a4_21 : decode cJ6_bitCount_0f7a4 21 = .ok (.iand, 1) := by decide +kernel
theorem dJ6_bitCount_0f7a4_22 : decode cJ6_bitCount_0f7a4 22 = .ok (.iadd, 1) := by decide +kernel
theorem dJ6_bitCount_0f7a4_23 : decode cJ6_bitCount_0f7a4 23 = .ok (.istore_n 0, 1) := by decide +kernel
theorem dJ6_bitCount_0f7a4_24 : decode cJ6_bitCount_0f7a4 24 = .ok (.iload_n 0, 1) := by decide +kernel
theorem dJ6_bitCount_0f7a4_25 : decode cJ6_bitCount_0f7a4 25 = .ok (.iload_n 0, 1) := by decide +kernel
theorem dJ6_bitCount_0f7a4_26 : decode cJ6_bitCount_0f7a4 26 = .ok (.iconst 4, 1) := by decide +kernel
theorem dJ6_bitCount_0f7a4_27 : decode cJ6_bitCount_0f7a4 27 = .ok (.iushr, 1) := by decide +kernel
theorem dJ6_bitCount_0f7a4_28 : decode cJ6_bitCount_0f7a4 28 = .ok (.iadd, 1) := by decide +kernel
theorem dJ6_bitCount_0f7a4_29 : decode cJ6_bitCount_0f7a4 29 = .ok (.ldc_w 267, 3) := by decide +kernel
theorem dJ6_bitCount_0f7a4_32 : decode cJ6_bitCount_0f7a4 32 = .ok (.iand, 1) := by decide +kernel
theorem dJ6_bitCount_0f7a4_33 : decode cJ6_bitCount_0f7a4 33 = .ok (.istore_n 0, 1) := by decide +kernel
theorem dJ6_bitCount_0f7a4_34 : decode cJ6_bitCount_0f7a4 34 = .ok (.iload_n 0, 1) := by decide +kernel
theorem dJ6_bitCount_0f7a4_35 : decode cJ6_bitCount_0f7a4 35 = .ok (.iload_n 0, 1) := by decide +kernel
theorem dJ6_bitCount_0f7a4_36 : decode cJ6_bitCount_0f7a4 36 = .ok (.bipush 8, 2) := by decide +kernel
theorem dJ6_bitCount_0f7a4_38 : decode cJ6_bitCount_0f7a4 38 = .ok (.iushr, 1) := by decide +kernel
theorem dJ6_bitCount_0f7a4_39 : decode cJ6_bitCount_0f7a4 39 = .ok (.iadd, 1) := by decide +kernel
theorem dJ6_bitCount_0f7a4_40 : decode cJ6_bitCount_0f7a4 40 = .ok (.istore_n 0, 1) := by decide +kernel
theorem dJ6_bitCount_0f7a4_41 : decode cJ6_bitCount_0f7a4 41 = .ok (.iload_n 0, 1) := by decide +kernel
theorem dJ6_bitCount_0f7a4_42 : decode cJ6_bitCount_0f7a4 42 = .ok (.iload_n 0, 1) := by decide +kernel
theorem dJ6_bitCount_0f7a4_43 : decode cJ6_bitCount_0f7a4 43 = .ok (.bipush 16, 2) := by decide +kernel
theorem dJ6_bitCount_0f7a4_45 : decode cJ6_bitCount_0f7a4 45 = .ok (.iushr, 1) := by decide +kernel
theorem dJ6_bitCount_0f7a4_46 : decode cJ6_bitCount_0f7a4 46 = .ok (.iadd, 1) := by decide +kernel
theorem dJ6_bitCount_0f7a4_47 : decode cJ6_bitCount_0f7a4 47 = .ok (.istore_n 0, 1) := by decide +kernel
theorem dJ6_bitCount_0f7a4_48 : decode cJ6_bitCount_0f7a4 48 = .ok (.iload_n 0, 1) := by decide +kernel
theorem dJ6_bitCount_0f7a4_49 : decode cJ6_bitCount_0f7a4 49 = .ok (.bipush 63, 2) := by decide +kernel
theorem dJ6_bitCount_0f7a4_51 : decode cJ6_bitCount_0f7a4 51 = .ok (.iand, 1) := by decide +kernel
theorem dJ6_bitCount_0f7a4_52 : decode cJ6_bitCount_0f7a4 52 = .ok (.ireturn, 1) := by decide +kernel
theorem dJ9_max_7cf53_0 : decode cJ9_max_7cf53 0 = .ok (.iload_n 0, 1) := by decide +kernel
theorem dJ9_max_7cf53_1 : decode cJ9_max_7cf53 1 = .ok (.iload_n 1, 1) := by decide +kernel
theorem dJ9_max_7cf53_2 : decode cJ9_max_7cf53 2 = .ok (.if_icmp .lt 7, 3) := by decide +kernel
theorem dJ9_max_7cf53_5 : decode cJ9_max_7cf53 5 = .ok (.iload_n 0, 1) := by decide +kernel
theorem dJ9_max_7cf53_6 : decode cJ9_max_7cf53 6 = .ok (.goto 4, 3) := by decide +kernel
theorem dJ9_max_7cf53_9 : decode cJ9_max_7cf53 9 = .ok (.iload_n 1, 1) := by decide +kernel
theorem dJ9_max_7cf53_10 : decode cJ9_max_7cf53 10 = .ok (.ireturn, 1) := by decide +kernel
theorem dJ9_min_7cf53_0 : decode cJ9_min_7cf53 0 = .ok (.iload_n 0, 1) := by decide +kernel
theorem dJ9_min_7cf53_1 : decode cJ9_min_7cf53 1 = .ok (.iload_n 1, 1) := by decide +kernel
theorem dJ9_min_7cf53_2 : decode cJ9_min_7cf53 2 = .ok (.if_icmp .gt 7, 3) := by decide +kernel
theorem dJ9_min_7cf53_5 : decode cJ9_min_7cf53 5 = .ok (.iload_n 0, 1) := by decide +kernel
theorem dJ9_min_7cf53_6 : decode cJ9_min_7cf53 6 = .ok (.goto 4, 3) := by decide +kernel
theorem dJ9_min_7cf53_9 : decode cJ9_min_7cf53 9 = .ok (.iload_n 1, 1) := by decide +kernel
theorem dJ9_min_7cf53_10 : decode cJ9_min_7cf53 10 = .ok (.ireturn, 1) := by decide +kernel
theorem dJ0_length_8abf5_0 : decode cJ0_length_8abf5 0 = .ok (.aload_n 0, 1) := by decide +kernel
theorem dJ0_length_8abf5_1 : decode cJ0_length_8abf5 1 = .ok (.getfield 9, 3) := by decide +kernel
theorem dJ0_length_8abf5_4 : decode cJ0_length_8abf5 4 = .ok (.arraylength, 1) := by decide +kernel
theorem dJ0_length_8abf5_5 : decode cJ0_length_8abf5 5 = .ok (.aload_n 0, 1) := by decide +kernel
theorem dJ0_length_8abf5_6 : decode cJ0_length_8abf5 6 = .ok (.invokevirtual 335, 3) := by decide +kernel
theorem dJ0_length_8abf5_9 : decode cJ0_length_8abf5 9 = .ok (.ishr, 1) := by decide +kernel
theorem dJ0_length_8abf5_10 : decode cJ0_length_8abf5 10 = .ok (.ireturn, 1) := by decide +kernel
theorem dJ0_charAt_5068e_0 : decode cJ0_charAt_5068e 0 = .ok (.aload_n 0, 1) := by decide +kernel
theorem dJ0_charAt_5068e_1 : decode cJ0_charAt_5068e 1 = .ok (.invokevirtual 492, 3) := by decide +kernel
theorem dJ0_charAt_5068e_4 : decode cJ0_charAt_5068e 4 = .ok (.ifCond .eq 12, 3) := by decide +kernel
theorem dJ0_charAt_5068e_7 : decode cJ0_charAt_5068e 7 = .ok (.aload_n 0, 1) := by decide +kernel
theorem dJ0_charAt_5068e_8 : decode cJ0_charAt_5068e 8 = .ok (.getfield 9, 3) := by decide +kernel
theorem dJ0_charAt_5068e_11 : decode cJ0_charAt_5068e 11 = .ok (.iload_n 1, 1) := by decide +kernel
theorem dJ0_charAt_5068e_12 : decode cJ0_charAt_5068e 12 = .ok (.invokestatic 495, 3) := by decide +kernel
theorem dJ0_charAt_5068e_15 : decode cJ0_charAt_5068e 15 = .ok (.ireturn, 1) := by decide +kernel
theorem dJ0_charAt_5068e_16 : decode cJ0_charAt_5068e 16 = .ok (.aload_n 0, 1) := by decide +kernel
theorem dJ0_charAt_5068e_17 : decode cJ0_charAt_5068e 17 = .ok (.getfield 9, 3) := by decide +kernel
theorem dJ0_charAt_5068e_20 : decode cJ0_charAt_5068e 20 = .ok (.iload_n 1, 1) := by decide +kernel
theorem dJ0_charAt_5068e_21 : decode cJ0_charAt_5068e 21 = .ok (.invokestatic 498, 3) := by decide +kernel
theorem dJ0_charAt_5068e_24 : decode cJ0_charAt_5068e 24 = .ok (.ireturn, 1) := by decide +kernel
theorem dJ0_coder_7d493_0 : decode cJ0_coder_7d493 0 = .ok (.getstatic 38, 3) := by decide +kernel
theorem dJ0_coder_7d493_3 : decode cJ0_coder_7d493 3 = .ok (.ifCond .eq 10, 3) := by decide +kernel
theorem dJ0_coder_7d493_6 : decode cJ0_coder_7d493 6 = .ok (.aload_n 0, 1) := by decide +kernel
theorem dJ0_coder_7d493_7 : decode cJ0_coder_7d493 7 = .ok (.getfield 15, 3) := by decide +kernel
theorem dJ0_coder_7d493_10 : decode cJ0_coder_7d493 10 = .ok (.goto 4, 3) := by decide +kernel
theorem dJ0_coder_7d493_13 : decode cJ0_coder_7d493 13 = .ok (.iconst 1, 1) := by decide +kernel
theorem dJ0_coder_7d493_14 : decode cJ0_coder_7d493 14 = .ok (.ireturn, 1) := by decide +kernel
theorem dJ0_isLatin1_aae02_0 : decode cJ0_isLatin1_aae02 0 = .ok (.getstatic 38, 3) := by decide +kernel
theorem dJ0_isLatin1_aae02_3 : decode cJ0_isLatin1_aae02 3 = .ok (.ifCond .eq 14, 3) := by decide +kernel
theorem dJ0_isLatin1_aae02_6 : decode cJ0_isLatin1_aae02 6 = .ok (.aload_n 0, 1) := by decide +kernel
theorem dJ0_isLatin1_aae02_7 : decode cJ0_isLatin1_aae02 7 = .ok (.getfield 15, 3) := by decide +kernel
theorem dJ0_isLatin1_aae02_10 : decode cJ0_isLatin1_aae02 10 = .ok (.ifCond .ne 7, 3) := by decide +kernel
theorem dJ0_isLatin1_aae02_13 : decode cJ0_isLatin1_aae02 13 = .ok (.iconst 1, 1) := by decide +kernel
theorem dJ0_isLatin1_aae02_14 : decode cJ0_isLatin1_aae02 14 = .ok (.goto 4, 3) := by decide +kernel
theorem dJ0_isLatin1_aae02_17 : decode cJ0_isLatin1_aae02 17 = .ok (.iconst 0, 1) := by decide +kernel
theorem dJ0_isLatin1_aae02_18 : decode cJ0_isLatin1_aae02 18 = .ok (.ireturn, 1) := by decide +kernel
theorem dJ0_checkIndex_df160_0 : decode cJ0_checkIndex_df160 0 = .ok (.iload_n 0, 1) := by decide +kernel
theorem dJ0_checkIndex_df160_1 : decode cJ0_checkIndex_df160 1 = .ok (.iload_n 1, 1) := by decide +kernel
theorem dJ0_checkIndex_df160_2 : decode cJ0_checkIndex_df160 2 = .ok (.getstatic 1053, 3) := by decide +kernel
theorem dJ0_checkIndex_df160_5 : decode cJ0_checkIndex_df160 5 = .ok (.invokestatic 1059, 3) := by decide +kernel
theorem dJ0_checkIndex_df160_8 : decode cJ0_checkIndex_df160 8 = .ok (.pop, 1) := by decide +kernel
theorem dJ0_checkIndex_df160_9 : decode cJ0_checkIndex_df160 9 = .ok (.return_, 1) := by decide +kernel
theorem dJ1_charAt_3b067_0 : decode cJ1_charAt_3b067 0 = .ok (.iload_n 1, 1) := by decide +kernel
theorem dJ1_charAt_3b067_1 : decode cJ1_charAt_3b067 1 = .ok (.aload_n 0, 1) := by decide +kernel
theorem dJ1_charAt_3b067_2 : decode cJ1_charAt_3b067 2 = .ok (.arraylength, 1) := by decide +kernel
theorem dJ1_charAt_3b067_3 : decode cJ1_charAt_3b067 3 = .ok (.invokestatic 9, 3) := by decide +kernel
theorem dJ1_charAt_3b067_6 : decode cJ1_charAt_3b067 6 = .ok (.aload_n 0, 1) := by decide +kernel
theorem dJ1_charAt_3b067_7 : decode cJ1_charAt_3b067 7 = .ok (.iload_n 1, 1) := by decide +kernel
theorem dJ1_charAt_3b067_8 : decode cJ1_charAt_3b067 8 = .ok (.baload, 1) := by decide +kernel
theorem dJ1_charAt_3b067_9 : decode cJ1_charAt_3b067 9 = .ok (.sipush 255, 3) := by decide +kernel
theorem dJ1_charAt_3b067_12 : decode cJ1_charAt_3b067 12 = .ok (.iand, 1) := by decide +kernel
theorem dJ1_charAt_3b067_13 : decode cJ1_charAt_3b067 13 = .ok (.i2c, 1) := by decide +kernel
theorem dJ1_charAt_3b067_14 : decode cJ1_charAt_3b067 14 = .ok (.ireturn, 1) := by decide +kernel
theorem dJ3_checkIndex_8e157_0 : decode cJ3_checkIndex_8e157 0 = .ok (.iload_n 0, 1) := by decide +kernel
theorem dJ3_checkIndex_8e157_1 : decode cJ3_checkIndex_8e157 1 = .ok (.ifCond .lt 8, 3) := by decide +kernel
theorem dJ3_checkIndex_8e157_4 : decode cJ3_checkIndex_8e157 4 = .ok (.iload_n 0, 1) := by decide +kernel
theorem dJ3_checkIndex_8e157_5 : decode cJ3_checkIndex_8e157 5 = .ok (.iload_n 1, 1) := by decide +kernel
theorem dJ3_checkIndex_8e157_6 : decode cJ3_checkIndex_8e157 6 = .ok (.if_icmp .lt 10, 3) := by decide +kernel
theorem dJ3_checkIndex_8e157_9 : decode cJ3_checkIndex_8e157 9 = .ok (.aload_n 2, 1) := by decide +kernel
theorem dJ3_checkIndex_8e157_10 : decode cJ3_checkIndex_8e157 10 = .ok (.iload_n 0, 1) := by decide +kernel
theorem dJ3_checkIndex_8e157_11 : decode cJ3_checkIndex_8e157 11 = .ok (.iload_n 1, 1) := by decide +kernel
theorem dJ3_checkIndex_8e157_12 : decode cJ3_checkIndex_8e157 12 = .ok (.invokestatic 95, 3) := by decide +kernel
theorem dJ3_checkIndex_8e157_15 : decode cJ3_checkIndex_8e157 15 = .ok (.athrow, 1) := by decide +kernel
theorem dJ3_checkIndex_8e157_16 : decode cJ3_checkIndex_8e157 16 = .ok (.iload_n 0, 1) := by decide +kernel
theorem dJ3_checkIndex_8e157_17 : decode cJ3_checkIndex_8e157 17 = .ok (.ireturn, 1) := by decide +kernel
theorem dL_feed_0 : decode cL_feed 0 = .ok (.aload 6, 2) := by decide +kernel
theorem dL_feed_2 : decode cL_feed 2 = .ok (.iconst 0, 1) := by decide +kernel
theorem dL_feed_3 : decode cL_feed 3 = .ok (.aload_n 0, 1) := by decide +kernel
theorem dL_feed_4 : decode cL_feed 4 = .ok (.iload_n 1, 1) := by decide +kernel
theorem dL_feed_5 : decode cL_feed 5 = .ok (.iload_n 2, 1) := by decide +kernel
theorem dL_feed_6 : decode cL_feed 6 = .ok (.iload_n 3, 1) := by decide +kernel
theorem dL_feed_7 : decode cL_feed 7 = .ok (.iload 4, 2) := by decide +kernel
theorem dL_feed_9 : decode cL_feed 9 = .ok (.iload 5, 2) := by decide +kernel
theorem dL_feed_11 : decode cL_feed 11 = .ok (.invokevirtual 7, 3) := by decide +kernel
theorem dL_feed_14 : decode cL_feed 14 = .ok (.i2l, 1) := by decide +kernel
theorem dL_feed_15 : decode cL_feed 15 = .ok (.lastore, 1) := by decide +kernel
theorem dL_feed_16 : decode cL_feed 16 = .ok (.goto 7, 3) := by decide +kernel
theorem dL_feed_19 : decode cL_feed 19 = .ok (.astore 7, 2) := by decide +kernel
theorem dL_feed_21 : decode cL_feed 21 = .ok (.iconst 1, 1) := by decide +kernel
theorem dL_feed_22 : decode cL_feed 22 = .ok (.ireturn, 1) := by decide +kernel
theorem dL_feed_23 : decode cL_feed 23 = .ok (.iconst 0, 1) := by decide +kernel
theorem dL_feed_24 : decode cL_feed 24 = .ok (.ireturn, 1) := by decide +kernel
theorem dL_end_0 : decode cL_end 0 = .ok (.aload_n 2, 1) := by decide +kernel
theorem dL_end_1 : decode cL_end 1 = .ok (.iconst 0, 1) := by decide +kernel
theorem dL_end_2 : decode cL_end 2 = .ok (.aload_n 0, 1) := by decide +kernel
theorem dL_end_3 : decode cL_end 3 = .ok (.iload_n 1, 1) := by decide +kernel
theorem dL_end_4 : decode cL_end 4 = .ok (.invokevirtual 15, 3) := by decide +kernel
theorem dL_end_7 : decode cL_end 7 = .ok (.i2l, 1) := by decide +kernel
theorem dL_end_8 : decode cL_end 8 = .ok (.lastore, 1) := by decide +kernel
theorem dL_end_9 : decode cL_end 9 = .ok (.goto 6, 3) := by decide +kernel
theorem dL_end_12 : decode cL_end 12 = .ok (.astore_n 3, 1) := by decide +kernel
theorem dL_end_13 : decode cL_end 13 = .ok (.iconst 1, 1) := by decide +kernel
theorem dL_end_14 : decode cL_end 14 = .ok (.ireturn, 1) := by decide +kernel
theorem dL_end_15 : decode cL_end 15 = .ok (.iconst 0, 1) := by decide +kernel
theorem dL_end_16 : decode cL_end 16 = .ok (.ireturn, 1) := by decide +kernel
theorem dL_secret_0 : decode cL_secret 0 = .ok (.aload_n 0, 1) := by decide +kernel
theorem dL_secret_1 : decode cL_secret 1 = .ok (.iload_n 1, 1) := by decide +kernel
theorem dL_secret_2 : decode cL_secret 2 = .ok (.invokevirtual 21, 3) := by decide +kernel
theorem dL_secret_5 : decode cL_secret 5 = .ok (.goto 9, 3) := by decide +kernel
theorem dL_secret_8 : decode cL_secret 8 = .ok (.astore_n 2, 1) := by decide +kernel
theorem dL_secret_9 : decode cL_secret 9 = .ok (.iconst 1, 1) := by decide +kernel
theorem dL_secret_10 : decode cL_secret 10 = .ok (.ireturn, 1) := by decide +kernel
theorem dL_secret_11 : decode cL_secret 11 = .ok (.astore_n 2, 1) := by decide +kernel
theorem dL_secret_12 : decode cL_secret 12 = .ok (.iconst 2, 1) := by decide +kernel
theorem dL_secret_13 : decode cL_secret 13 = .ok (.ireturn, 1) := by decide +kernel
theorem dL_secret_14 : decode cL_secret 14 = .ok (.iconst 0, 1) := by decide +kernel
theorem dL_secret_15 : decode cL_secret 15 = .ok (.ireturn, 1) := by decide +kernel
theorem dL_user_0 : decode cL_user 0 = .ok (.aload_n 3, 1) := by decide +kernel
theorem dL_user_1 : decode cL_user 1 = .ok (.iconst 0, 1) := by decide +kernel
theorem dL_user_2 : decode cL_user 2 = .ok (.aload_n 0, 1) := by decide +kernel
theorem dL_user_3 : decode cL_user 3 = .ok (.iload_n 1, 1) := by decide +kernel
theorem dL_user_4 : decode cL_user 4 = .ok (.iload_n 2, 1) := by decide +kernel
theorem dL_user_5 : decode cL_user 5 = .ok (.invokevirtual 27, 3) := by decide +kernel
theorem dL_user_8 : decode cL_user 8 = .ok (.i2l, 1) := by decide +kernel
theorem dL_user_9 : decode cL_user 9 = .ok (.lastore, 1) := by decide +kernel
theorem dL_user_10 : decode cL_user 10 = .ok (.goto 11, 3) := by decide +kernel
theorem dL_user_13 : decode cL_user 13 = .ok (.astore 4, 2) := by decide +kernel
theorem dL_user_15 : decode cL_user 15 = .ok (.iconst 1, 1) := by decide +kernel
theorem dL_user_16 : decode cL_user 16 = .ok (.ireturn, 1) := by decide +kernel
theorem dL_user_17 : decode cL_user 17 = .ok (.astore 4, 2) := by decide +kernel
theorem dL_user_19 : decode cL_user 19 = .ok (.iconst 2, 1) := by decide +kernel
theorem dL_user_20 : decode cL_user 20 = .ok (.ireturn, 1) := by decide +kernel
theorem dL_user_21 : decode cL_user 21 = .ok (.iconst 0, 1) := by decide +kernel
theorem dL_user_22 : decode cL_user 22 = .ok (.ireturn, 1) := by decide +kernel
theorem dL_allow_0 : decode cL_allow 0 = .ok (.aload_n 0, 1) := by decide +kernel
theorem dL_allow_1 : decode cL_allow 1 = .ok (.iload_n 1, 1) := by decide +kernel
theorem dL_allow_2 : decode cL_allow 2 = .ok (.invokevirtual 31, 3) := by decide +kernel
theorem dL_allow_5 : decode cL_allow 5 = .ok (.goto 9, 3) := by decide +kernel
theorem dL_allow_8 : decode cL_allow 8 = .ok (.astore_n 2, 1) := by decide +kernel
theorem dL_allow_9 : decode cL_allow 9 = .ok (.iconst 1, 1) := by decide +kernel
theorem dL_allow_10 : decode cL_allow 10 = .ok (.ireturn, 1) := by decide +kernel
theorem dL_allow_11 : decode cL_allow 11 = .ok (.astore_n 2, 1) := by decide +kernel
theorem dL_allow_12 : decode cL_allow 12 = .ok (.iconst 2, 1) := by decide +kernel
theorem dL_allow_13 : decode cL_allow 13 = .ok (.ireturn, 1) := by decide +kernel
theorem dL_allow_14 : decode cL_allow 14 = .ok (.iconst 0, 1) := by decide +kernel
theorem dL_allow_15 : decode cL_allow 15 = .ok (.ireturn, 1) := by decide +kernel
theorem dL_set_0 : decode cL_set 0 = .ok (.aload 4, 2) := by decide +kernel
theorem dL_set_2 : decode cL_set 2 = .ok (.iconst 0, 1) := by decide +kernel
theorem dL_set_3 : decode cL_set 3 = .ok (.aload_n 0, 1) := by decide +kernel
theorem dL_set_4 : decode cL_set 4 = .ok (.iload_n 1, 1) := by decide +kernel
theorem dL_set_5 : decode cL_set 5 = .ok (.iload_n 2, 1) := by decide +kernel
theorem dL_set_6 : decode cL_set 6 = .ok (.iload_n 3, 1) := by decide +kernel
theorem dL_set_7 : decode cL_set 7 = .ok (.invokevirtual 34, 3) := by decide +kernel
theorem dL_set_10 : decode cL_set 10 = .ok (.i2l, 1) := by decide +kernel
theorem dL_set_11 : decode cL_set 11 = .ok (.lastore, 1) := by decide +kernel
theorem dL_set_12 : decode cL_set 12 = .ok (.goto 11, 3) := by decide +kernel
theorem dL_set_15 : decode cL_set 15 = .ok (.astore 5, 2) := by decide +kernel
theorem dL_set_17 : decode cL_set 17 = .ok (.iconst 1, 1) := by decide +kernel
theorem dL_set_18 : decode cL_set 18 = .ok (.ireturn, 1) := by decide +kernel
theorem dL_set_19 : decode cL_set 19 = .ok (.astore 5, 2) := by decide +kernel
theorem dL_set_21 : decode cL_set 21 = .ok (.iconst 2, 1) := by decide +kernel
theorem dL_set_22 : decode cL_set 22 = .ok (.ireturn, 1) := by decide +kernel
theorem dL_set_23 : decode cL_set 23 = .ok (.iconst 0, 1) := by decide +kernel
theorem dL_set_24 : decode cL_set 24 = .ok (.ireturn, 1) := by decide +kernel
theorem dL_port_0 : decode cL_port 0 = .ok (.aload_n 0, 1) := by decide +kernel
theorem dL_port_1 : decode cL_port 1 = .ok (.iload_n 1, 1) := by decide +kernel
theorem dL_port_2 : decode cL_port 2 = .ok (.iload_n 2, 1) := by decide +kernel
theorem dL_port_3 : decode cL_port 3 = .ok (.invokevirtual 38, 3) := by decide +kernel
theorem dL_port_6 : decode cL_port 6 = .ok (.goto 6, 3) := by decide +kernel
theorem dL_port_9 : decode cL_port 9 = .ok (.astore_n 3, 1) := by decide +kernel
theorem dL_port_10 : decode cL_port 10 = .ok (.iconst 1, 1) := by decide +kernel
theorem dL_port_11 : decode cL_port 11 = .ok (.ireturn, 1) := by decide +kernel
theorem dL_port_12 : decode cL_port 12 = .ok (.iconst 0, 1) := by decide +kernel
theorem dL_port_13 : decode cL_port 13 = .ok (.ireturn, 1) := by decide +kernel
theorem dL_start_0 : decode cL_start 0 = .ok (.aload_n 0, 1) := by decide +kernel
theorem dL_start_1 : decode cL_start 1 = .ok (.invokevirtual 42, 3) := by decide +kernel
theorem dL_start_4 : decode cL_start 4 = .ok (.goto 6, 3) := by decide +kernel
theorem dL_start_7 : decode cL_start 7 = .ok (.astore_n 1, 1) := by decide +kernel
theorem dL_start_8 : decode cL_start 8 = .ok (.iconst 1, 1) := by decide +kernel
theorem dL_start_9 : decode cL_start 9 = .ok (.ireturn, 1) := by decide +kernel
theorem dL_start_10 : decode cL_start 10 = .ok (.iconst 0, 1) := by decide +kernel
theorem dL_start_11 : decode cL_start 11 = .ok (.ireturn, 1) := by decide +kernel
theorem dL_move_0 : decode cL_move 0 = .ok (.aload_n 3, 1) := by decide +kernel
theorem dL_move_1 : decode cL_move 1 = .ok (.iconst 0, 1) := by decide +kernel
theorem dL_move_2 : decode cL_move 2 = .ok (.aload_n 0, 1) := by decide +kernel
theorem dL_move_3 : decode cL_move 3 = .ok (.iload_n 1, 1) := by decide +kernel
theorem dL_move_4 : decode cL_move 4 = .ok (.iload_n 2, 1) := by decide +kernel
theorem dL_move_5 : decode cL_move 5 = .ok (.invokevirtual 45, 3) := by decide +kernel
theorem dL_move_8 : decode cL_move 8 = .ok (.i2l, 1) := by decide +kernel
theorem dL_move_9 : decode cL_move 9 = .ok (.lastore, 1) := by decide +kernel
theorem dL_move_10 : decode cL_move 10 = .ok (.goto 11, 3) := by decide +kernel
theorem dL_move_13 : decode cL_move 13 = .ok (.astore 4, 2) := by decide +kernel
theorem dL_move_15 : decode cL_move 15 = .ok (.iconst 1, 1) := by decide +kernel
theorem dL_move_16 : decode cL_move 16 = .ok (.ireturn, 1) := by decide +kernel
theorem dL_move_17 : decode cL_move 17 = .ok (.astore 4, 2) := by decide +kernel
theorem dL_move_19 : decode cL_move 19 = .ok (.iconst 2, 1) := by decide +kernel
theorem dL_move_20 : decode cL_move 20 = .ok (.ireturn, 1) := by decide +kernel
theorem dL_move_21 : decode cL_move 21 = .ok (.iconst 0, 1) := by decide +kernel
theorem dL_move_22 : decode cL_move 22 = .ok (.ireturn, 1) := by decide +kernel
theorem dL_flip_0 : decode cL_flip 0 = .ok (.aload 4, 2) := by decide +kernel
theorem dL_flip_2 : decode cL_flip 2 = .ok (.iconst 0, 1) := by decide +kernel
theorem dL_flip_3 : decode cL_flip 3 = .ok (.aload_n 0, 1) := by decide +kernel
theorem dL_flip_4 : decode cL_flip 4 = .ok (.iload_n 1, 1) := by decide +kernel
theorem dL_flip_5 : decode cL_flip 5 = .ok (.iload_n 2, 1) := by decide +kernel
theorem dL_flip_6 : decode cL_flip 6 = .ok (.iload_n 3, 1) := by decide +kernel
theorem dL_flip_7 : decode cL_flip 7 = .ok (.invokevirtual 49, 3) := by decide +kernel
theorem dL_flip_10 : decode cL_flip 10 = .ok (.i2l, 1) := by decide +kernel
theorem dL_flip_11 : decode cL_flip 11 = .ok (.lastore, 1) := by decide +kernel
theorem dL_flip_12 : decode cL_flip 12 = .ok (.goto 11, 3) := by decide +kernel
theorem dL_flip_15 : decode cL_flip 15 = .ok (.astore 5, 2) := by decide +kernel
theorem dL_flip_17 : decode cL_flip 17 = .ok (.iconst 1, 1) := by decide +kernel
theorem dL_flip_18 : decode cL_flip 18 = .ok (.ireturn, 1) := by decide +kernel
theorem dL_flip_19 : decode cL_flip 19 = .ok (.astore 5, 2) := by decide +kernel
theorem dL_flip_21 : decode cL_flip 21 = .ok (.iconst 2, 1) := by decide +kernel
theorem dL_flip_22 : decode cL_flip 22 = .ok (.ireturn, 1) := by decide +kernel
theorem dL_flip_23 : decode cL_flip 23 = .ok (.iconst 0, 1) := by decide +kernel
theorem dL_flip_24 : decode cL_flip 24 = .ok (.ireturn, 1) := by decide +kernel
theorem dL_seen_0 : decode cL_seen 0 = .ok (.aload_n 3, 1) := by decide +kernel
theorem dL_seen_1 : decode cL_seen 1 = .ok (.iconst 0, 1) := by decide +kernel
theorem dL_seen_2 : decode cL_seen 2 = .ok (.aload_n 0, 1) := by decide +kernel
theorem dL_seen_3 : decode cL_seen 3 = .ok (.iload_n 1, 1) := by decide +kernel
theorem dL_seen_4 : decode cL_seen 4 = .ok (.iload_n 2, 1) := by decide +kernel
theorem dL_seen_5 : decode cL_seen 5 = .ok (.invokevirtual 54, 3) := by decide +kernel
theorem dL_seen_8 : decode cL_seen 8 = .ok (.i2l, 1) := by decide +kernel
theorem dL_seen_9 : decode cL_seen 9 = .ok (.lastore, 1) := by decide +kernel
theorem dL_seen_10 : decode cL_seen 10 = .ok (.goto 11, 3) := by decide +kernel
theorem dL_seen_13 : decode cL_seen 13 = .ok (.astore 4, 2) := by decide +kernel
theorem dL_seen_15 : decode cL_seen 15 = .ok (.iconst 1, 1) := by decide +kernel
theorem dL_seen_16 : decode cL_seen 16 = .ok (.ireturn, 1) := by decide +kernel
theorem dL_seen_17 : decode cL_seen 17 = .ok (.astore 4, 2) := by decide +kernel
theorem dL_seen_19 : decode cL_seen 19 = .ok (.iconst 2, 1) := by decide +kernel
theorem dL_seen_20 : decode cL_seen 20 = .ok (.ireturn, 1) := by decide +kernel
theorem dL_seen_21 : decode cL_seen 21 = .ok (.iconst 0, 1) := by decide +kernel
theorem dL_seen_22 : decode cL_seen 22 = .ok (.ireturn, 1) := by decide +kernel
theorem dL_inject_0 : decode cL_inject 0 = .ok (.aload_n 2, 1) := by decide +kernel
theorem dL_inject_1 : decode cL_inject 1 = .ok (.iconst 0, 1) := by decide +kernel
theorem dL_inject_2 : decode cL_inject 2 = .ok (.aload_n 0, 1) := by decide +kernel
theorem dL_inject_3 : decode cL_inject 3 = .ok (.iload_n 1, 1) := by decide +kernel
theorem dL_inject_4 : decode cL_inject 4 = .ok (.invokevirtual 57, 3) := by decide +kernel
theorem dL_inject_7 : decode cL_inject 7 = .ok (.i2l, 1) := by decide +kernel
theorem dL_inject_8 : decode cL_inject 8 = .ok (.lastore, 1) := by decide +kernel
theorem dL_inject_9 : decode cL_inject 9 = .ok (.goto 9, 3) := by decide +kernel
theorem dL_inject_12 : decode cL_inject 12 = .ok (.astore_n 3, 1) := by decide +kernel
theorem dL_inject_13 : decode cL_inject 13 = .ok (.iconst 1, 1) := by decide +kernel
theorem dL_inject_14 : decode cL_inject 14 = .ok (.ireturn, 1) := by decide +kernel
theorem dL_inject_15 : decode cL_inject 15 = .ok (.astore_n 3, 1) := by decide +kernel
theorem dL_inject_16 : decode cL_inject 16 = .ok (.iconst 2, 1) := by decide +kernel
theorem dL_inject_17 : decode cL_inject 17 = .ok (.ireturn, 1) := by decide +kernel
theorem dL_inject_18 : decode cL_inject 18 = .ok (.iconst 0, 1) := by decide +kernel
theorem dL_inject_19 : decode cL_inject 19 = .ok (.ireturn, 1) := by decide +kernel
theorem dL_open_0 : decode cL_open 0 = .ok (.aload_n 2, 1) := by decide +kernel
theorem dL_open_1 : decode cL_open 1 = .ok (.iconst 0, 1) := by decide +kernel
theorem dL_open_2 : decode cL_open 2 = .ok (.aload_n 0, 1) := by decide +kernel
theorem dL_open_3 : decode cL_open 3 = .ok (.iload_n 1, 1) := by decide +kernel
theorem dL_open_4 : decode cL_open 4 = .ok (.invokevirtual 60, 3) := by decide +kernel
theorem dL_open_7 : decode cL_open 7 = .ok (.i2l, 1) := by decide +kernel
theorem dL_open_8 : decode cL_open 8 = .ok (.lastore, 1) := by decide +kernel
theorem dL_open_9 : decode cL_open 9 = .ok (.goto 9, 3) := by decide +kernel
theorem dL_open_12 : decode cL_open 12 = .ok (.astore_n 3, 1) := by decide +kernel
theorem dL_open_13 : decode cL_open 13 = .ok (.iconst 1, 1) := by decide +kernel
theorem dL_open_14 : decode cL_open 14 = .ok (.ireturn, 1) := by decide +kernel
theorem dL_open_15 : decode cL_open 15 = .ok (.astore_n 3, 1) := by decide +kernel
theorem dL_open_16 : decode cL_open 16 = .ok (.iconst 2, 1) := by decide +kernel
theorem dL_open_17 : decode cL_open 17 = .ok (.ireturn, 1) := by decide +kernel
theorem dL_open_18 : decode cL_open 18 = .ok (.iconst 0, 1) := by decide +kernel
theorem dL_open_19 : decode cL_open 19 = .ok (.ireturn, 1) := by decide +kernel
theorem dL_exec_0 : decode cL_exec 0 = .ok (.aload_n 0, 1) := by decide +kernel
theorem dL_exec_1 : decode cL_exec 1 = .ok (.iload_n 1, 1) := by decide +kernel
theorem dL_exec_2 : decode cL_exec 2 = .ok (.invokevirtual 63, 3) := by decide +kernel
theorem dL_exec_5 : decode cL_exec 5 = .ok (.goto 12, 3) := by decide +kernel
theorem dL_exec_8 : decode cL_exec 8 = .ok (.astore_n 2, 1) := by decide +kernel
theorem dL_exec_9 : decode cL_exec 9 = .ok (.iconst 1, 1) := by decide +kernel
theorem dL_exec_10 : decode cL_exec 10 = .ok (.ireturn, 1) := by decide +kernel
theorem dL_exec_11 : decode cL_exec 11 = .ok (.astore_n 2, 1) := by decide +kernel
theorem dL_exec_12 : decode cL_exec 12 = .ok (.iconst 2, 1) := by decide +kernel
theorem dL_exec_13 : decode cL_exec 13 = .ok (.ireturn, 1) := by decide +kernel
theorem dL_exec_14 : decode cL_exec 14 = .ok (.astore_n 2, 1) := by decide +kernel
theorem dL_exec_15 : decode cL_exec 15 = .ok (.iconst 3, 1) := by decide +kernel
theorem dL_exec_16 : decode cL_exec 16 = .ok (.ireturn, 1) := by decide +kernel
theorem dL_exec_17 : decode cL_exec 17 = .ok (.iconst 0, 1) := by decide +kernel
theorem dL_exec_18 : decode cL_exec 18 = .ok (.ireturn, 1) := by decide +kernel
theorem dL_write_0 : decode cL_write 0 = .ok (.aload_n 3, 1) := by decide +kernel
theorem dL_write_1 : decode cL_write 1 = .ok (.iconst 0, 1) := by decide +kernel
theorem dL_write_2 : decode cL_write 2 = .ok (.aload_n 0, 1) := by decide +kernel
theorem dL_write_3 : decode cL_write 3 = .ok (.iload_n 1, 1) := by decide +kernel
theorem dL_write_4 : decode cL_write 4 = .ok (.iload_n 2, 1) := by decide +kernel
theorem dL_write_5 : decode cL_write 5 = .ok (.invokevirtual 66, 3) := by decide +kernel
theorem dL_write_8 : decode cL_write 8 = .ok (.i2l, 1) := by decide +kernel
theorem dL_write_9 : decode cL_write 9 = .ok (.lastore, 1) := by decide +kernel
theorem dL_write_10 : decode cL_write 10 = .ok (.goto 11, 3) := by decide +kernel
theorem dL_write_13 : decode cL_write 13 = .ok (.astore 4, 2) := by decide +kernel
theorem dL_write_15 : decode cL_write 15 = .ok (.iconst 1, 1) := by decide +kernel
theorem dL_write_16 : decode cL_write 16 = .ok (.ireturn, 1) := by decide +kernel
theorem dL_write_17 : decode cL_write 17 = .ok (.astore 4, 2) := by decide +kernel
theorem dL_write_19 : decode cL_write 19 = .ok (.iconst 2, 1) := by decide +kernel
theorem dL_write_20 : decode cL_write 20 = .ok (.ireturn, 1) := by decide +kernel
theorem dL_write_21 : decode cL_write 21 = .ok (.iconst 0, 1) := by decide +kernel
theorem dL_write_22 : decode cL_write 22 = .ok (.ireturn, 1) := by decide +kernel
theorem dL_read_0 : decode cL_read 0 = .ok (.aload 4, 2) := by decide +kernel
theorem dL_read_2 : decode cL_read 2 = .ok (.iconst 0, 1) := by decide +kernel
theorem dL_read_3 : decode cL_read 3 = .ok (.aload_n 0, 1) := by decide +kernel
theorem dL_read_4 : decode cL_read 4 = .ok (.iload_n 1, 1) := by decide +kernel
theorem dL_read_5 : decode cL_read 5 = .ok (.iload_n 2, 1) := by decide +kernel
theorem dL_read_6 : decode cL_read 6 = .ok (.iload_n 3, 1) := by decide +kernel
theorem dL_read_7 : decode cL_read 7 = .ok (.invokevirtual 69, 3) := by decide +kernel
theorem dL_read_10 : decode cL_read 10 = .ok (.lastore, 1) := by decide +kernel
theorem dL_read_11 : decode cL_read 11 = .ok (.goto 11, 3) := by decide +kernel
theorem dL_read_14 : decode cL_read 14 = .ok (.astore 5, 2) := by decide +kernel
theorem dL_read_16 : decode cL_read 16 = .ok (.iconst 1, 1) := by decide +kernel
theorem dL_read_17 : decode cL_read 17 = .ok (.ireturn, 1) := by decide +kernel
theorem dL_read_18 : decode cL_read 18 = .ok (.astore 5, 2) := by decide +kernel
theorem dL_read_20 : decode cL_read 20 = .ok (.iconst 2, 1) := by decide +kernel
theorem dL_read_21 : decode cL_read 21 = .ok (.ireturn, 1) := by decide +kernel
theorem dL_read_22 : decode cL_read 22 = .ok (.iconst 0, 1) := by decide +kernel
theorem dL_read_23 : decode cL_read 23 = .ok (.ireturn, 1) := by decide +kernel
theorem dL_finish_0 : decode cL_finish 0 = .ok (.aload_n 0, 1) := by decide +kernel
theorem dL_finish_1 : decode cL_finish 1 = .ok (.iload_n 1, 1) := by decide +kernel
theorem dL_finish_2 : decode cL_finish 2 = .ok (.iload_n 2, 1) := by decide +kernel
theorem dL_finish_3 : decode cL_finish 3 = .ok (.invokevirtual 73, 3) := by decide +kernel
theorem dL_finish_6 : decode cL_finish 6 = .ok (.goto 9, 3) := by decide +kernel
theorem dL_finish_9 : decode cL_finish 9 = .ok (.astore_n 3, 1) := by decide +kernel
theorem dL_finish_10 : decode cL_finish 10 = .ok (.iconst 1, 1) := by decide +kernel
theorem dL_finish_11 : decode cL_finish 11 = .ok (.ireturn, 1) := by decide +kernel
theorem dL_finish_12 : decode cL_finish 12 = .ok (.astore_n 3, 1) := by decide +kernel
theorem dL_finish_13 : decode cL_finish 13 = .ok (.iconst 2, 1) := by decide +kernel
theorem dL_finish_14 : decode cL_finish 14 = .ok (.ireturn, 1) := by decide +kernel
theorem dL_finish_15 : decode cL_finish 15 = .ok (.iconst 0, 1) := by decide +kernel
theorem dL_finish_16 : decode cL_finish 16 = .ok (.ireturn, 1) := by decide +kernel
theorem dL_rekey_0 : decode cL_rekey 0 = .ok (.aload_n 0, 1) := by decide +kernel
theorem dL_rekey_1 : decode cL_rekey 1 = .ok (.iload_n 1, 1) := by decide +kernel
theorem dL_rekey_2 : decode cL_rekey 2 = .ok (.invokevirtual 77, 3) := by decide +kernel
theorem dL_rekey_5 : decode cL_rekey 5 = .ok (.goto 9, 3) := by decide +kernel
theorem dL_rekey_8 : decode cL_rekey 8 = .ok (.astore_n 2, 1) := by decide +kernel
theorem dL_rekey_9 : decode cL_rekey 9 = .ok (.iconst 1, 1) := by decide +kernel
theorem dL_rekey_10 : decode cL_rekey 10 = .ok (.ireturn, 1) := by decide +kernel
theorem dL_rekey_11 : decode cL_rekey 11 = .ok (.astore_n 2, 1) := by decide +kernel
theorem dL_rekey_12 : decode cL_rekey 12 = .ok (.iconst 2, 1) := by decide +kernel
theorem dL_rekey_13 : decode cL_rekey 13 = .ok (.ireturn, 1) := by decide +kernel
theorem dL_rekey_14 : decode cL_rekey 14 = .ok (.iconst 0, 1) := by decide +kernel
theorem dL_rekey_15 : decode cL_rekey 15 = .ok (.ireturn, 1) := by decide +kernel
theorem dL_quit_0 : decode cL_quit 0 = .ok (.aload_n 0, 1) := by decide +kernel
theorem dL_quit_1 : decode cL_quit 1 = .ok (.iload_n 1, 1) := by decide +kernel
theorem dL_quit_2 : decode cL_quit 2 = .ok (.invokevirtual 80, 3) := by decide +kernel
theorem dL_quit_5 : decode cL_quit 5 = .ok (.goto 9, 3) := by decide +kernel
theorem dL_quit_8 : decode cL_quit 8 = .ok (.astore_n 2, 1) := by decide +kernel
theorem dL_quit_9 : decode cL_quit 9 = .ok (.iconst 1, 1) := by decide +kernel
theorem dL_quit_10 : decode cL_quit 10 = .ok (.ireturn, 1) := by decide +kernel
theorem dL_quit_11 : decode cL_quit 11 = .ok (.astore_n 2, 1) := by decide +kernel
theorem dL_quit_12 : decode cL_quit 12 = .ok (.iconst 2, 1) := by decide +kernel
theorem dL_quit_13 : decode cL_quit 13 = .ok (.ireturn, 1) := by decide +kernel
theorem dL_quit_14 : decode cL_quit 14 = .ok (.iconst 0, 1) := by decide +kernel
theorem dL_quit_15 : decode cL_quit 15 = .ok (.ireturn, 1) := by decide +kernel
theorem dL_about_0 : decode cL_about 0 = .ok (.aload_n 3, 1) := by decide +kernel
theorem dL_about_1 : decode cL_about 1 = .ok (.iconst 0, 1) := by decide +kernel
theorem dL_about_2 : decode cL_about 2 = .ok (.aload_n 0, 1) := by decide +kernel
theorem dL_about_3 : decode cL_about 3 = .ok (.iload_n 1, 1) := by decide +kernel
theorem dL_about_4 : decode cL_about 4 = .ok (.iload_n 2, 1) := by decide +kernel
theorem dL_about_5 : decode cL_about 5 = .ok (.invokevirtual 83, 3) := by decide +kernel
theorem dL_about_8 : decode cL_about 8 = .ok (.i2l, 1) := by decide +kernel
theorem dL_about_9 : decode cL_about 9 = .ok (.lastore, 1) := by decide +kernel
theorem dL_about_10 : decode cL_about 10 = .ok (.goto 11, 3) := by decide +kernel
theorem dL_about_13 : decode cL_about 13 = .ok (.astore 4, 2) := by decide +kernel
theorem dL_about_15 : decode cL_about 15 = .ok (.iconst 1, 1) := by decide +kernel
theorem dL_about_16 : decode cL_about 16 = .ok (.ireturn, 1) := by decide +kernel
theorem dL_about_17 : decode cL_about 17 = .ok (.astore 4, 2) := by decide +kernel
theorem dL_about_19 : decode cL_about 19 = .ok (.iconst 2, 1) := by decide +kernel
theorem dL_about_20 : decode cL_about 20 = .ok (.ireturn, 1) := by decide +kernel
theorem dL_about_21 : decode cL_about 21 = .ok (.iconst 0, 1) := by decide +kernel
theorem dL_about_22 : decode cL_about 22 = .ok (.ireturn, 1) := by decide +kernel
theorem dL_channel_0 : decode cL_channel 0 = .ok (.aload_n 3, 1) := by decide +kernel
theorem dL_channel_1 : decode cL_channel 1 = .ok (.iconst 0, 1) := by decide +kernel
theorem dL_channel_2 : decode cL_channel 2 = .ok (.aload_n 0, 1) := by decide +kernel
theorem dL_channel_3 : decode cL_channel 3 = .ok (.iload_n 1, 1) := by decide +kernel
theorem dL_channel_4 : decode cL_channel 4 = .ok (.iload_n 2, 1) := by decide +kernel
theorem dL_channel_5 : decode cL_channel 5 = .ok (.invokevirtual 86, 3) := by decide +kernel
theorem dL_channel_8 : decode cL_channel 8 = .ok (.i2l, 1) := by decide +kernel
theorem dL_channel_9 : decode cL_channel 9 = .ok (.lastore, 1) := by decide +kernel
theorem dL_channel_10 : decode cL_channel 10 = .ok (.goto 11, 3) := by decide +kernel
theorem dL_channel_13 : decode cL_channel 13 = .ok (.astore 4, 2) := by decide +kernel
theorem dL_channel_15 : decode cL_channel 15 = .ok (.iconst 1, 1) := by decide +kernel
theorem dL_channel_16 : decode cL_channel 16 = .ok (.ireturn, 1) := by decide +kernel
theorem dL_channel_17 : decode cL_channel 17 = .ok (.astore 4, 2) := by decide +kernel
theorem dL_channel_19 : decode cL_channel 19 = .ok (.iconst 2, 1) := by decide +kernel
theorem dL_channel_20 : decode cL_channel 20 = .ok (.ireturn, 1) := by decide +kernel
theorem dL_channel_21 : decode cL_channel 21 = .ok (.iconst 0, 1) := by decide +kernel
theorem dL_channel_22 : decode cL_channel 22 = .ok (.ireturn, 1) := by decide +kernel
abbrev vwCl : List vw_C := [(RJ0, TJ0, 4), (RJ4, TJ4, 4), (RX0, TX0, 5), (RX1, TX1, 6), (RX2, TX2, 5), (RX3, TX3, 18), (RX4, TX4, 36), (RX5, TX5, 14), (RX7, TX7, 20), (RX8, TX8, 15), (RX9, TX9, 34), (RX10, TX10, 4), (RX11, TX11, 4), (RX12, TX12, 4), (RX13, TX13, 10), (RX14, TX14, 42), (RX15, TX15, 47), (RX16, TX16, 6), (RX17, TX17, 14), (RX19, TX19, 3), (RX20, TX20, 27), (RX21, TX21, 43)]
