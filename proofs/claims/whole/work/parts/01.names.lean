-- ===== PART A: goes FIRST, ahead of the names: the tables' words, and 'selects' of the private methods out of them =====
/-- a private method of a class that the tables say can be made, by its rows of tables_1 -/
def lw_okq (q : MethodName × Nat) : Prop := (q.1.cls ≠ "java/lang/invoke/MethodHandle" ∧ q.1.cls ≠ "java/lang/invoke/VarHandle") ∧ Cond.instantiable q.1.cls q.2 ∈ tables_1 ∧ Cond.privateMethod q.1 ∈ tables_1 ∧ Cond.instanceMethod q.1 ∈ tables_1
theorem lw_p0 : lw_okq (⟨"BrowserHouse$Address", "takeSite", "([BII)V"⟩, 8) := ⟨⟨by decide +kernel, by decide +kernel⟩, List.mem_of_getElem? (i := 279) (by decide +kernel), List.mem_of_getElem? (i := 394) (by decide +kernel), List.mem_of_getElem? (i := 395) (by decide +kernel)⟩
theorem lw_p1 : lw_okq (⟨"BrowserHouse$Address", "takePath", "([BII)V"⟩, 8) := ⟨⟨by decide +kernel, by decide +kernel⟩, List.mem_of_getElem? (i := 279) (by decide +kernel), List.mem_of_getElem? (i := 402) (by decide +kernel), List.mem_of_getElem? (i := 403) (by decide +kernel)⟩
theorem lw_p2 : lw_okq (⟨"BrowserHouse$Address", "readTail", "([BIILBrowserHouse$Address;)Z"⟩, 8) := ⟨⟨by decide +kernel, by decide +kernel⟩, List.mem_of_getElem? (i := 279) (by decide +kernel), List.mem_of_getElem? (i := 406) (by decide +kernel), List.mem_of_getElem? (i := 407) (by decide +kernel)⟩
theorem lw_p3 : lw_okq (⟨"BrowserHouse$Address", "takeSegments", "([BIII)Z"⟩, 8) := ⟨⟨by decide +kernel, by decide +kernel⟩, List.mem_of_getElem? (i := 279) (by decide +kernel), List.mem_of_getElem? (i := 414) (by decide +kernel), List.mem_of_getElem? (i := 415) (by decide +kernel)⟩
theorem lw_p4 : lw_okq (⟨"BrowserHouse$Address", "takeSegment", "([BIIZ)Z"⟩, 8) := ⟨⟨by decide +kernel, by decide +kernel⟩, List.mem_of_getElem? (i := 279) (by decide +kernel), List.mem_of_getElem? (i := 418) (by decide +kernel), List.mem_of_getElem? (i := 419) (by decide +kernel)⟩
theorem lw_p5 : lw_okq (⟨"BrowserHouse$Address", "lastSlash", "()I"⟩, 8) := ⟨⟨by decide +kernel, by decide +kernel⟩, List.mem_of_getElem? (i := 279) (by decide +kernel), List.mem_of_getElem? (i := 422) (by decide +kernel), List.mem_of_getElem? (i := 423) (by decide +kernel)⟩
theorem lw_p6 : lw_okq (⟨"BrowserHouse", "addFour", "(I)V"⟩, 10) := ⟨⟨by decide +kernel, by decide +kernel⟩, List.mem_of_getElem? (i := 22) (by decide +kernel), List.mem_of_getElem? (i := 894) (by decide +kernel), List.mem_of_getElem? (i := 895) (by decide +kernel)⟩
theorem lw_p7 : lw_okq (⟨"BrowserHouse", "wrongByte", "()I"⟩, 10) := ⟨⟨by decide +kernel, by decide +kernel⟩, List.mem_of_getElem? (i := 22) (by decide +kernel), List.mem_of_getElem? (i := 911) (by decide +kernel), List.mem_of_getElem? (i := 912) (by decide +kernel)⟩
theorem lw_p8 : lw_okq (⟨"BrowserHouse", "showAddress", "(LBrowserHouse$Address;)I"⟩, 10) := ⟨⟨by decide +kernel, by decide +kernel⟩, List.mem_of_getElem? (i := 22) (by decide +kernel), List.mem_of_getElem? (i := 916) (by decide +kernel), List.mem_of_getElem? (i := 917) (by decide +kernel)⟩
theorem lw_p9 : lw_okq (⟨"BrowserHouse$Answer", "readCookie", "([BII)Z"⟩, 8) := ⟨⟨by decide +kernel, by decide +kernel⟩, List.mem_of_getElem? (i := 273) (by decide +kernel), List.mem_of_getElem? (i := 963) (by decide +kernel), List.mem_of_getElem? (i := 964) (by decide +kernel)⟩
theorem lw_p10 : lw_okq (⟨"BrowserHouse$Net", "putAnswer", "(LBrowserHouse$Answer;)I"⟩, 20) := ⟨⟨by decide +kernel, by decide +kernel⟩, List.mem_of_getElem? (i := 267) (by decide +kernel), List.mem_of_getElem? (i := 982) (by decide +kernel), List.mem_of_getElem? (i := 983) (by decide +kernel)⟩
theorem lw_p11 : lw_okq (⟨"BrowserHouse$Net", "pushHistory", "()V"⟩, 20) := ⟨⟨by decide +kernel, by decide +kernel⟩, List.mem_of_getElem? (i := 267) (by decide +kernel), List.mem_of_getElem? (i := 1008) (by decide +kernel), List.mem_of_getElem? (i := 1009) (by decide +kernel)⟩
theorem lw_p12 : lw_okq (⟨"BrowserHouse$Net", "ask", "()LBrowserHouse$Answer;"⟩, 20) := ⟨⟨by decide +kernel, by decide +kernel⟩, List.mem_of_getElem? (i := 267) (by decide +kernel), List.mem_of_getElem? (i := 1029) (by decide +kernel), List.mem_of_getElem? (i := 1030) (by decide +kernel)⟩
theorem lw_p13 : lw_okq (⟨"BrowserHouse$Net", "listCookies", "()V"⟩, 20) := ⟨⟨by decide +kernel, by decide +kernel⟩, List.mem_of_getElem? (i := 267) (by decide +kernel), List.mem_of_getElem? (i := 1033) (by decide +kernel), List.mem_of_getElem? (i := 1034) (by decide +kernel)⟩
theorem lw_p14 : lw_okq (⟨"BrowserHouse$Net", "keep", "(LBrowserHouse$Answer;)V"⟩, 20) := ⟨⟨by decide +kernel, by decide +kernel⟩, List.mem_of_getElem? (i := 267) (by decide +kernel), List.mem_of_getElem? (i := 1049) (by decide +kernel), List.mem_of_getElem? (i := 1050) (by decide +kernel)⟩
theorem lw_p15 : lw_okq (⟨"BrowserHouse$Reader", "readRaw", "()V"⟩, 12) := ⟨⟨by decide +kernel, by decide +kernel⟩, List.mem_of_getElem? (i := 508) (by decide +kernel), List.mem_of_getElem? (i := 1064) (by decide +kernel), List.mem_of_getElem? (i := 1065) (by decide +kernel)⟩
def lw_privs_1 : List (MethodName × Nat) := [(⟨"BrowserHouse$Address", "takeSite", "([BII)V"⟩, 8), (⟨"BrowserHouse$Address", "takePath", "([BII)V"⟩, 8), (⟨"BrowserHouse$Address", "readTail", "([BIILBrowserHouse$Address;)Z"⟩, 8), (⟨"BrowserHouse$Address", "takeSegments", "([BIII)Z"⟩, 8), (⟨"BrowserHouse$Address", "takeSegment", "([BIIZ)Z"⟩, 8), (⟨"BrowserHouse$Address", "lastSlash", "()I"⟩, 8), (⟨"BrowserHouse", "addFour", "(I)V"⟩, 10), (⟨"BrowserHouse", "wrongByte", "()I"⟩, 10), (⟨"BrowserHouse", "showAddress", "(LBrowserHouse$Address;)I"⟩, 10), (⟨"BrowserHouse$Answer", "readCookie", "([BII)Z"⟩, 8), (⟨"BrowserHouse$Net", "putAnswer", "(LBrowserHouse$Answer;)I"⟩, 20), (⟨"BrowserHouse$Net", "pushHistory", "()V"⟩, 20), (⟨"BrowserHouse$Net", "ask", "()LBrowserHouse$Answer;"⟩, 20), (⟨"BrowserHouse$Net", "listCookies", "()V"⟩, 20), (⟨"BrowserHouse$Net", "keep", "(LBrowserHouse$Answer;)V"⟩, 20), (⟨"BrowserHouse$Reader", "readRaw", "()V"⟩, 12)]
theorem lw_r1 : ∀ q ∈ lw_privs_1, lw_okq q := List.forall_mem_cons.mpr ⟨lw_p0, List.forall_mem_cons.mpr ⟨lw_p1, List.forall_mem_cons.mpr ⟨lw_p2, List.forall_mem_cons.mpr ⟨lw_p3, List.forall_mem_cons.mpr ⟨lw_p4, List.forall_mem_cons.mpr ⟨lw_p5, List.forall_mem_cons.mpr ⟨lw_p6, List.forall_mem_cons.mpr ⟨lw_p7, List.forall_mem_cons.mpr ⟨lw_p8, List.forall_mem_cons.mpr ⟨lw_p9, List.forall_mem_cons.mpr ⟨lw_p10, List.forall_mem_cons.mpr ⟨lw_p11, List.forall_mem_cons.mpr ⟨lw_p12, List.forall_mem_cons.mpr ⟨lw_p13, List.forall_mem_cons.mpr ⟨lw_p14, List.forall_mem_cons.mpr ⟨lw_p15, fun _ h => absurd h List.not_mem_nil⟩⟩⟩⟩⟩⟩⟩⟩⟩⟩⟩⟩⟩⟩⟩⟩
theorem lw_p16 : lw_okq (⟨"BrowserHouse$Reader", "addRun", "(IIZ)V"⟩, 12) := ⟨⟨by decide +kernel, by decide +kernel⟩, List.mem_of_getElem? (i := 508) (by decide +kernel), List.mem_of_getElem? (i := 1068) (by decide +kernel), List.mem_of_getElem? (i := 1069) (by decide +kernel)⟩
theorem lw_p17 : lw_okq (⟨"BrowserHouse$Reader", "isBlankRun", "(II)Z"⟩, 12) := ⟨⟨by decide +kernel, by decide +kernel⟩, List.mem_of_getElem? (i := 508) (by decide +kernel), List.mem_of_getElem? (i := 1072) (by decide +kernel), List.mem_of_getElem? (i := 1073) (by decide +kernel)⟩
theorem lw_p18 : lw_okq (⟨"BrowserHouse$Reader", "tell", "(II)V"⟩, 12) := ⟨⟨by decide +kernel, by decide +kernel⟩, List.mem_of_getElem? (i := 508) (by decide +kernel), List.mem_of_getElem? (i := 1081) (by decide +kernel), List.mem_of_getElem? (i := 1082) (by decide +kernel)⟩
theorem lw_p19 : lw_okq (⟨"BrowserHouse$Reader", "decode", "(IIZLBrowserHouse$Bytes;)I"⟩, 12) := ⟨⟨by decide +kernel, by decide +kernel⟩, List.mem_of_getElem? (i := 508) (by decide +kernel), List.mem_of_getElem? (i := 1086) (by decide +kernel), List.mem_of_getElem? (i := 1087) (by decide +kernel)⟩
theorem lw_p20 : lw_okq (⟨"BrowserHouse$Reader", "entityLength", "(II)I"⟩, 12) := ⟨⟨by decide +kernel, by decide +kernel⟩, List.mem_of_getElem? (i := 508) (by decide +kernel), List.mem_of_getElem? (i := 1090) (by decide +kernel), List.mem_of_getElem? (i := 1091) (by decide +kernel)⟩
theorem lw_p21 : lw_okq (⟨"BrowserHouse$Reader", "entityByte", "(I)I"⟩, 12) := ⟨⟨by decide +kernel, by decide +kernel⟩, List.mem_of_getElem? (i := 508) (by decide +kernel), List.mem_of_getElem? (i := 1098) (by decide +kernel), List.mem_of_getElem? (i := 1099) (by decide +kernel)⟩
theorem lw_p22 : lw_okq (⟨"BrowserHouse$Reader", "isTag", "(I)Z"⟩, 12) := ⟨⟨by decide +kernel, by decide +kernel⟩, List.mem_of_getElem? (i := 508) (by decide +kernel), List.mem_of_getElem? (i := 1103) (by decide +kernel), List.mem_of_getElem? (i := 1104) (by decide +kernel)⟩
theorem lw_p23 : lw_okq (⟨"BrowserHouse$Reader", "readTag", "()V"⟩, 12) := ⟨⟨by decide +kernel, by decide +kernel⟩, List.mem_of_getElem? (i := 508) (by decide +kernel), List.mem_of_getElem? (i := 1110) (by decide +kernel), List.mem_of_getElem? (i := 1111) (by decide +kernel)⟩
theorem lw_p24 : lw_okq (⟨"BrowserHouse$Reader", "readAttribute", "(IZ)I"⟩, 12) := ⟨⟨by decide +kernel, by decide +kernel⟩, List.mem_of_getElem? (i := 508) (by decide +kernel), List.mem_of_getElem? (i := 1118) (by decide +kernel), List.mem_of_getElem? (i := 1119) (by decide +kernel)⟩
theorem lw_p25 : lw_okq (⟨"BrowserHouse$Reader", "quoteEnd", "(II)I"⟩, 12) := ⟨⟨by decide +kernel, by decide +kernel⟩, List.mem_of_getElem? (i := 508) (by decide +kernel), List.mem_of_getElem? (i := 1122) (by decide +kernel), List.mem_of_getElem? (i := 1123) (by decide +kernel)⟩
theorem lw_p26 : lw_okq (⟨"BrowserHouse$Reader", "plainEnd", "(I)I"⟩, 12) := ⟨⟨by decide +kernel, by decide +kernel⟩, List.mem_of_getElem? (i := 508) (by decide +kernel), List.mem_of_getElem? (i := 1126) (by decide +kernel), List.mem_of_getElem? (i := 1127) (by decide +kernel)⟩
theorem lw_p27 : lw_okq (⟨"BrowserHouse$Reader", "endTag", "(JI)V"⟩, 12) := ⟨⟨by decide +kernel, by decide +kernel⟩, List.mem_of_getElem? (i := 508) (by decide +kernel), List.mem_of_getElem? (i := 1139) (by decide +kernel), List.mem_of_getElem? (i := 1140) (by decide +kernel)⟩
theorem lw_p28 : lw_okq (⟨"BrowserHouse$Reader", "closeTo", "(I)V"⟩, 12) := ⟨⟨by decide +kernel, by decide +kernel⟩, List.mem_of_getElem? (i := 508) (by decide +kernel), List.mem_of_getElem? (i := 1143) (by decide +kernel), List.mem_of_getElem? (i := 1144) (by decide +kernel)⟩
theorem lw_p29 : lw_okq (⟨"BrowserHouse$Reader", "startTag", "(JI)V"⟩, 12) := ⟨⟨by decide +kernel, by decide +kernel⟩, List.mem_of_getElem? (i := 508) (by decide +kernel), List.mem_of_getElem? (i := 1147) (by decide +kernel), List.mem_of_getElem? (i := 1148) (by decide +kernel)⟩
theorem lw_p30 : lw_okq (⟨"BrowserHouse$Reader", "closeTag", "(I)Z"⟩, 12) := ⟨⟨by decide +kernel, by decide +kernel⟩, List.mem_of_getElem? (i := 508) (by decide +kernel), List.mem_of_getElem? (i := 1155) (by decide +kernel), List.mem_of_getElem? (i := 1156) (by decide +kernel)⟩
theorem lw_p31 : lw_okq (⟨"BrowserHouse$Reader", "openOf", "(I)I"⟩, 12) := ⟨⟨by decide +kernel, by decide +kernel⟩, List.mem_of_getElem? (i := 508) (by decide +kernel), List.mem_of_getElem? (i := 1159) (by decide +kernel), List.mem_of_getElem? (i := 1160) (by decide +kernel)⟩
def lw_privs_2 : List (MethodName × Nat) := [(⟨"BrowserHouse$Reader", "addRun", "(IIZ)V"⟩, 12), (⟨"BrowserHouse$Reader", "isBlankRun", "(II)Z"⟩, 12), (⟨"BrowserHouse$Reader", "tell", "(II)V"⟩, 12), (⟨"BrowserHouse$Reader", "decode", "(IIZLBrowserHouse$Bytes;)I"⟩, 12), (⟨"BrowserHouse$Reader", "entityLength", "(II)I"⟩, 12), (⟨"BrowserHouse$Reader", "entityByte", "(I)I"⟩, 12), (⟨"BrowserHouse$Reader", "isTag", "(I)Z"⟩, 12), (⟨"BrowserHouse$Reader", "readTag", "()V"⟩, 12), (⟨"BrowserHouse$Reader", "readAttribute", "(IZ)I"⟩, 12), (⟨"BrowserHouse$Reader", "quoteEnd", "(II)I"⟩, 12), (⟨"BrowserHouse$Reader", "plainEnd", "(I)I"⟩, 12), (⟨"BrowserHouse$Reader", "endTag", "(JI)V"⟩, 12), (⟨"BrowserHouse$Reader", "closeTo", "(I)V"⟩, 12), (⟨"BrowserHouse$Reader", "startTag", "(JI)V"⟩, 12), (⟨"BrowserHouse$Reader", "closeTag", "(I)Z"⟩, 12), (⟨"BrowserHouse$Reader", "openOf", "(I)I"⟩, 12)]
theorem lw_r2 : ∀ q ∈ lw_privs_2, lw_okq q := List.forall_mem_cons.mpr ⟨lw_p16, List.forall_mem_cons.mpr ⟨lw_p17, List.forall_mem_cons.mpr ⟨lw_p18, List.forall_mem_cons.mpr ⟨lw_p19, List.forall_mem_cons.mpr ⟨lw_p20, List.forall_mem_cons.mpr ⟨lw_p21, List.forall_mem_cons.mpr ⟨lw_p22, List.forall_mem_cons.mpr ⟨lw_p23, List.forall_mem_cons.mpr ⟨lw_p24, List.forall_mem_cons.mpr ⟨lw_p25, List.forall_mem_cons.mpr ⟨lw_p26, List.forall_mem_cons.mpr ⟨lw_p27, List.forall_mem_cons.mpr ⟨lw_p28, List.forall_mem_cons.mpr ⟨lw_p29, List.forall_mem_cons.mpr ⟨lw_p30, List.forall_mem_cons.mpr ⟨lw_p31, fun _ h => absurd h List.not_mem_nil⟩⟩⟩⟩⟩⟩⟩⟩⟩⟩⟩⟩⟩⟩⟩⟩
theorem lw_p32 : lw_okq (⟨"BrowserHouse$Reader", "isComment", "(I)Z"⟩, 12) := ⟨⟨by decide +kernel, by decide +kernel⟩, List.mem_of_getElem? (i := 508) (by decide +kernel), List.mem_of_getElem? (i := 1192) (by decide +kernel), List.mem_of_getElem? (i := 1193) (by decide +kernel)⟩
theorem lw_p33 : lw_okq (⟨"BrowserHouse$Reader", "readComment", "()V"⟩, 12) := ⟨⟨by decide +kernel, by decide +kernel⟩, List.mem_of_getElem? (i := 508) (by decide +kernel), List.mem_of_getElem? (i := 1197) (by decide +kernel), List.mem_of_getElem? (i := 1198) (by decide +kernel)⟩
theorem lw_p34 : lw_okq (⟨"BrowserHouse$Reader", "readText", "()V"⟩, 12) := ⟨⟨by decide +kernel, by decide +kernel⟩, List.mem_of_getElem? (i := 508) (by decide +kernel), List.mem_of_getElem? (i := 1202) (by decide +kernel), List.mem_of_getElem? (i := 1203) (by decide +kernel)⟩
theorem lw_p35 : lw_okq (⟨"BrowserHouse$Acts", "finishGet", "()V"⟩, 20) := ⟨⟨by decide +kernel, by decide +kernel⟩, List.mem_of_getElem? (i := 772) (by decide +kernel), List.mem_of_getElem? (i := 1224) (by decide +kernel), List.mem_of_getElem? (i := 1225) (by decide +kernel)⟩
theorem lw_p36 : lw_okq (⟨"BrowserHouse$Tree", "free", "(II)V"⟩, 8) := ⟨⟨by decide +kernel, by decide +kernel⟩, List.mem_of_getElem? (i := 65) (by decide +kernel), List.mem_of_getElem? (i := 1236) (by decide +kernel), List.mem_of_getElem? (i := 1237) (by decide +kernel)⟩
theorem lw_p37 : lw_okq (⟨"BrowserHouse$Acts", "runNext", "()V"⟩, 20) := ⟨⟨by decide +kernel, by decide +kernel⟩, List.mem_of_getElem? (i := 772) (by decide +kernel), List.mem_of_getElem? (i := 1242) (by decide +kernel), List.mem_of_getElem? (i := 1243) (by decide +kernel)⟩
theorem lw_p38 : lw_okq (⟨"BrowserHouse$Acts", "runStep", "([BII)Z"⟩, 20) := ⟨⟨by decide +kernel, by decide +kernel⟩, List.mem_of_getElem? (i := 772) (by decide +kernel), List.mem_of_getElem? (i := 1247) (by decide +kernel), List.mem_of_getElem? (i := 1248) (by decide +kernel)⟩
theorem lw_p39 : lw_okq (⟨"BrowserHouse$Acts", "runPut", "([BII)Z"⟩, 20) := ⟨⟨by decide +kernel, by decide +kernel⟩, List.mem_of_getElem? (i := 772) (by decide +kernel), List.mem_of_getElem? (i := 1259) (by decide +kernel), List.mem_of_getElem? (i := 1260) (by decide +kernel)⟩
theorem lw_p40 : lw_okq (⟨"BrowserHouse$Acts", "runWait", "([BII)Z"⟩, 20) := ⟨⟨by decide +kernel, by decide +kernel⟩, List.mem_of_getElem? (i := 772) (by decide +kernel), List.mem_of_getElem? (i := 1269) (by decide +kernel), List.mem_of_getElem? (i := 1270) (by decide +kernel)⟩
theorem lw_p41 : lw_okq (⟨"BrowserHouse$Acts", "runOnNode", "(I[BII)Z"⟩, 20) := ⟨⟨by decide +kernel, by decide +kernel⟩, List.mem_of_getElem? (i := 772) (by decide +kernel), List.mem_of_getElem? (i := 1275) (by decide +kernel), List.mem_of_getElem? (i := 1276) (by decide +kernel)⟩
theorem lw_p42 : lw_okq (⟨"BrowserHouse$Acts", "nodeCalled", "([BII)I"⟩, 20) := ⟨⟨by decide +kernel, by decide +kernel⟩, List.mem_of_getElem? (i := 772) (by decide +kernel), List.mem_of_getElem? (i := 1279) (by decide +kernel), List.mem_of_getElem? (i := 1280) (by decide +kernel)⟩
theorem lw_p43 : lw_okq (⟨"BrowserHouse$Acts", "runAdd", "(I[BII)Z"⟩, 20) := ⟨⟨by decide +kernel, by decide +kernel⟩, List.mem_of_getElem? (i := 772) (by decide +kernel), List.mem_of_getElem? (i := 1313) (by decide +kernel), List.mem_of_getElem? (i := 1314) (by decide +kernel)⟩
theorem lw_p44 : lw_okq (⟨"BrowserHouse$Acts", "lookUp", "([BII)Z"⟩, 20) := ⟨⟨by decide +kernel, by decide +kernel⟩, List.mem_of_getElem? (i := 772) (by decide +kernel), List.mem_of_getElem? (i := 1321) (by decide +kernel), List.mem_of_getElem? (i := 1322) (by decide +kernel)⟩
theorem lw_p45 : lw_okq (⟨"BrowserHouse$Acts", "listenNext", "()V"⟩, 20) := ⟨⟨by decide +kernel, by decide +kernel⟩, List.mem_of_getElem? (i := 772) (by decide +kernel), List.mem_of_getElem? (i := 1330) (by decide +kernel), List.mem_of_getElem? (i := 1331) (by decide +kernel)⟩
theorem lw_p46 : lw_okq (⟨"BrowserHouse$Acts", "doDefault", "()V"⟩, 20) := ⟨⟨by decide +kernel, by decide +kernel⟩, List.mem_of_getElem? (i := 772) (by decide +kernel), List.mem_of_getElem? (i := 1340) (by decide +kernel), List.mem_of_getElem? (i := 1341) (by decide +kernel)⟩
theorem lw_p47 : lw_okq (⟨"BrowserHouse$Acts", "typeKey", "(I)V"⟩, 20) := ⟨⟨by decide +kernel, by decide +kernel⟩, List.mem_of_getElem? (i := 772) (by decide +kernel), List.mem_of_getElem? (i := 1344) (by decide +kernel), List.mem_of_getElem? (i := 1345) (by decide +kernel)⟩
def lw_privs_3 : List (MethodName × Nat) := [(⟨"BrowserHouse$Reader", "isComment", "(I)Z"⟩, 12), (⟨"BrowserHouse$Reader", "readComment", "()V"⟩, 12), (⟨"BrowserHouse$Reader", "readText", "()V"⟩, 12), (⟨"BrowserHouse$Acts", "finishGet", "()V"⟩, 20), (⟨"BrowserHouse$Tree", "free", "(II)V"⟩, 8), (⟨"BrowserHouse$Acts", "runNext", "()V"⟩, 20), (⟨"BrowserHouse$Acts", "runStep", "([BII)Z"⟩, 20), (⟨"BrowserHouse$Acts", "runPut", "([BII)Z"⟩, 20), (⟨"BrowserHouse$Acts", "runWait", "([BII)Z"⟩, 20), (⟨"BrowserHouse$Acts", "runOnNode", "(I[BII)Z"⟩, 20), (⟨"BrowserHouse$Acts", "nodeCalled", "([BII)I"⟩, 20), (⟨"BrowserHouse$Acts", "runAdd", "(I[BII)Z"⟩, 20), (⟨"BrowserHouse$Acts", "lookUp", "([BII)Z"⟩, 20), (⟨"BrowserHouse$Acts", "listenNext", "()V"⟩, 20), (⟨"BrowserHouse$Acts", "doDefault", "()V"⟩, 20), (⟨"BrowserHouse$Acts", "typeKey", "(I)V"⟩, 20)]
theorem lw_r3 : ∀ q ∈ lw_privs_3, lw_okq q := List.forall_mem_cons.mpr ⟨lw_p32, List.forall_mem_cons.mpr ⟨lw_p33, List.forall_mem_cons.mpr ⟨lw_p34, List.forall_mem_cons.mpr ⟨lw_p35, List.forall_mem_cons.mpr ⟨lw_p36, List.forall_mem_cons.mpr ⟨lw_p37, List.forall_mem_cons.mpr ⟨lw_p38, List.forall_mem_cons.mpr ⟨lw_p39, List.forall_mem_cons.mpr ⟨lw_p40, List.forall_mem_cons.mpr ⟨lw_p41, List.forall_mem_cons.mpr ⟨lw_p42, List.forall_mem_cons.mpr ⟨lw_p43, List.forall_mem_cons.mpr ⟨lw_p44, List.forall_mem_cons.mpr ⟨lw_p45, List.forall_mem_cons.mpr ⟨lw_p46, List.forall_mem_cons.mpr ⟨lw_p47, fun _ h => absurd h List.not_mem_nil⟩⟩⟩⟩⟩⟩⟩⟩⟩⟩⟩⟩⟩⟩⟩⟩
theorem lw_p48 : lw_okq (⟨"BrowserHouse$Acts", "send", "(I)V"⟩, 20) := ⟨⟨by decide +kernel, by decide +kernel⟩, List.mem_of_getElem? (i := 772) (by decide +kernel), List.mem_of_getElem? (i := 1357) (by decide +kernel), List.mem_of_getElem? (i := 1358) (by decide +kernel)⟩
theorem lw_p49 : lw_okq (⟨"BrowserHouse$Acts", "addSent", "(LBrowserHouse$Node;)V"⟩, 20) := ⟨⟨by decide +kernel, by decide +kernel⟩, List.mem_of_getElem? (i := 772) (by decide +kernel), List.mem_of_getElem? (i := 1369) (by decide +kernel), List.mem_of_getElem? (i := 1370) (by decide +kernel)⟩
theorem lw_p50 : lw_okq (⟨"BrowserHouse$Acts", "pressOn", "(I)Z"⟩, 20) := ⟨⟨by decide +kernel, by decide +kernel⟩, List.mem_of_getElem? (i := 772) (by decide +kernel), List.mem_of_getElem? (i := 1382) (by decide +kernel), List.mem_of_getElem? (i := 1383) (by decide +kernel)⟩
theorem lw_p51 : lw_okq (⟨"BrowserHouse", "showBytes", "(LBrowserHouse$Bytes;)I"⟩, 10) := ⟨⟨by decide +kernel, by decide +kernel⟩, List.mem_of_getElem? (i := 22) (by decide +kernel), List.mem_of_getElem? (i := 1405) (by decide +kernel), List.mem_of_getElem? (i := 1406) (by decide +kernel)⟩
theorem lw_p52 : lw_okq (⟨"BrowserHouse", "isNode", "(I)Z"⟩, 10) := ⟨⟨by decide +kernel, by decide +kernel⟩, List.mem_of_getElem? (i := 22) (by decide +kernel), List.mem_of_getElem? (i := 1422) (by decide +kernel), List.mem_of_getElem? (i := 1423) (by decide +kernel)⟩
theorem lw_p53 : lw_okq (⟨"BrowserHouse", "showAttribute", "(IJ)I"⟩, 10) := ⟨⟨by decide +kernel, by decide +kernel⟩, List.mem_of_getElem? (i := 22) (by decide +kernel), List.mem_of_getElem? (i := 1449) (by decide +kernel), List.mem_of_getElem? (i := 1450) (by decide +kernel)⟩
theorem lw_p54 : lw_okq (⟨"BrowserHouse", "isElement", "(I)Z"⟩, 10) := ⟨⟨by decide +kernel, by decide +kernel⟩, List.mem_of_getElem? (i := 22) (by decide +kernel), List.mem_of_getElem? (i := 1453) (by decide +kernel), List.mem_of_getElem? (i := 1454) (by decide +kernel)⟩
theorem lw_p55 : lw_okq (⟨"BrowserHouse$Tree", "printStart", "(ILBrowserHouse$Bytes;)V"⟩, 8) := ⟨⟨by decide +kernel, by decide +kernel⟩, List.mem_of_getElem? (i := 65) (by decide +kernel), List.mem_of_getElem? (i := 1466) (by decide +kernel), List.mem_of_getElem? (i := 1467) (by decide +kernel)⟩
theorem lw_p56 : lw_okq (⟨"BrowserHouse$Sheet", "readPart", "([BIII)I"⟩, 15) := ⟨⟨by decide +kernel, by decide +kernel⟩, List.mem_of_getElem? (i := 556) (by decide +kernel), List.mem_of_getElem? (i := 1498) (by decide +kernel), List.mem_of_getElem? (i := 1499) (by decide +kernel)⟩
theorem lw_p57 : lw_okq (⟨"BrowserHouse", "listMatches", "()I"⟩, 10) := ⟨⟨by decide +kernel, by decide +kernel⟩, List.mem_of_getElem? (i := 22) (by decide +kernel), List.mem_of_getElem? (i := 1508) (by decide +kernel), List.mem_of_getElem? (i := 1509) (by decide +kernel)⟩
theorem lw_p58 : lw_okq (⟨"BrowserHouse$Sheet", "isPartMatch", "(ILBrowserHouse$Node;)Z"⟩, 15) := ⟨⟨by decide +kernel, by decide +kernel⟩, List.mem_of_getElem? (i := 556) (by decide +kernel), List.mem_of_getElem? (i := 1517) (by decide +kernel), List.mem_of_getElem? (i := 1518) (by decide +kernel)⟩
theorem lw_p59 : lw_okq (⟨"BrowserHouse$Sheet", "readSheet", "([BI)V"⟩, 15) := ⟨⟨by decide +kernel, by decide +kernel⟩, List.mem_of_getElem? (i := 556) (by decide +kernel), List.mem_of_getElem? (i := 1539) (by decide +kernel), List.mem_of_getElem? (i := 1540) (by decide +kernel)⟩
theorem lw_p60 : lw_okq (⟨"BrowserHouse$Sheet", "areSelectors", "([BII)Z"⟩, 15) := ⟨⟨by decide +kernel, by decide +kernel⟩, List.mem_of_getElem? (i := 556) (by decide +kernel), List.mem_of_getElem? (i := 1546) (by decide +kernel), List.mem_of_getElem? (i := 1547) (by decide +kernel)⟩
theorem lw_p61 : lw_okq (⟨"BrowserHouse$Sheet", "takeSelector", "([BIII)Z"⟩, 15) := ⟨⟨by decide +kernel, by decide +kernel⟩, List.mem_of_getElem? (i := 556) (by decide +kernel), List.mem_of_getElem? (i := 1550) (by decide +kernel), List.mem_of_getElem? (i := 1551) (by decide +kernel)⟩
theorem lw_p62 : lw_okq (⟨"BrowserHouse$Sheet", "readRule", "([BIII)V"⟩, 15) := ⟨⟨by decide +kernel, by decide +kernel⟩, List.mem_of_getElem? (i := 556) (by decide +kernel), List.mem_of_getElem? (i := 1558) (by decide +kernel), List.mem_of_getElem? (i := 1559) (by decide +kernel)⟩
theorem lw_p63 : lw_okq (⟨"BrowserHouse$Sheet", "readDeclaration", "([BIII)V"⟩, 15) := ⟨⟨by decide +kernel, by decide +kernel⟩, List.mem_of_getElem? (i := 556) (by decide +kernel), List.mem_of_getElem? (i := 1568) (by decide +kernel), List.mem_of_getElem? (i := 1569) (by decide +kernel)⟩
def lw_privs_4 : List (MethodName × Nat) := [(⟨"BrowserHouse$Acts", "send", "(I)V"⟩, 20), (⟨"BrowserHouse$Acts", "addSent", "(LBrowserHouse$Node;)V"⟩, 20), (⟨"BrowserHouse$Acts", "pressOn", "(I)Z"⟩, 20), (⟨"BrowserHouse", "showBytes", "(LBrowserHouse$Bytes;)I"⟩, 10), (⟨"BrowserHouse", "isNode", "(I)Z"⟩, 10), (⟨"BrowserHouse", "showAttribute", "(IJ)I"⟩, 10), (⟨"BrowserHouse", "isElement", "(I)Z"⟩, 10), (⟨"BrowserHouse$Tree", "printStart", "(ILBrowserHouse$Bytes;)V"⟩, 8), (⟨"BrowserHouse$Sheet", "readPart", "([BIII)I"⟩, 15), (⟨"BrowserHouse", "listMatches", "()I"⟩, 10), (⟨"BrowserHouse$Sheet", "isPartMatch", "(ILBrowserHouse$Node;)Z"⟩, 15), (⟨"BrowserHouse$Sheet", "readSheet", "([BI)V"⟩, 15), (⟨"BrowserHouse$Sheet", "areSelectors", "([BII)Z"⟩, 15), (⟨"BrowserHouse$Sheet", "takeSelector", "([BIII)Z"⟩, 15), (⟨"BrowserHouse$Sheet", "readRule", "([BIII)V"⟩, 15), (⟨"BrowserHouse$Sheet", "readDeclaration", "([BIII)V"⟩, 15)]
theorem lw_r4 : ∀ q ∈ lw_privs_4, lw_okq q := List.forall_mem_cons.mpr ⟨lw_p48, List.forall_mem_cons.mpr ⟨lw_p49, List.forall_mem_cons.mpr ⟨lw_p50, List.forall_mem_cons.mpr ⟨lw_p51, List.forall_mem_cons.mpr ⟨lw_p52, List.forall_mem_cons.mpr ⟨lw_p53, List.forall_mem_cons.mpr ⟨lw_p54, List.forall_mem_cons.mpr ⟨lw_p55, List.forall_mem_cons.mpr ⟨lw_p56, List.forall_mem_cons.mpr ⟨lw_p57, List.forall_mem_cons.mpr ⟨lw_p58, List.forall_mem_cons.mpr ⟨lw_p59, List.forall_mem_cons.mpr ⟨lw_p60, List.forall_mem_cons.mpr ⟨lw_p61, List.forall_mem_cons.mpr ⟨lw_p62, List.forall_mem_cons.mpr ⟨lw_p63, fun _ h => absurd h List.not_mem_nil⟩⟩⟩⟩⟩⟩⟩⟩⟩⟩⟩⟩⟩⟩⟩⟩
theorem lw_p64 : lw_okq (⟨"BrowserHouse$Sheet", "cascade", "(I)V"⟩, 15) := ⟨⟨by decide +kernel, by decide +kernel⟩, List.mem_of_getElem? (i := 556) (by decide +kernel), List.mem_of_getElem? (i := 1589) (by decide +kernel), List.mem_of_getElem? (i := 1590) (by decide +kernel)⟩
theorem lw_p65 : lw_okq (⟨"BrowserHouse$Sheet", "usual", "(LBrowserHouse$Node;I)I"⟩, 15) := ⟨⟨by decide +kernel, by decide +kernel⟩, List.mem_of_getElem? (i := 556) (by decide +kernel), List.mem_of_getElem? (i := 1593) (by decide +kernel), List.mem_of_getElem? (i := 1594) (by decide +kernel)⟩
theorem lw_p66 : lw_okq (⟨"BrowserHouse$Sheet", "apply", "(II)V"⟩, 15) := ⟨⟨by decide +kernel, by decide +kernel⟩, List.mem_of_getElem? (i := 556) (by decide +kernel), List.mem_of_getElem? (i := 1598) (by decide +kernel), List.mem_of_getElem? (i := 1599) (by decide +kernel)⟩
theorem lw_p67 : lw_okq (⟨"BrowserHouse$Layout", "measure", "(I)V"⟩, 20) := ⟨⟨by decide +kernel, by decide +kernel⟩, List.mem_of_getElem? (i := 617) (by decide +kernel), List.mem_of_getElem? (i := 1623) (by decide +kernel), List.mem_of_getElem? (i := 1624) (by decide +kernel)⟩
theorem lw_p68 : lw_okq (⟨"BrowserHouse$Layout", "kindOf", "(ILBrowserHouse$Node;)I"⟩, 20) := ⟨⟨by decide +kernel, by decide +kernel⟩, List.mem_of_getElem? (i := 617) (by decide +kernel), List.mem_of_getElem? (i := 1627) (by decide +kernel), List.mem_of_getElem? (i := 1628) (by decide +kernel)⟩
theorem lw_p69 : lw_okq (⟨"BrowserHouse$Layout", "look", "(II)I"⟩, 20) := ⟨⟨by decide +kernel, by decide +kernel⟩, List.mem_of_getElem? (i := 617) (by decide +kernel), List.mem_of_getElem? (i := 1631) (by decide +kernel), List.mem_of_getElem? (i := 1632) (by decide +kernel)⟩
theorem lw_p70 : lw_okq (⟨"BrowserHouse$Layout", "listWords", "(ILBrowserHouse$Bytes;LBrowserHouse$Box;)V"⟩, 20) := ⟨⟨by decide +kernel, by decide +kernel⟩, List.mem_of_getElem? (i := 617) (by decide +kernel), List.mem_of_getElem? (i := 1636) (by decide +kernel), List.mem_of_getElem? (i := 1637) (by decide +kernel)⟩
theorem lw_p71 : lw_okq (⟨"BrowserHouse$Layout", "addWord", "(IIII)V"⟩, 20) := ⟨⟨by decide +kernel, by decide +kernel⟩, List.mem_of_getElem? (i := 617) (by decide +kernel), List.mem_of_getElem? (i := 1644) (by decide +kernel), List.mem_of_getElem? (i := 1645) (by decide +kernel)⟩
theorem lw_p72 : lw_okq (⟨"BrowserHouse$Layout", "measurePiece", "(IILBrowserHouse$Box;)V"⟩, 20) := ⟨⟨by decide +kernel, by decide +kernel⟩, List.mem_of_getElem? (i := 617) (by decide +kernel), List.mem_of_getElem? (i := 1656) (by decide +kernel), List.mem_of_getElem? (i := 1657) (by decide +kernel)⟩
theorem lw_p73 : lw_okq (⟨"BrowserHouse$Layout", "widthTold", "(II)I"⟩, 20) := ⟨⟨by decide +kernel, by decide +kernel⟩, List.mem_of_getElem? (i := 617) (by decide +kernel), List.mem_of_getElem? (i := 1660) (by decide +kernel), List.mem_of_getElem? (i := 1661) (by decide +kernel)⟩
theorem lw_p74 : lw_okq (⟨"BrowserHouse$Layout", "textWidth", "(II)I"⟩, 20) := ⟨⟨by decide +kernel, by decide +kernel⟩, List.mem_of_getElem? (i := 617) (by decide +kernel), List.mem_of_getElem? (i := 1669) (by decide +kernel), List.mem_of_getElem? (i := 1670) (by decide +kernel)⟩
theorem lw_p75 : lw_okq (⟨"BrowserHouse$Layout", "measureBlock", "(ILBrowserHouse$Box;)V"⟩, 20) := ⟨⟨by decide +kernel, by decide +kernel⟩, List.mem_of_getElem? (i := 617) (by decide +kernel), List.mem_of_getElem? (i := 1675) (by decide +kernel), List.mem_of_getElem? (i := 1676) (by decide +kernel)⟩
theorem lw_p76 : lw_okq (⟨"BrowserHouse$Layout", "joinMargins", "(I)V"⟩, 20) := ⟨⟨by decide +kernel, by decide +kernel⟩, List.mem_of_getElem? (i := 617) (by decide +kernel), List.mem_of_getElem? (i := 1681) (by decide +kernel), List.mem_of_getElem? (i := 1682) (by decide +kernel)⟩
theorem lw_p77 : lw_okq (⟨"BrowserHouse$Layout", "layFlex", "(I)V"⟩, 20) := ⟨⟨by decide +kernel, by decide +kernel⟩, List.mem_of_getElem? (i := 617) (by decide +kernel), List.mem_of_getElem? (i := 1689) (by decide +kernel), List.mem_of_getElem? (i := 1690) (by decide +kernel)⟩
theorem lw_p78 : lw_okq (⟨"BrowserHouse$Layout", "setHeight", "(ILBrowserHouse$Box;I)V"⟩, 20) := ⟨⟨by decide +kernel, by decide +kernel⟩, List.mem_of_getElem? (i := 617) (by decide +kernel), List.mem_of_getElem? (i := 1693) (by decide +kernel), List.mem_of_getElem? (i := 1694) (by decide +kernel)⟩
theorem lw_p79 : lw_okq (⟨"BrowserHouse$Layout", "layFlow", "(I)V"⟩, 20) := ⟨⟨by decide +kernel, by decide +kernel⟩, List.mem_of_getElem? (i := 617) (by decide +kernel), List.mem_of_getElem? (i := 1697) (by decide +kernel), List.mem_of_getElem? (i := 1698) (by decide +kernel)⟩
def lw_privs_5 : List (MethodName × Nat) := [(⟨"BrowserHouse$Sheet", "cascade", "(I)V"⟩, 15), (⟨"BrowserHouse$Sheet", "usual", "(LBrowserHouse$Node;I)I"⟩, 15), (⟨"BrowserHouse$Sheet", "apply", "(II)V"⟩, 15), (⟨"BrowserHouse$Layout", "measure", "(I)V"⟩, 20), (⟨"BrowserHouse$Layout", "kindOf", "(ILBrowserHouse$Node;)I"⟩, 20), (⟨"BrowserHouse$Layout", "look", "(II)I"⟩, 20), (⟨"BrowserHouse$Layout", "listWords", "(ILBrowserHouse$Bytes;LBrowserHouse$Box;)V"⟩, 20), (⟨"BrowserHouse$Layout", "addWord", "(IIII)V"⟩, 20), (⟨"BrowserHouse$Layout", "measurePiece", "(IILBrowserHouse$Box;)V"⟩, 20), (⟨"BrowserHouse$Layout", "widthTold", "(II)I"⟩, 20), (⟨"BrowserHouse$Layout", "textWidth", "(II)I"⟩, 20), (⟨"BrowserHouse$Layout", "measureBlock", "(ILBrowserHouse$Box;)V"⟩, 20), (⟨"BrowserHouse$Layout", "joinMargins", "(I)V"⟩, 20), (⟨"BrowserHouse$Layout", "layFlex", "(I)V"⟩, 20), (⟨"BrowserHouse$Layout", "setHeight", "(ILBrowserHouse$Box;I)V"⟩, 20), (⟨"BrowserHouse$Layout", "layFlow", "(I)V"⟩, 20)]
theorem lw_r5 : ∀ q ∈ lw_privs_5, lw_okq q := List.forall_mem_cons.mpr ⟨lw_p64, List.forall_mem_cons.mpr ⟨lw_p65, List.forall_mem_cons.mpr ⟨lw_p66, List.forall_mem_cons.mpr ⟨lw_p67, List.forall_mem_cons.mpr ⟨lw_p68, List.forall_mem_cons.mpr ⟨lw_p69, List.forall_mem_cons.mpr ⟨lw_p70, List.forall_mem_cons.mpr ⟨lw_p71, List.forall_mem_cons.mpr ⟨lw_p72, List.forall_mem_cons.mpr ⟨lw_p73, List.forall_mem_cons.mpr ⟨lw_p74, List.forall_mem_cons.mpr ⟨lw_p75, List.forall_mem_cons.mpr ⟨lw_p76, List.forall_mem_cons.mpr ⟨lw_p77, List.forall_mem_cons.mpr ⟨lw_p78, List.forall_mem_cons.mpr ⟨lw_p79, fun _ h => absurd h List.not_mem_nil⟩⟩⟩⟩⟩⟩⟩⟩⟩⟩⟩⟩⟩⟩⟩⟩
theorem lw_p80 : lw_okq (⟨"BrowserHouse$Layout", "startFlow", "(LBrowserHouse$Box;)V"⟩, 20) := ⟨⟨by decide +kernel, by decide +kernel⟩, List.mem_of_getElem? (i := 617) (by decide +kernel), List.mem_of_getElem? (i := 1701) (by decide +kernel), List.mem_of_getElem? (i := 1702) (by decide +kernel)⟩
theorem lw_p81 : lw_okq (⟨"BrowserHouse$Layout", "openAt", "(I)V"⟩, 20) := ⟨⟨by decide +kernel, by decide +kernel⟩, List.mem_of_getElem? (i := 617) (by decide +kernel), List.mem_of_getElem? (i := 1705) (by decide +kernel), List.mem_of_getElem? (i := 1706) (by decide +kernel)⟩
theorem lw_p82 : lw_okq (⟨"BrowserHouse$Layout", "closeLine", "()V"⟩, 20) := ⟨⟨by decide +kernel, by decide +kernel⟩, List.mem_of_getElem? (i := 617) (by decide +kernel), List.mem_of_getElem? (i := 1709) (by decide +kernel), List.mem_of_getElem? (i := 1710) (by decide +kernel)⟩
theorem lw_p83 : lw_okq (⟨"BrowserHouse$Layout", "putFloat", "(LBrowserHouse$Box;)V"⟩, 20) := ⟨⟨by decide +kernel, by decide +kernel⟩, List.mem_of_getElem? (i := 617) (by decide +kernel), List.mem_of_getElem? (i := 1717) (by decide +kernel), List.mem_of_getElem? (i := 1718) (by decide +kernel)⟩
theorem lw_p84 : lw_okq (⟨"BrowserHouse$Layout", "putWords", "(LBrowserHouse$Bytes;LBrowserHouse$Box;)V"⟩, 20) := ⟨⟨by decide +kernel, by decide +kernel⟩, List.mem_of_getElem? (i := 617) (by decide +kernel), List.mem_of_getElem? (i := 1721) (by decide +kernel), List.mem_of_getElem? (i := 1722) (by decide +kernel)⟩
theorem lw_p85 : lw_okq (⟨"BrowserHouse$Layout", "putItem", "(III)V"⟩, 20) := ⟨⟨by decide +kernel, by decide +kernel⟩, List.mem_of_getElem? (i := 617) (by decide +kernel), List.mem_of_getElem? (i := 1725) (by decide +kernel), List.mem_of_getElem? (i := 1726) (by decide +kernel)⟩
theorem lw_p86 : lw_okq (⟨"BrowserHouse$Layout", "layInLines", "(ILBrowserHouse$Box;)V"⟩, 20) := ⟨⟨by decide +kernel, by decide +kernel⟩, List.mem_of_getElem? (i := 617) (by decide +kernel), List.mem_of_getElem? (i := 1729) (by decide +kernel), List.mem_of_getElem? (i := 1730) (by decide +kernel)⟩
theorem lw_p87 : lw_okq (⟨"BrowserHouse$Layout", "moveToHolder", "(LBrowserHouse$Box;)V"⟩, 20) := ⟨⟨by decide +kernel, by decide +kernel⟩, List.mem_of_getElem? (i := 617) (by decide +kernel), List.mem_of_getElem? (i := 1733) (by decide +kernel), List.mem_of_getElem? (i := 1734) (by decide +kernel)⟩
theorem lw_p88 : lw_okq (⟨"BrowserHouse$Layout", "pieceColorAt", "(III)I"⟩, 20) := ⟨⟨by decide +kernel, by decide +kernel⟩, List.mem_of_getElem? (i := 617) (by decide +kernel), List.mem_of_getElem? (i := 1770) (by decide +kernel), List.mem_of_getElem? (i := 1771) (by decide +kernel)⟩
theorem lw_p89 : lw_okq (⟨"BrowserHouse$Layout", "wordColorAt", "(III)I"⟩, 20) := ⟨⟨by decide +kernel, by decide +kernel⟩, List.mem_of_getElem? (i := 617) (by decide +kernel), List.mem_of_getElem? (i := 1782) (by decide +kernel), List.mem_of_getElem? (i := 1783) (by decide +kernel)⟩
theorem lw_p90 : lw_okq (⟨"BrowserHouse$Layout", "wordAt", "(LBrowserHouse$Box;II)I"⟩, 20) := ⟨⟨by decide +kernel, by decide +kernel⟩, List.mem_of_getElem? (i := 617) (by decide +kernel), List.mem_of_getElem? (i := 1786) (by decide +kernel), List.mem_of_getElem? (i := 1787) (by decide +kernel)⟩
theorem lw_p91 : lw_okq (⟨"BrowserHouse", "isInput", "(I)Z"⟩, 10) := ⟨⟨by decide +kernel, by decide +kernel⟩, List.mem_of_getElem? (i := 22) (by decide +kernel), List.mem_of_getElem? (i := 1823) (by decide +kernel), List.mem_of_getElem? (i := 1824) (by decide +kernel)⟩
theorem lw_p92 : lw_okq (⟨"BrowserHouse", "countOfNet", "(I)I"⟩, 10) := ⟨⟨by decide +kernel, by decide +kernel⟩, List.mem_of_getElem? (i := 22) (by decide +kernel), List.mem_of_getElem? (i := 1836) (by decide +kernel), List.mem_of_getElem? (i := 1837) (by decide +kernel)⟩
theorem lw_p93 : lw_okq (⟨"BrowserHouseModel", "take", "()I"⟩, 186) := ⟨⟨by decide +kernel, by decide +kernel⟩, List.mem_of_getElem? (i := 1846) (by decide +kernel), List.mem_of_getElem? (i := 1844) (by decide +kernel), List.mem_of_getElem? (i := 1845) (by decide +kernel)⟩
theorem lw_p94 : lw_okq (⟨"BrowserHouseModel", "tokenEnd", "(I)I"⟩, 186) := ⟨⟨by decide +kernel, by decide +kernel⟩, List.mem_of_getElem? (i := 1846) (by decide +kernel), List.mem_of_getElem? (i := 1852) (by decide +kernel), List.mem_of_getElem? (i := 1853) (by decide +kernel)⟩
theorem lw_p95 : lw_okq (⟨"BrowserHouseModel", "refer", "([BIII)Z"⟩, 186) := ⟨⟨by decide +kernel, by decide +kernel⟩, List.mem_of_getElem? (i := 1846) (by decide +kernel), List.mem_of_getElem? (i := 1859) (by decide +kernel), List.mem_of_getElem? (i := 1860) (by decide +kernel)⟩
def lw_privs_6 : List (MethodName × Nat) := [(⟨"BrowserHouse$Layout", "startFlow", "(LBrowserHouse$Box;)V"⟩, 20), (⟨"BrowserHouse$Layout", "openAt", "(I)V"⟩, 20), (⟨"BrowserHouse$Layout", "closeLine", "()V"⟩, 20), (⟨"BrowserHouse$Layout", "putFloat", "(LBrowserHouse$Box;)V"⟩, 20), (⟨"BrowserHouse$Layout", "putWords", "(LBrowserHouse$Bytes;LBrowserHouse$Box;)V"⟩, 20), (⟨"BrowserHouse$Layout", "putItem", "(III)V"⟩, 20), (⟨"BrowserHouse$Layout", "layInLines", "(ILBrowserHouse$Box;)V"⟩, 20), (⟨"BrowserHouse$Layout", "moveToHolder", "(LBrowserHouse$Box;)V"⟩, 20), (⟨"BrowserHouse$Layout", "pieceColorAt", "(III)I"⟩, 20), (⟨"BrowserHouse$Layout", "wordColorAt", "(III)I"⟩, 20), (⟨"BrowserHouse$Layout", "wordAt", "(LBrowserHouse$Box;II)I"⟩, 20), (⟨"BrowserHouse", "isInput", "(I)Z"⟩, 10), (⟨"BrowserHouse", "countOfNet", "(I)I"⟩, 10), (⟨"BrowserHouseModel", "take", "()I"⟩, 186), (⟨"BrowserHouseModel", "tokenEnd", "(I)I"⟩, 186), (⟨"BrowserHouseModel", "refer", "([BIII)Z"⟩, 186)]
theorem lw_r6 : ∀ q ∈ lw_privs_6, lw_okq q := List.forall_mem_cons.mpr ⟨lw_p80, List.forall_mem_cons.mpr ⟨lw_p81, List.forall_mem_cons.mpr ⟨lw_p82, List.forall_mem_cons.mpr ⟨lw_p83, List.forall_mem_cons.mpr ⟨lw_p84, List.forall_mem_cons.mpr ⟨lw_p85, List.forall_mem_cons.mpr ⟨lw_p86, List.forall_mem_cons.mpr ⟨lw_p87, List.forall_mem_cons.mpr ⟨lw_p88, List.forall_mem_cons.mpr ⟨lw_p89, List.forall_mem_cons.mpr ⟨lw_p90, List.forall_mem_cons.mpr ⟨lw_p91, List.forall_mem_cons.mpr ⟨lw_p92, List.forall_mem_cons.mpr ⟨lw_p93, List.forall_mem_cons.mpr ⟨lw_p94, List.forall_mem_cons.mpr ⟨lw_p95, fun _ h => absurd h List.not_mem_nil⟩⟩⟩⟩⟩⟩⟩⟩⟩⟩⟩⟩⟩⟩⟩⟩
theorem lw_p96 : lw_okq (⟨"BrowserHouseModel", "put", "(II)V"⟩, 186) := ⟨⟨by decide +kernel, by decide +kernel⟩, List.mem_of_getElem? (i := 1846) (by decide +kernel), List.mem_of_getElem? (i := 1872) (by decide +kernel), List.mem_of_getElem? (i := 1873) (by decide +kernel)⟩
theorem lw_p97 : lw_okq (⟨"BrowserHouseModel", "segments", "([BI)Z"⟩, 186) := ⟨⟨by decide +kernel, by decide +kernel⟩, List.mem_of_getElem? (i := 1846) (by decide +kernel), List.mem_of_getElem? (i := 1876) (by decide +kernel), List.mem_of_getElem? (i := 1877) (by decide +kernel)⟩
theorem lw_p98 : lw_okq (⟨"BrowserHouseModel", "oneSegment", "([BI)Z"⟩, 186) := ⟨⟨by decide +kernel, by decide +kernel⟩, List.mem_of_getElem? (i := 1846) (by decide +kernel), List.mem_of_getElem? (i := 1880) (by decide +kernel), List.mem_of_getElem? (i := 1881) (by decide +kernel)⟩
theorem lw_p99 : lw_okq (⟨"BrowserHouseModel", "segment", "([BII)V"⟩, 186) := ⟨⟨by decide +kernel, by decide +kernel⟩, List.mem_of_getElem? (i := 1846) (by decide +kernel), List.mem_of_getElem? (i := 1887) (by decide +kernel), List.mem_of_getElem? (i := 1888) (by decide +kernel)⟩
theorem lw_p100 : lw_okq (⟨"BrowserHouseModel", "siteEnd", "(I)I"⟩, 186) := ⟨⟨by decide +kernel, by decide +kernel⟩, List.mem_of_getElem? (i := 1846) (by decide +kernel), List.mem_of_getElem? (i := 1891) (by decide +kernel), List.mem_of_getElem? (i := 1892) (by decide +kernel)⟩
theorem lw_p101 : lw_okq (⟨"BrowserHouseModel", "baseSegments", "(IZ)V"⟩, 186) := ⟨⟨by decide +kernel, by decide +kernel⟩, List.mem_of_getElem? (i := 1846) (by decide +kernel), List.mem_of_getElem? (i := 1895) (by decide +kernel), List.mem_of_getElem? (i := 1896) (by decide +kernel)⟩
theorem lw_p102 : lw_okq (⟨"BrowserHouseModel", "queryAt", "(I)I"⟩, 186) := ⟨⟨by decide +kernel, by decide +kernel⟩, List.mem_of_getElem? (i := 1846) (by decide +kernel), List.mem_of_getElem? (i := 1899) (by decide +kernel), List.mem_of_getElem? (i := 1900) (by decide +kernel)⟩
theorem lw_p103 : lw_okq (⟨"BrowserHouseModel", "query", "([BIIZ)Z"⟩, 186) := ⟨⟨by decide +kernel, by decide +kernel⟩, List.mem_of_getElem? (i := 1846) (by decide +kernel), List.mem_of_getElem? (i := 1903) (by decide +kernel), List.mem_of_getElem? (i := 1904) (by decide +kernel)⟩
theorem lw_p104 : lw_okq (⟨"BrowserHouseModel", "copyRow", "(II)V"⟩, 186) := ⟨⟨by decide +kernel, by decide +kernel⟩, List.mem_of_getElem? (i := 1846) (by decide +kernel), List.mem_of_getElem? (i := 1910) (by decide +kernel), List.mem_of_getElem? (i := 1911) (by decide +kernel)⟩
theorem lw_p105 : lw_okq (⟨"BrowserHouseModel", "field", "(II)Z"⟩, 186) := ⟨⟨by decide +kernel, by decide +kernel⟩, List.mem_of_getElem? (i := 1846) (by decide +kernel), List.mem_of_getElem? (i := 1914) (by decide +kernel), List.mem_of_getElem? (i := 1915) (by decide +kernel)⟩
theorem lw_p106 : lw_okq (⟨"BrowserHouseModel", "alike", "(II)Z"⟩, 186) := ⟨⟨by decide +kernel, by decide +kernel⟩, List.mem_of_getElem? (i := 1846) (by decide +kernel), List.mem_of_getElem? (i := 1926) (by decide +kernel), List.mem_of_getElem? (i := 1927) (by decide +kernel)⟩
theorem lw_p107 : lw_okq (⟨"BrowserHouseModel", "there", "(I)Z"⟩, 186) := ⟨⟨by decide +kernel, by decide +kernel⟩, List.mem_of_getElem? (i := 1846) (by decide +kernel), List.mem_of_getElem? (i := 1937) (by decide +kernel), List.mem_of_getElem? (i := 1938) (by decide +kernel)⟩
theorem lw_p108 : lw_okq (⟨"BrowserHouseModel", "sayEscaped", "([BIIZ)V"⟩, 186) := ⟨⟨by decide +kernel, by decide +kernel⟩, List.mem_of_getElem? (i := 1846) (by decide +kernel), List.mem_of_getElem? (i := 1941) (by decide +kernel), List.mem_of_getElem? (i := 1942) (by decide +kernel)⟩
theorem lw_p109 : lw_okq (⟨"BrowserHouseModel", "say", "(I)V"⟩, 186) := ⟨⟨by decide +kernel, by decide +kernel⟩, List.mem_of_getElem? (i := 1846) (by decide +kernel), List.mem_of_getElem? (i := 1945) (by decide +kernel), List.mem_of_getElem? (i := 1946) (by decide +kernel)⟩
theorem lw_p110 : lw_okq (⟨"BrowserHouseModel", "sayBegin", "(I)V"⟩, 186) := ⟨⟨by decide +kernel, by decide +kernel⟩, List.mem_of_getElem? (i := 1846) (by decide +kernel), List.mem_of_getElem? (i := 1949) (by decide +kernel), List.mem_of_getElem? (i := 1950) (by decide +kernel)⟩
theorem lw_p111 : lw_okq (⟨"BrowserHouseModel", "sayAll", "([BII)V"⟩, 186) := ⟨⟨by decide +kernel, by decide +kernel⟩, List.mem_of_getElem? (i := 1846) (by decide +kernel), List.mem_of_getElem? (i := 1953) (by decide +kernel), List.mem_of_getElem? (i := 1954) (by decide +kernel)⟩
def lw_privs_7 : List (MethodName × Nat) := [(⟨"BrowserHouseModel", "put", "(II)V"⟩, 186), (⟨"BrowserHouseModel", "segments", "([BI)Z"⟩, 186), (⟨"BrowserHouseModel", "oneSegment", "([BI)Z"⟩, 186), (⟨"BrowserHouseModel", "segment", "([BII)V"⟩, 186), (⟨"BrowserHouseModel", "siteEnd", "(I)I"⟩, 186), (⟨"BrowserHouseModel", "baseSegments", "(IZ)V"⟩, 186), (⟨"BrowserHouseModel", "queryAt", "(I)I"⟩, 186), (⟨"BrowserHouseModel", "query", "([BIIZ)Z"⟩, 186), (⟨"BrowserHouseModel", "copyRow", "(II)V"⟩, 186), (⟨"BrowserHouseModel", "field", "(II)Z"⟩, 186), (⟨"BrowserHouseModel", "alike", "(II)Z"⟩, 186), (⟨"BrowserHouseModel", "there", "(I)Z"⟩, 186), (⟨"BrowserHouseModel", "sayEscaped", "([BIIZ)V"⟩, 186), (⟨"BrowserHouseModel", "say", "(I)V"⟩, 186), (⟨"BrowserHouseModel", "sayBegin", "(I)V"⟩, 186), (⟨"BrowserHouseModel", "sayAll", "([BII)V"⟩, 186)]
theorem lw_r7 : ∀ q ∈ lw_privs_7, lw_okq q := List.forall_mem_cons.mpr ⟨lw_p96, List.forall_mem_cons.mpr ⟨lw_p97, List.forall_mem_cons.mpr ⟨lw_p98, List.forall_mem_cons.mpr ⟨lw_p99, List.forall_mem_cons.mpr ⟨lw_p100, List.forall_mem_cons.mpr ⟨lw_p101, List.forall_mem_cons.mpr ⟨lw_p102, List.forall_mem_cons.mpr ⟨lw_p103, List.forall_mem_cons.mpr ⟨lw_p104, List.forall_mem_cons.mpr ⟨lw_p105, List.forall_mem_cons.mpr ⟨lw_p106, List.forall_mem_cons.mpr ⟨lw_p107, List.forall_mem_cons.mpr ⟨lw_p108, List.forall_mem_cons.mpr ⟨lw_p109, List.forall_mem_cons.mpr ⟨lw_p110, List.forall_mem_cons.mpr ⟨lw_p111, fun _ h => absurd h List.not_mem_nil⟩⟩⟩⟩⟩⟩⟩⟩⟩⟩⟩⟩⟩⟩⟩⟩
theorem lw_p112 : lw_okq (⟨"BrowserHouseModel", "sayEnd", "(I)V"⟩, 186) := ⟨⟨by decide +kernel, by decide +kernel⟩, List.mem_of_getElem? (i := 1846) (by decide +kernel), List.mem_of_getElem? (i := 1957) (by decide +kernel), List.mem_of_getElem? (i := 1958) (by decide +kernel)⟩
theorem lw_p113 : lw_okq (⟨"BrowserHouseModel", "emptyTree", "()V"⟩, 186) := ⟨⟨by decide +kernel, by decide +kernel⟩, List.mem_of_getElem? (i := 1846) (by decide +kernel), List.mem_of_getElem? (i := 1982) (by decide +kernel), List.mem_of_getElem? (i := 1983) (by decide +kernel)⟩
theorem lw_p114 : lw_okq (⟨"BrowserHouseModel", "fresh", "(I)I"⟩, 186) := ⟨⟨by decide +kernel, by decide +kernel⟩, List.mem_of_getElem? (i := 1846) (by decide +kernel), List.mem_of_getElem? (i := 1986) (by decide +kernel), List.mem_of_getElem? (i := 1987) (by decide +kernel)⟩
theorem lw_p115 : lw_okq (⟨"BrowserHouseModel", "putFour", "(I)V"⟩, 186) := ⟨⟨by decide +kernel, by decide +kernel⟩, List.mem_of_getElem? (i := 1846) (by decide +kernel), List.mem_of_getElem? (i := 2551) (by decide +kernel), List.mem_of_getElem? (i := 2552) (by decide +kernel)⟩
theorem lw_p116 : lw_okq (⟨"BrowserHouseModel", "resolve0", "()Z"⟩, 186) := ⟨⟨by decide +kernel, by decide +kernel⟩, List.mem_of_getElem? (i := 1846) (by decide +kernel), List.mem_of_getElem? (i := 2567) (by decide +kernel), List.mem_of_getElem? (i := 2568) (by decide +kernel)⟩
theorem lw_p117 : lw_okq (⟨"BrowserHouseModel", "sayRow", "(I)V"⟩, 186) := ⟨⟨by decide +kernel, by decide +kernel⟩, List.mem_of_getElem? (i := 1846) (by decide +kernel), List.mem_of_getElem? (i := 2571) (by decide +kernel), List.mem_of_getElem? (i := 2572) (by decide +kernel)⟩
theorem lw_p118 : lw_okq (⟨"BrowserHouseModel", "begin", "()V"⟩, 186) := ⟨⟨by decide +kernel, by decide +kernel⟩, List.mem_of_getElem? (i := 1846) (by decide +kernel), List.mem_of_getElem? (i := 2579) (by decide +kernel), List.mem_of_getElem? (i := 2580) (by decide +kernel)⟩
theorem lw_p119 : lw_okq (⟨"BrowserHouseModel", "visitResult", "()V"⟩, 186) := ⟨⟨by decide +kernel, by decide +kernel⟩, List.mem_of_getElem? (i := 1846) (by decide +kernel), List.mem_of_getElem? (i := 2583) (by decide +kernel), List.mem_of_getElem? (i := 2584) (by decide +kernel)⟩
theorem lw_p120 : lw_okq (⟨"BrowserHouseModel", "remember", "()V"⟩, 186) := ⟨⟨by decide +kernel, by decide +kernel⟩, List.mem_of_getElem? (i := 1846) (by decide +kernel), List.mem_of_getElem? (i := 2587) (by decide +kernel), List.mem_of_getElem? (i := 2588) (by decide +kernel)⟩
theorem lw_p121 : lw_okq (⟨"BrowserHouseModel", "goTo", "()V"⟩, 186) := ⟨⟨by decide +kernel, by decide +kernel⟩, List.mem_of_getElem? (i := 1846) (by decide +kernel), List.mem_of_getElem? (i := 2591) (by decide +kernel), List.mem_of_getElem? (i := 2592) (by decide +kernel)⟩
theorem lw_p122 : lw_okq (⟨"BrowserHouseModel", "fetch", "()V"⟩, 186) := ⟨⟨by decide +kernel, by decide +kernel⟩, List.mem_of_getElem? (i := 1846) (by decide +kernel), List.mem_of_getElem? (i := 2595) (by decide +kernel), List.mem_of_getElem? (i := 2596) (by decide +kernel)⟩
theorem lw_p123 : lw_okq (⟨"BrowserHouseModel", "request", "()V"⟩, 186) := ⟨⟨by decide +kernel, by decide +kernel⟩, List.mem_of_getElem? (i := 1846) (by decide +kernel), List.mem_of_getElem? (i := 2599) (by decide +kernel), List.mem_of_getElem? (i := 2600) (by decide +kernel)⟩
theorem lw_p124 : lw_okq (⟨"BrowserHouseModel", "tellCookies", "()V"⟩, 186) := ⟨⟨by decide +kernel, by decide +kernel⟩, List.mem_of_getElem? (i := 1846) (by decide +kernel), List.mem_of_getElem? (i := 2603) (by decide +kernel), List.mem_of_getElem? (i := 2604) (by decide +kernel)⟩
theorem lw_p125 : lw_okq (⟨"BrowserHouseModel", "send", "(I)V"⟩, 186) := ⟨⟨by decide +kernel, by decide +kernel⟩, List.mem_of_getElem? (i := 1846) (by decide +kernel), List.mem_of_getElem? (i := 2607) (by decide +kernel), List.mem_of_getElem? (i := 2608) (by decide +kernel)⟩
theorem lw_p126 : lw_okq (⟨"BrowserHouseModel", "dropCookie", "(I)V"⟩, 186) := ⟨⟨by decide +kernel, by decide +kernel⟩, List.mem_of_getElem? (i := 1846) (by decide +kernel), List.mem_of_getElem? (i := 2611) (by decide +kernel), List.mem_of_getElem? (i := 2612) (by decide +kernel)⟩
theorem lw_p127 : lw_okq (⟨"BrowserHouseModel", "keep", "(I)V"⟩, 186) := ⟨⟨by decide +kernel, by decide +kernel⟩, List.mem_of_getElem? (i := 1846) (by decide +kernel), List.mem_of_getElem? (i := 2615) (by decide +kernel), List.mem_of_getElem? (i := 2616) (by decide +kernel)⟩
def lw_privs_8 : List (MethodName × Nat) := [(⟨"BrowserHouseModel", "sayEnd", "(I)V"⟩, 186), (⟨"BrowserHouseModel", "emptyTree", "()V"⟩, 186), (⟨"BrowserHouseModel", "fresh", "(I)I"⟩, 186), (⟨"BrowserHouseModel", "putFour", "(I)V"⟩, 186), (⟨"BrowserHouseModel", "resolve0", "()Z"⟩, 186), (⟨"BrowserHouseModel", "sayRow", "(I)V"⟩, 186), (⟨"BrowserHouseModel", "begin", "()V"⟩, 186), (⟨"BrowserHouseModel", "visitResult", "()V"⟩, 186), (⟨"BrowserHouseModel", "remember", "()V"⟩, 186), (⟨"BrowserHouseModel", "goTo", "()V"⟩, 186), (⟨"BrowserHouseModel", "fetch", "()V"⟩, 186), (⟨"BrowserHouseModel", "request", "()V"⟩, 186), (⟨"BrowserHouseModel", "tellCookies", "()V"⟩, 186), (⟨"BrowserHouseModel", "send", "(I)V"⟩, 186), (⟨"BrowserHouseModel", "dropCookie", "(I)V"⟩, 186), (⟨"BrowserHouseModel", "keep", "(I)V"⟩, 186)]
theorem lw_r8 : ∀ q ∈ lw_privs_8, lw_okq q := List.forall_mem_cons.mpr ⟨lw_p112, List.forall_mem_cons.mpr ⟨lw_p113, List.forall_mem_cons.mpr ⟨lw_p114, List.forall_mem_cons.mpr ⟨lw_p115, List.forall_mem_cons.mpr ⟨lw_p116, List.forall_mem_cons.mpr ⟨lw_p117, List.forall_mem_cons.mpr ⟨lw_p118, List.forall_mem_cons.mpr ⟨lw_p119, List.forall_mem_cons.mpr ⟨lw_p120, List.forall_mem_cons.mpr ⟨lw_p121, List.forall_mem_cons.mpr ⟨lw_p122, List.forall_mem_cons.mpr ⟨lw_p123, List.forall_mem_cons.mpr ⟨lw_p124, List.forall_mem_cons.mpr ⟨lw_p125, List.forall_mem_cons.mpr ⟨lw_p126, List.forall_mem_cons.mpr ⟨lw_p127, fun _ h => absurd h List.not_mem_nil⟩⟩⟩⟩⟩⟩⟩⟩⟩⟩⟩⟩⟩⟩⟩⟩
theorem lw_p128 : lw_okq (⟨"BrowserHouseModel", "newPage", "()V"⟩, 186) := ⟨⟨by decide +kernel, by decide +kernel⟩, List.mem_of_getElem? (i := 1846) (by decide +kernel), List.mem_of_getElem? (i := 2619) (by decide +kernel), List.mem_of_getElem? (i := 2620) (by decide +kernel)⟩
theorem lw_p129 : lw_okq (⟨"BrowserHouseModel", "readPage", "()V"⟩, 186) := ⟨⟨by decide +kernel, by decide +kernel⟩, List.mem_of_getElem? (i := 1846) (by decide +kernel), List.mem_of_getElem? (i := 2623) (by decide +kernel), List.mem_of_getElem? (i := 2624) (by decide +kernel)⟩
theorem lw_p130 : lw_okq (⟨"BrowserHouseModel", "endsStyle", "(I)Z"⟩, 186) := ⟨⟨by decide +kernel, by decide +kernel⟩, List.mem_of_getElem? (i := 1846) (by decide +kernel), List.mem_of_getElem? (i := 2627) (by decide +kernel), List.mem_of_getElem? (i := 2628) (by decide +kernel)⟩
theorem lw_p131 : lw_okq (⟨"BrowserHouseModel", "isAt", "(IIII)Z"⟩, 186) := ⟨⟨by decide +kernel, by decide +kernel⟩, List.mem_of_getElem? (i := 1846) (by decide +kernel), List.mem_of_getElem? (i := 2631) (by decide +kernel), List.mem_of_getElem? (i := 2632) (by decide +kernel)⟩
theorem lw_p132 : lw_okq (⟨"BrowserHouseModel", "run", "(IZ)I"⟩, 186) := ⟨⟨by decide +kernel, by decide +kernel⟩, List.mem_of_getElem? (i := 1846) (by decide +kernel), List.mem_of_getElem? (i := 2653) (by decide +kernel), List.mem_of_getElem? (i := 2654) (by decide +kernel)⟩
theorem lw_p133 : lw_okq (⟨"BrowserHouseModel", "isNote", "(I)Z"⟩, 186) := ⟨⟨by decide +kernel, by decide +kernel⟩, List.mem_of_getElem? (i := 1846) (by decide +kernel), List.mem_of_getElem? (i := 2657) (by decide +kernel), List.mem_of_getElem? (i := 2658) (by decide +kernel)⟩
theorem lw_p134 : lw_okq (⟨"BrowserHouseModel", "isTag", "(I)Z"⟩, 186) := ⟨⟨by decide +kernel, by decide +kernel⟩, List.mem_of_getElem? (i := 1846) (by decide +kernel), List.mem_of_getElem? (i := 2661) (by decide +kernel), List.mem_of_getElem? (i := 2662) (by decide +kernel)⟩
theorem lw_p135 : lw_okq (⟨"BrowserHouseModel", "tellFault", "(II)V"⟩, 186) := ⟨⟨by decide +kernel, by decide +kernel⟩, List.mem_of_getElem? (i := 1846) (by decide +kernel), List.mem_of_getElem? (i := 2668) (by decide +kernel), List.mem_of_getElem? (i := 2669) (by decide +kernel)⟩
theorem lw_p136 : lw_okq (⟨"BrowserHouseModel", "entity", "([BII)I"⟩, 186) := ⟨⟨by decide +kernel, by decide +kernel⟩, List.mem_of_getElem? (i := 1846) (by decide +kernel), List.mem_of_getElem? (i := 2672) (by decide +kernel), List.mem_of_getElem? (i := 2673) (by decide +kernel)⟩
theorem lw_p137 : lw_okq (⟨"BrowserHouseModel", "note", "(I)I"⟩, 186) := ⟨⟨by decide +kernel, by decide +kernel⟩, List.mem_of_getElem? (i := 1846) (by decide +kernel), List.mem_of_getElem? (i := 2676) (by decide +kernel), List.mem_of_getElem? (i := 2677) (by decide +kernel)⟩
theorem lw_p138 : lw_okq (⟨"BrowserHouseModel", "readTag", "(I)I"⟩, 186) := ⟨⟨by decide +kernel, by decide +kernel⟩, List.mem_of_getElem? (i := 1846) (by decide +kernel), List.mem_of_getElem? (i := 2680) (by decide +kernel), List.mem_of_getElem? (i := 2681) (by decide +kernel)⟩
theorem lw_p139 : lw_okq (⟨"BrowserHouseModel", "readAttribute", "(I)I"⟩, 186) := ⟨⟨by decide +kernel, by decide +kernel⟩, List.mem_of_getElem? (i := 1846) (by decide +kernel), List.mem_of_getElem? (i := 2687) (by decide +kernel), List.mem_of_getElem? (i := 2688) (by decide +kernel)⟩
theorem lw_p140 : lw_okq (⟨"BrowserHouseModel", "endTag", "(II)V"⟩, 186) := ⟨⟨by decide +kernel, by decide +kernel⟩, List.mem_of_getElem? (i := 1846) (by decide +kernel), List.mem_of_getElem? (i := 2697) (by decide +kernel), List.mem_of_getElem? (i := 2698) (by decide +kernel)⟩
theorem lw_p141 : lw_okq (⟨"BrowserHouseModel", "closeTo", "(III)V"⟩, 186) := ⟨⟨by decide +kernel, by decide +kernel⟩, List.mem_of_getElem? (i := 1846) (by decide +kernel), List.mem_of_getElem? (i := 2701) (by decide +kernel), List.mem_of_getElem? (i := 2702) (by decide +kernel)⟩
theorem lw_p142 : lw_okq (⟨"BrowserHouseModel", "startTag", "(II)V"⟩, 186) := ⟨⟨by decide +kernel, by decide +kernel⟩, List.mem_of_getElem? (i := 1846) (by decide +kernel), List.mem_of_getElem? (i := 2705) (by decide +kernel), List.mem_of_getElem? (i := 2706) (by decide +kernel)⟩
theorem lw_p143 : lw_okq (⟨"BrowserHouseModel", "element", "(II)V"⟩, 186) := ⟨⟨by decide +kernel, by decide +kernel⟩, List.mem_of_getElem? (i := 1846) (by decide +kernel), List.mem_of_getElem? (i := 2712) (by decide +kernel), List.mem_of_getElem? (i := 2713) (by decide +kernel)⟩
def lw_privs_9 : List (MethodName × Nat) := [(⟨"BrowserHouseModel", "newPage", "()V"⟩, 186), (⟨"BrowserHouseModel", "readPage", "()V"⟩, 186), (⟨"BrowserHouseModel", "endsStyle", "(I)Z"⟩, 186), (⟨"BrowserHouseModel", "isAt", "(IIII)Z"⟩, 186), (⟨"BrowserHouseModel", "run", "(IZ)I"⟩, 186), (⟨"BrowserHouseModel", "isNote", "(I)Z"⟩, 186), (⟨"BrowserHouseModel", "isTag", "(I)Z"⟩, 186), (⟨"BrowserHouseModel", "tellFault", "(II)V"⟩, 186), (⟨"BrowserHouseModel", "entity", "([BII)I"⟩, 186), (⟨"BrowserHouseModel", "note", "(I)I"⟩, 186), (⟨"BrowserHouseModel", "readTag", "(I)I"⟩, 186), (⟨"BrowserHouseModel", "readAttribute", "(I)I"⟩, 186), (⟨"BrowserHouseModel", "endTag", "(II)V"⟩, 186), (⟨"BrowserHouseModel", "closeTo", "(III)V"⟩, 186), (⟨"BrowserHouseModel", "startTag", "(II)V"⟩, 186), (⟨"BrowserHouseModel", "element", "(II)V"⟩, 186)]
theorem lw_r9 : ∀ q ∈ lw_privs_9, lw_okq q := List.forall_mem_cons.mpr ⟨lw_p128, List.forall_mem_cons.mpr ⟨lw_p129, List.forall_mem_cons.mpr ⟨lw_p130, List.forall_mem_cons.mpr ⟨lw_p131, List.forall_mem_cons.mpr ⟨lw_p132, List.forall_mem_cons.mpr ⟨lw_p133, List.forall_mem_cons.mpr ⟨lw_p134, List.forall_mem_cons.mpr ⟨lw_p135, List.forall_mem_cons.mpr ⟨lw_p136, List.forall_mem_cons.mpr ⟨lw_p137, List.forall_mem_cons.mpr ⟨lw_p138, List.forall_mem_cons.mpr ⟨lw_p139, List.forall_mem_cons.mpr ⟨lw_p140, List.forall_mem_cons.mpr ⟨lw_p141, List.forall_mem_cons.mpr ⟨lw_p142, List.forall_mem_cons.mpr ⟨lw_p143, fun _ h => absurd h List.not_mem_nil⟩⟩⟩⟩⟩⟩⟩⟩⟩⟩⟩⟩⟩⟩⟩⟩
theorem lw_p144 : lw_okq (⟨"BrowserHouseModel", "settleInput", "(I)V"⟩, 186) := ⟨⟨by decide +kernel, by decide +kernel⟩, List.mem_of_getElem? (i := 1846) (by decide +kernel), List.mem_of_getElem? (i := 2716) (by decide +kernel), List.mem_of_getElem? (i := 2717) (by decide +kernel)⟩
theorem lw_p145 : lw_okq (⟨"BrowserHouseModel", "attributeOf", "(IJ)I"⟩, 186) := ⟨⟨by decide +kernel, by decide +kernel⟩, List.mem_of_getElem? (i := 1846) (by decide +kernel), List.mem_of_getElem? (i := 2721) (by decide +kernel), List.mem_of_getElem? (i := 2722) (by decide +kernel)⟩
theorem lw_p146 : lw_okq (⟨"BrowserHouseModel", "isCheck", "(I)Z"⟩, 186) := ⟨⟨by decide +kernel, by decide +kernel⟩, List.mem_of_getElem? (i := 1846) (by decide +kernel), List.mem_of_getElem? (i := 2726) (by decide +kernel), List.mem_of_getElem? (i := 2727) (by decide +kernel)⟩
theorem lw_p147 : lw_okq (⟨"BrowserHouseModel", "changed", "()V"⟩, 186) := ⟨⟨by decide +kernel, by decide +kernel⟩, List.mem_of_getElem? (i := 1846) (by decide +kernel), List.mem_of_getElem? (i := 2733) (by decide +kernel), List.mem_of_getElem? (i := 2734) (by decide +kernel)⟩
theorem lw_p148 : lw_okq (⟨"BrowserHouseModel", "settle", "()V"⟩, 186) := ⟨⟨by decide +kernel, by decide +kernel⟩, List.mem_of_getElem? (i := 1846) (by decide +kernel), List.mem_of_getElem? (i := 2737) (by decide +kernel), List.mem_of_getElem? (i := 2738) (by decide +kernel)⟩
theorem lw_p149 : lw_okq (⟨"BrowserHouseModel", "onWay", "(I)V"⟩, 186) := ⟨⟨by decide +kernel, by decide +kernel⟩, List.mem_of_getElem? (i := 1846) (by decide +kernel), List.mem_of_getElem? (i := 2742) (by decide +kernel), List.mem_of_getElem? (i := 2743) (by decide +kernel)⟩
theorem lw_p150 : lw_okq (⟨"BrowserHouseModel", "after", "(II)I"⟩, 186) := ⟨⟨by decide +kernel, by decide +kernel⟩, List.mem_of_getElem? (i := 1846) (by decide +kernel), List.mem_of_getElem? (i := 2746) (by decide +kernel), List.mem_of_getElem? (i := 2747) (by decide +kernel)⟩
theorem lw_p151 : lw_okq (⟨"BrowserHouseModel", "behind", "(II)I"⟩, 186) := ⟨⟨by decide +kernel, by decide +kernel⟩, List.mem_of_getElem? (i := 1846) (by decide +kernel), List.mem_of_getElem? (i := 2750) (by decide +kernel), List.mem_of_getElem? (i := 2751) (by decide +kernel)⟩
theorem lw_p152 : lw_okq (⟨"BrowserHouseModel", "isThere", "(I)Z"⟩, 186) := ⟨⟨by decide +kernel, by decide +kernel⟩, List.mem_of_getElem? (i := 1846) (by decide +kernel), List.mem_of_getElem? (i := 2754) (by decide +kernel), List.mem_of_getElem? (i := 2755) (by decide +kernel)⟩
theorem lw_p153 : lw_okq (⟨"BrowserHouseModel", "listen", "(IJ)V"⟩, 186) := ⟨⟨by decide +kernel, by decide +kernel⟩, List.mem_of_getElem? (i := 1846) (by decide +kernel), List.mem_of_getElem? (i := 2758) (by decide +kernel), List.mem_of_getElem? (i := 2759) (by decide +kernel)⟩
theorem lw_p154 : lw_okq (⟨"BrowserHouseModel", "runScript", "()V"⟩, 186) := ⟨⟨by decide +kernel, by decide +kernel⟩, List.mem_of_getElem? (i := 1846) (by decide +kernel), List.mem_of_getElem? (i := 2762) (by decide +kernel), List.mem_of_getElem? (i := 2763) (by decide +kernel)⟩
theorem lw_p155 : lw_okq (⟨"BrowserHouseModel", "oneStep", "(II)V"⟩, 186) := ⟨⟨by decide +kernel, by decide +kernel⟩, List.mem_of_getElem? (i := 1846) (by decide +kernel), List.mem_of_getElem? (i := 2766) (by decide +kernel), List.mem_of_getElem? (i := 2767) (by decide +kernel)⟩
theorem lw_p156 : lw_okq (⟨"BrowserHouseModel", "step", "(II)Z"⟩, 186) := ⟨⟨by decide +kernel, by decide +kernel⟩, List.mem_of_getElem? (i := 1846) (by decide +kernel), List.mem_of_getElem? (i := 2770) (by decide +kernel), List.mem_of_getElem? (i := 2771) (by decide +kernel)⟩
theorem lw_p157 : lw_okq (⟨"BrowserHouseModel", "waitStep", "(II)Z"⟩, 186) := ⟨⟨by decide +kernel, by decide +kernel⟩, List.mem_of_getElem? (i := 1846) (by decide +kernel), List.mem_of_getElem? (i := 2788) (by decide +kernel), List.mem_of_getElem? (i := 2789) (by decide +kernel)⟩
theorem lw_p158 : lw_okq (⟨"BrowserHouseModel", "putStep", "(III)Z"⟩, 186) := ⟨⟨by decide +kernel, by decide +kernel⟩, List.mem_of_getElem? (i := 1846) (by decide +kernel), List.mem_of_getElem? (i := 2792) (by decide +kernel), List.mem_of_getElem? (i := 2793) (by decide +kernel)⟩
theorem lw_p159 : lw_okq (⟨"BrowserHouseModel", "stored", "(II)I"⟩, 186) := ⟨⟨by decide +kernel, by decide +kernel⟩, List.mem_of_getElem? (i := 1846) (by decide +kernel), List.mem_of_getElem? (i := 2796) (by decide +kernel), List.mem_of_getElem? (i := 2797) (by decide +kernel)⟩
def lw_privs_10 : List (MethodName × Nat) := [(⟨"BrowserHouseModel", "settleInput", "(I)V"⟩, 186), (⟨"BrowserHouseModel", "attributeOf", "(IJ)I"⟩, 186), (⟨"BrowserHouseModel", "isCheck", "(I)Z"⟩, 186), (⟨"BrowserHouseModel", "changed", "()V"⟩, 186), (⟨"BrowserHouseModel", "settle", "()V"⟩, 186), (⟨"BrowserHouseModel", "onWay", "(I)V"⟩, 186), (⟨"BrowserHouseModel", "after", "(II)I"⟩, 186), (⟨"BrowserHouseModel", "behind", "(II)I"⟩, 186), (⟨"BrowserHouseModel", "isThere", "(I)Z"⟩, 186), (⟨"BrowserHouseModel", "listen", "(IJ)V"⟩, 186), (⟨"BrowserHouseModel", "runScript", "()V"⟩, 186), (⟨"BrowserHouseModel", "oneStep", "(II)V"⟩, 186), (⟨"BrowserHouseModel", "step", "(II)Z"⟩, 186), (⟨"BrowserHouseModel", "waitStep", "(II)Z"⟩, 186), (⟨"BrowserHouseModel", "putStep", "(III)Z"⟩, 186), (⟨"BrowserHouseModel", "stored", "(II)I"⟩, 186)]
theorem lw_r10 : ∀ q ∈ lw_privs_10, lw_okq q := List.forall_mem_cons.mpr ⟨lw_p144, List.forall_mem_cons.mpr ⟨lw_p145, List.forall_mem_cons.mpr ⟨lw_p146, List.forall_mem_cons.mpr ⟨lw_p147, List.forall_mem_cons.mpr ⟨lw_p148, List.forall_mem_cons.mpr ⟨lw_p149, List.forall_mem_cons.mpr ⟨lw_p150, List.forall_mem_cons.mpr ⟨lw_p151, List.forall_mem_cons.mpr ⟨lw_p152, List.forall_mem_cons.mpr ⟨lw_p153, List.forall_mem_cons.mpr ⟨lw_p154, List.forall_mem_cons.mpr ⟨lw_p155, List.forall_mem_cons.mpr ⟨lw_p156, List.forall_mem_cons.mpr ⟨lw_p157, List.forall_mem_cons.mpr ⟨lw_p158, List.forall_mem_cons.mpr ⟨lw_p159, fun _ h => absurd h List.not_mem_nil⟩⟩⟩⟩⟩⟩⟩⟩⟩⟩⟩⟩⟩⟩⟩⟩
theorem lw_p160 : lw_okq (⟨"BrowserHouseModel", "nodeOf", "(II)I"⟩, 186) := ⟨⟨by decide +kernel, by decide +kernel⟩, List.mem_of_getElem? (i := 1846) (by decide +kernel), List.mem_of_getElem? (i := 2800) (by decide +kernel), List.mem_of_getElem? (i := 2801) (by decide +kernel)⟩
theorem lw_p161 : lw_okq (⟨"BrowserHouseModel", "selfIsThere", "()Z"⟩, 186) := ⟨⟨by decide +kernel, by decide +kernel⟩, List.mem_of_getElem? (i := 1846) (by decide +kernel), List.mem_of_getElem? (i := 2805) (by decide +kernel), List.mem_of_getElem? (i := 2806) (by decide +kernel)⟩
theorem lw_p162 : lw_okq (⟨"BrowserHouseModel", "remove", "(I)V"⟩, 186) := ⟨⟨by decide +kernel, by decide +kernel⟩, List.mem_of_getElem? (i := 1846) (by decide +kernel), List.mem_of_getElem? (i := 2810) (by decide +kernel), List.mem_of_getElem? (i := 2811) (by decide +kernel)⟩
theorem lw_p163 : lw_okq (⟨"BrowserHouseModel", "setText", "([BII)V"⟩, 186) := ⟨⟨by decide +kernel, by decide +kernel⟩, List.mem_of_getElem? (i := 1846) (by decide +kernel), List.mem_of_getElem? (i := 2814) (by decide +kernel), List.mem_of_getElem? (i := 2815) (by decide +kernel)⟩
theorem lw_p164 : lw_okq (⟨"BrowserHouseModel", "setClass", "(II)V"⟩, 186) := ⟨⟨by decide +kernel, by decide +kernel⟩, List.mem_of_getElem? (i := 1846) (by decide +kernel), List.mem_of_getElem? (i := 2818) (by decide +kernel), List.mem_of_getElem? (i := 2819) (by decide +kernel)⟩
theorem lw_p165 : lw_okq (⟨"BrowserHouseModel", "addElement", "(II)V"⟩, 186) := ⟨⟨by decide +kernel, by decide +kernel⟩, List.mem_of_getElem? (i := 1846) (by decide +kernel), List.mem_of_getElem? (i := 2822) (by decide +kernel), List.mem_of_getElem? (i := 2823) (by decide +kernel)⟩
theorem lw_p166 : lw_okq (⟨"BrowserHouseModel", "getStep", "(II)V"⟩, 186) := ⟨⟨by decide +kernel, by decide +kernel⟩, List.mem_of_getElem? (i := 1846) (by decide +kernel), List.mem_of_getElem? (i := 2826) (by decide +kernel), List.mem_of_getElem? (i := 2827) (by decide +kernel)⟩
theorem lw_p167 : lw_okq (⟨"BrowserHouseModel", "sameSite", "(II)Z"⟩, 186) := ⟨⟨by decide +kernel, by decide +kernel⟩, List.mem_of_getElem? (i := 1846) (by decide +kernel), List.mem_of_getElem? (i := 2830) (by decide +kernel), List.mem_of_getElem? (i := 2831) (by decide +kernel)⟩
theorem lw_p168 : lw_okq (⟨"BrowserHouseModel", "readStep", "(II)V"⟩, 186) := ⟨⟨by decide +kernel, by decide +kernel⟩, List.mem_of_getElem? (i := 1846) (by decide +kernel), List.mem_of_getElem? (i := 2834) (by decide +kernel), List.mem_of_getElem? (i := 2835) (by decide +kernel)⟩
theorem lw_p169 : lw_okq (⟨"BrowserHouseModel", "doTask", "(I)V"⟩, 186) := ⟨⟨by decide +kernel, by decide +kernel⟩, List.mem_of_getElem? (i := 1846) (by decide +kernel), List.mem_of_getElem? (i := 2854) (by decide +kernel), List.mem_of_getElem? (i := 2855) (by decide +kernel)⟩
theorem lw_p170 : lw_okq (⟨"BrowserHouseModel", "readSelector", "([BIIZ)I"⟩, 186) := ⟨⟨by decide +kernel, by decide +kernel⟩, List.mem_of_getElem? (i := 1846) (by decide +kernel), List.mem_of_getElem? (i := 2870) (by decide +kernel), List.mem_of_getElem? (i := 2871) (by decide +kernel)⟩
theorem lw_p171 : lw_okq (⟨"BrowserHouseModel", "readPart", "([BIII)I"⟩, 186) := ⟨⟨by decide +kernel, by decide +kernel⟩, List.mem_of_getElem? (i := 1846) (by decide +kernel), List.mem_of_getElem? (i := 2874) (by decide +kernel), List.mem_of_getElem? (i := 2875) (by decide +kernel)⟩
theorem lw_p172 : lw_okq (⟨"BrowserHouseModel", "matches", "(II)Z"⟩, 186) := ⟨⟨by decide +kernel, by decide +kernel⟩, List.mem_of_getElem? (i := 1846) (by decide +kernel), List.mem_of_getElem? (i := 2878) (by decide +kernel), List.mem_of_getElem? (i := 2879) (by decide +kernel)⟩
theorem lw_p173 : lw_okq (⟨"BrowserHouseModel", "matchesPart", "(II)Z"⟩, 186) := ⟨⟨by decide +kernel, by decide +kernel⟩, List.mem_of_getElem? (i := 1846) (by decide +kernel), List.mem_of_getElem? (i := 2882) (by decide +kernel), List.mem_of_getElem? (i := 2883) (by decide +kernel)⟩
theorem lw_p174 : lw_okq (⟨"BrowserHouseModel", "hasClass", "(II)Z"⟩, 186) := ⟨⟨by decide +kernel, by decide +kernel⟩, List.mem_of_getElem? (i := 1846) (by decide +kernel), List.mem_of_getElem? (i := 2886) (by decide +kernel), List.mem_of_getElem? (i := 2887) (by decide +kernel)⟩
theorem lw_p175 : lw_okq (⟨"BrowserHouseModel", "lay", "()V"⟩, 186) := ⟨⟨by decide +kernel, by decide +kernel⟩, List.mem_of_getElem? (i := 1846) (by decide +kernel), List.mem_of_getElem? (i := 2898) (by decide +kernel), List.mem_of_getElem? (i := 2899) (by decide +kernel)⟩
def lw_privs_11 : List (MethodName × Nat) := [(⟨"BrowserHouseModel", "nodeOf", "(II)I"⟩, 186), (⟨"BrowserHouseModel", "selfIsThere", "()Z"⟩, 186), (⟨"BrowserHouseModel", "remove", "(I)V"⟩, 186), (⟨"BrowserHouseModel", "setText", "([BII)V"⟩, 186), (⟨"BrowserHouseModel", "setClass", "(II)V"⟩, 186), (⟨"BrowserHouseModel", "addElement", "(II)V"⟩, 186), (⟨"BrowserHouseModel", "getStep", "(II)V"⟩, 186), (⟨"BrowserHouseModel", "sameSite", "(II)Z"⟩, 186), (⟨"BrowserHouseModel", "readStep", "(II)V"⟩, 186), (⟨"BrowserHouseModel", "doTask", "(I)V"⟩, 186), (⟨"BrowserHouseModel", "readSelector", "([BIIZ)I"⟩, 186), (⟨"BrowserHouseModel", "readPart", "([BIII)I"⟩, 186), (⟨"BrowserHouseModel", "matches", "(II)Z"⟩, 186), (⟨"BrowserHouseModel", "matchesPart", "(II)Z"⟩, 186), (⟨"BrowserHouseModel", "hasClass", "(II)Z"⟩, 186), (⟨"BrowserHouseModel", "lay", "()V"⟩, 186)]
theorem lw_r11 : ∀ q ∈ lw_privs_11, lw_okq q := List.forall_mem_cons.mpr ⟨lw_p160, List.forall_mem_cons.mpr ⟨lw_p161, List.forall_mem_cons.mpr ⟨lw_p162, List.forall_mem_cons.mpr ⟨lw_p163, List.forall_mem_cons.mpr ⟨lw_p164, List.forall_mem_cons.mpr ⟨lw_p165, List.forall_mem_cons.mpr ⟨lw_p166, List.forall_mem_cons.mpr ⟨lw_p167, List.forall_mem_cons.mpr ⟨lw_p168, List.forall_mem_cons.mpr ⟨lw_p169, List.forall_mem_cons.mpr ⟨lw_p170, List.forall_mem_cons.mpr ⟨lw_p171, List.forall_mem_cons.mpr ⟨lw_p172, List.forall_mem_cons.mpr ⟨lw_p173, List.forall_mem_cons.mpr ⟨lw_p174, List.forall_mem_cons.mpr ⟨lw_p175, fun _ h => absurd h List.not_mem_nil⟩⟩⟩⟩⟩⟩⟩⟩⟩⟩⟩⟩⟩⟩⟩⟩
theorem lw_p176 : lw_okq (⟨"BrowserHouseModel", "cascade", "()V"⟩, 186) := ⟨⟨by decide +kernel, by decide +kernel⟩, List.mem_of_getElem? (i := 1846) (by decide +kernel), List.mem_of_getElem? (i := 2902) (by decide +kernel), List.mem_of_getElem? (i := 2903) (by decide +kernel)⟩
theorem lw_p177 : lw_okq (⟨"BrowserHouseModel", "readStyles", "()V"⟩, 186) := ⟨⟨by decide +kernel, by decide +kernel⟩, List.mem_of_getElem? (i := 1846) (by decide +kernel), List.mem_of_getElem? (i := 2906) (by decide +kernel), List.mem_of_getElem? (i := 2907) (by decide +kernel)⟩
theorem lw_p178 : lw_okq (⟨"BrowserHouseModel", "readSheet", "(I)V"⟩, 186) := ⟨⟨by decide +kernel, by decide +kernel⟩, List.mem_of_getElem? (i := 1846) (by decide +kernel), List.mem_of_getElem? (i := 2910) (by decide +kernel), List.mem_of_getElem? (i := 2911) (by decide +kernel)⟩
theorem lw_p179 : lw_okq (⟨"BrowserHouseModel", "blanks", "(II)I"⟩, 186) := ⟨⟨by decide +kernel, by decide +kernel⟩, List.mem_of_getElem? (i := 1846) (by decide +kernel), List.mem_of_getElem? (i := 2914) (by decide +kernel), List.mem_of_getElem? (i := 2915) (by decide +kernel)⟩
theorem lw_p180 : lw_okq (⟨"BrowserHouseModel", "readRule", "(III)V"⟩, 186) := ⟨⟨by decide +kernel, by decide +kernel⟩, List.mem_of_getElem? (i := 1846) (by decide +kernel), List.mem_of_getElem? (i := 2918) (by decide +kernel), List.mem_of_getElem? (i := 2919) (by decide +kernel)⟩
theorem lw_p181 : lw_okq (⟨"BrowserHouseModel", "readDeclarations", "(II)V"⟩, 186) := ⟨⟨by decide +kernel, by decide +kernel⟩, List.mem_of_getElem? (i := 1846) (by decide +kernel), List.mem_of_getElem? (i := 2922) (by decide +kernel), List.mem_of_getElem? (i := 2923) (by decide +kernel)⟩
theorem lw_p182 : lw_okq (⟨"BrowserHouseModel", "readDeclaration", "(II)V"⟩, 186) := ⟨⟨by decide +kernel, by decide +kernel⟩, List.mem_of_getElem? (i := 1846) (by decide +kernel), List.mem_of_getElem? (i := 2926) (by decide +kernel), List.mem_of_getElem? (i := 2927) (by decide +kernel)⟩
theorem lw_p183 : lw_okq (⟨"BrowserHouseModel", "readValue", "(III)I"⟩, 186) := ⟨⟨by decide +kernel, by decide +kernel⟩, List.mem_of_getElem? (i := 1846) (by decide +kernel), List.mem_of_getElem? (i := 2944) (by decide +kernel), List.mem_of_getElem? (i := 2945) (by decide +kernel)⟩
theorem lw_p184 : lw_okq (⟨"BrowserHouseModel", "first", "(II)I"⟩, 186) := ⟨⟨by decide +kernel, by decide +kernel⟩, List.mem_of_getElem? (i := 1846) (by decide +kernel), List.mem_of_getElem? (i := 2958) (by decide +kernel), List.mem_of_getElem? (i := 2959) (by decide +kernel)⟩
theorem lw_p185 : lw_okq (⟨"BrowserHouseModel", "of", "(II)I"⟩, 186) := ⟨⟨by decide +kernel, by decide +kernel⟩, List.mem_of_getElem? (i := 1846) (by decide +kernel), List.mem_of_getElem? (i := 2962) (by decide +kernel), List.mem_of_getElem? (i := 2963) (by decide +kernel)⟩
theorem lw_p186 : lw_okq (⟨"BrowserHouseModel", "isPieceTag", "(I)Z"⟩, 186) := ⟨⟨by decide +kernel, by decide +kernel⟩, List.mem_of_getElem? (i := 1846) (by decide +kernel), List.mem_of_getElem? (i := 2966) (by decide +kernel), List.mem_of_getElem? (i := 2967) (by decide +kernel)⟩
theorem lw_p187 : lw_okq (⟨"BrowserHouseModel", "isBox", "(I)Z"⟩, 186) := ⟨⟨by decide +kernel, by decide +kernel⟩, List.mem_of_getElem? (i := 1846) (by decide +kernel), List.mem_of_getElem? (i := 2970) (by decide +kernel), List.mem_of_getElem? (i := 2971) (by decide +kernel)⟩
theorem lw_p188 : lw_okq (⟨"BrowserHouseModel", "modeOf", "(I)I"⟩, 186) := ⟨⟨by decide +kernel, by decide +kernel⟩, List.mem_of_getElem? (i := 1846) (by decide +kernel), List.mem_of_getElem? (i := 2974) (by decide +kernel), List.mem_of_getElem? (i := 2975) (by decide +kernel)⟩
theorem lw_p189 : lw_okq (⟨"BrowserHouseModel", "widen", "(I)V"⟩, 186) := ⟨⟨by decide +kernel, by decide +kernel⟩, List.mem_of_getElem? (i := 1846) (by decide +kernel), List.mem_of_getElem? (i := 2978) (by decide +kernel), List.mem_of_getElem? (i := 2979) (by decide +kernel)⟩
theorem lw_p190 : lw_okq (⟨"BrowserHouseModel", "inner", "(I)I"⟩, 186) := ⟨⟨by decide +kernel, by decide +kernel⟩, List.mem_of_getElem? (i := 1846) (by decide +kernel), List.mem_of_getElem? (i := 2982) (by decide +kernel), List.mem_of_getElem? (i := 2983) (by decide +kernel)⟩
theorem lw_p191 : lw_okq (⟨"BrowserHouseModel", "edges", "(I)I"⟩, 186) := ⟨⟨by decide +kernel, by decide +kernel⟩, List.mem_of_getElem? (i := 1846) (by decide +kernel), List.mem_of_getElem? (i := 2986) (by decide +kernel), List.mem_of_getElem? (i := 2987) (by decide +kernel)⟩
def lw_privs_12 : List (MethodName × Nat) := [(⟨"BrowserHouseModel", "cascade", "()V"⟩, 186), (⟨"BrowserHouseModel", "readStyles", "()V"⟩, 186), (⟨"BrowserHouseModel", "readSheet", "(I)V"⟩, 186), (⟨"BrowserHouseModel", "blanks", "(II)I"⟩, 186), (⟨"BrowserHouseModel", "readRule", "(III)V"⟩, 186), (⟨"BrowserHouseModel", "readDeclarations", "(II)V"⟩, 186), (⟨"BrowserHouseModel", "readDeclaration", "(II)V"⟩, 186), (⟨"BrowserHouseModel", "readValue", "(III)I"⟩, 186), (⟨"BrowserHouseModel", "first", "(II)I"⟩, 186), (⟨"BrowserHouseModel", "of", "(II)I"⟩, 186), (⟨"BrowserHouseModel", "isPieceTag", "(I)Z"⟩, 186), (⟨"BrowserHouseModel", "isBox", "(I)Z"⟩, 186), (⟨"BrowserHouseModel", "modeOf", "(I)I"⟩, 186), (⟨"BrowserHouseModel", "widen", "(I)V"⟩, 186), (⟨"BrowserHouseModel", "inner", "(I)I"⟩, 186), (⟨"BrowserHouseModel", "edges", "(I)I"⟩, 186)]
theorem lw_r12 : ∀ q ∈ lw_privs_12, lw_okq q := List.forall_mem_cons.mpr ⟨lw_p176, List.forall_mem_cons.mpr ⟨lw_p177, List.forall_mem_cons.mpr ⟨lw_p178, List.forall_mem_cons.mpr ⟨lw_p179, List.forall_mem_cons.mpr ⟨lw_p180, List.forall_mem_cons.mpr ⟨lw_p181, List.forall_mem_cons.mpr ⟨lw_p182, List.forall_mem_cons.mpr ⟨lw_p183, List.forall_mem_cons.mpr ⟨lw_p184, List.forall_mem_cons.mpr ⟨lw_p185, List.forall_mem_cons.mpr ⟨lw_p186, List.forall_mem_cons.mpr ⟨lw_p187, List.forall_mem_cons.mpr ⟨lw_p188, List.forall_mem_cons.mpr ⟨lw_p189, List.forall_mem_cons.mpr ⟨lw_p190, List.forall_mem_cons.mpr ⟨lw_p191, fun _ h => absurd h List.not_mem_nil⟩⟩⟩⟩⟩⟩⟩⟩⟩⟩⟩⟩⟩⟩⟩⟩
theorem lw_p192 : lw_okq (⟨"BrowserHouseModel", "told", "(II)I"⟩, 186) := ⟨⟨by decide +kernel, by decide +kernel⟩, List.mem_of_getElem? (i := 1846) (by decide +kernel), List.mem_of_getElem? (i := 2991) (by decide +kernel), List.mem_of_getElem? (i := 2992) (by decide +kernel)⟩
theorem lw_p193 : lw_okq (⟨"BrowserHouseModel", "oneLine", "(I)I"⟩, 186) := ⟨⟨by decide +kernel, by decide +kernel⟩, List.mem_of_getElem? (i := 1846) (by decide +kernel), List.mem_of_getElem? (i := 2995) (by decide +kernel), List.mem_of_getElem? (i := 2996) (by decide +kernel)⟩
theorem lw_p194 : lw_okq (⟨"BrowserHouseModel", "measure", "(I)V"⟩, 186) := ⟨⟨by decide +kernel, by decide +kernel⟩, List.mem_of_getElem? (i := 1846) (by decide +kernel), List.mem_of_getElem? (i := 3002) (by decide +kernel), List.mem_of_getElem? (i := 3003) (by decide +kernel)⟩
theorem lw_p195 : lw_okq (⟨"BrowserHouseModel", "split", "(I)V"⟩, 186) := ⟨⟨by decide +kernel, by decide +kernel⟩, List.mem_of_getElem? (i := 1846) (by decide +kernel), List.mem_of_getElem? (i := 3006) (by decide +kernel), List.mem_of_getElem? (i := 3007) (by decide +kernel)⟩
theorem lw_p196 : lw_okq (⟨"BrowserHouseModel", "layBlock", "(I)V"⟩, 186) := ⟨⟨by decide +kernel, by decide +kernel⟩, List.mem_of_getElem? (i := 1846) (by decide +kernel), List.mem_of_getElem? (i := 3010) (by decide +kernel), List.mem_of_getElem? (i := 3011) (by decide +kernel)⟩
theorem lw_p197 : lw_okq (⟨"BrowserHouseModel", "joins", "(I)Z"⟩, 186) := ⟨⟨by decide +kernel, by decide +kernel⟩, List.mem_of_getElem? (i := 1846) (by decide +kernel), List.mem_of_getElem? (i := 3014) (by decide +kernel), List.mem_of_getElem? (i := 3015) (by decide +kernel)⟩
theorem lw_p198 : lw_okq (⟨"BrowserHouseModel", "lineThing", "(I)V"⟩, 186) := ⟨⟨by decide +kernel, by decide +kernel⟩, List.mem_of_getElem? (i := 1846) (by decide +kernel), List.mem_of_getElem? (i := 3018) (by decide +kernel), List.mem_of_getElem? (i := 3019) (by decide +kernel)⟩
theorem lw_p199 : lw_okq (⟨"BrowserHouseModel", "putFloat", "(I)V"⟩, 186) := ⟨⟨by decide +kernel, by decide +kernel⟩, List.mem_of_getElem? (i := 1846) (by decide +kernel), List.mem_of_getElem? (i := 3022) (by decide +kernel), List.mem_of_getElem? (i := 3023) (by decide +kernel)⟩
theorem lw_p200 : lw_okq (⟨"BrowserHouseModel", "edgesAt", "(I)V"⟩, 186) := ⟨⟨by decide +kernel, by decide +kernel⟩, List.mem_of_getElem? (i := 1846) (by decide +kernel), List.mem_of_getElem? (i := 3026) (by decide +kernel), List.mem_of_getElem? (i := 3027) (by decide +kernel)⟩
theorem lw_p201 : lw_okq (⟨"BrowserHouseModel", "isFloatAt", "(II)Z"⟩, 186) := ⟨⟨by decide +kernel, by decide +kernel⟩, List.mem_of_getElem? (i := 1846) (by decide +kernel), List.mem_of_getElem? (i := 3030) (by decide +kernel), List.mem_of_getElem? (i := 3031) (by decide +kernel)⟩
theorem lw_p202 : lw_okq (⟨"BrowserHouseModel", "leastEnd", "(I)I"⟩, 186) := ⟨⟨by decide +kernel, by decide +kernel⟩, List.mem_of_getElem? (i := 1846) (by decide +kernel), List.mem_of_getElem? (i := 3034) (by decide +kernel), List.mem_of_getElem? (i := 3035) (by decide +kernel)⟩
theorem lw_p203 : lw_okq (⟨"BrowserHouseModel", "putItem", "(III)V"⟩, 186) := ⟨⟨by decide +kernel, by decide +kernel⟩, List.mem_of_getElem? (i := 1846) (by decide +kernel), List.mem_of_getElem? (i := 3038) (by decide +kernel), List.mem_of_getElem? (i := 3039) (by decide +kernel)⟩
theorem lw_p204 : lw_okq (⟨"BrowserHouseModel", "itemHigh", "(I)I"⟩, 186) := ⟨⟨by decide +kernel, by decide +kernel⟩, List.mem_of_getElem? (i := 1846) (by decide +kernel), List.mem_of_getElem? (i := 3042) (by decide +kernel), List.mem_of_getElem? (i := 3043) (by decide +kernel)⟩
theorem lw_p205 : lw_okq (⟨"BrowserHouseModel", "endLine", "()V"⟩, 186) := ⟨⟨by decide +kernel, by decide +kernel⟩, List.mem_of_getElem? (i := 1846) (by decide +kernel), List.mem_of_getElem? (i := 3046) (by decide +kernel), List.mem_of_getElem? (i := 3047) (by decide +kernel)⟩
theorem lw_p206 : lw_okq (⟨"BrowserHouseModel", "lineText", "(I)V"⟩, 186) := ⟨⟨by decide +kernel, by decide +kernel⟩, List.mem_of_getElem? (i := 1846) (by decide +kernel), List.mem_of_getElem? (i := 3050) (by decide +kernel), List.mem_of_getElem? (i := 3051) (by decide +kernel)⟩
theorem lw_p207 : lw_okq (⟨"BrowserHouseModel", "heightOf", "(II)I"⟩, 186) := ⟨⟨by decide +kernel, by decide +kernel⟩, List.mem_of_getElem? (i := 1846) (by decide +kernel), List.mem_of_getElem? (i := 3054) (by decide +kernel), List.mem_of_getElem? (i := 3055) (by decide +kernel)⟩
def lw_privs_13 : List (MethodName × Nat) := [(⟨"BrowserHouseModel", "told", "(II)I"⟩, 186), (⟨"BrowserHouseModel", "oneLine", "(I)I"⟩, 186), (⟨"BrowserHouseModel", "measure", "(I)V"⟩, 186), (⟨"BrowserHouseModel", "split", "(I)V"⟩, 186), (⟨"BrowserHouseModel", "layBlock", "(I)V"⟩, 186), (⟨"BrowserHouseModel", "joins", "(I)Z"⟩, 186), (⟨"BrowserHouseModel", "lineThing", "(I)V"⟩, 186), (⟨"BrowserHouseModel", "putFloat", "(I)V"⟩, 186), (⟨"BrowserHouseModel", "edgesAt", "(I)V"⟩, 186), (⟨"BrowserHouseModel", "isFloatAt", "(II)Z"⟩, 186), (⟨"BrowserHouseModel", "leastEnd", "(I)I"⟩, 186), (⟨"BrowserHouseModel", "putItem", "(III)V"⟩, 186), (⟨"BrowserHouseModel", "itemHigh", "(I)I"⟩, 186), (⟨"BrowserHouseModel", "endLine", "()V"⟩, 186), (⟨"BrowserHouseModel", "lineText", "(I)V"⟩, 186), (⟨"BrowserHouseModel", "heightOf", "(II)I"⟩, 186)]
theorem lw_r13 : ∀ q ∈ lw_privs_13, lw_okq q := List.forall_mem_cons.mpr ⟨lw_p192, List.forall_mem_cons.mpr ⟨lw_p193, List.forall_mem_cons.mpr ⟨lw_p194, List.forall_mem_cons.mpr ⟨lw_p195, List.forall_mem_cons.mpr ⟨lw_p196, List.forall_mem_cons.mpr ⟨lw_p197, List.forall_mem_cons.mpr ⟨lw_p198, List.forall_mem_cons.mpr ⟨lw_p199, List.forall_mem_cons.mpr ⟨lw_p200, List.forall_mem_cons.mpr ⟨lw_p201, List.forall_mem_cons.mpr ⟨lw_p202, List.forall_mem_cons.mpr ⟨lw_p203, List.forall_mem_cons.mpr ⟨lw_p204, List.forall_mem_cons.mpr ⟨lw_p205, List.forall_mem_cons.mpr ⟨lw_p206, List.forall_mem_cons.mpr ⟨lw_p207, fun _ h => absurd h List.not_mem_nil⟩⟩⟩⟩⟩⟩⟩⟩⟩⟩⟩⟩⟩⟩⟩⟩
theorem lw_p208 : lw_okq (⟨"BrowserHouseModel", "layFlex", "(I)V"⟩, 186) := ⟨⟨by decide +kernel, by decide +kernel⟩, List.mem_of_getElem? (i := 1846) (by decide +kernel), List.mem_of_getElem? (i := 3058) (by decide +kernel), List.mem_of_getElem? (i := 3059) (by decide +kernel)⟩
theorem lw_p209 : lw_okq (⟨"BrowserHouseModel", "paint", "(II)Z"⟩, 186) := ⟨⟨by decide +kernel, by decide +kernel⟩, List.mem_of_getElem? (i := 1846) (by decide +kernel), List.mem_of_getElem? (i := 3078) (by decide +kernel), List.mem_of_getElem? (i := 3079) (by decide +kernel)⟩
theorem lw_p210 : lw_okq (⟨"BrowserHouseModel", "pictureHigh", "()I"⟩, 186) := ⟨⟨by decide +kernel, by decide +kernel⟩, List.mem_of_getElem? (i := 1846) (by decide +kernel), List.mem_of_getElem? (i := 3082) (by decide +kernel), List.mem_of_getElem? (i := 3083) (by decide +kernel)⟩
theorem lw_p211 : lw_okq (⟨"BrowserHouseModel", "paintWord", "(IIII)V"⟩, 186) := ⟨⟨by decide +kernel, by decide +kernel⟩, List.mem_of_getElem? (i := 1846) (by decide +kernel), List.mem_of_getElem? (i := 3086) (by decide +kernel), List.mem_of_getElem? (i := 3087) (by decide +kernel)⟩
theorem lw_p212 : lw_okq (⟨"BrowserHouseModel", "isIn", "(IIIIII)Z"⟩, 186) := ⟨⟨by decide +kernel, by decide +kernel⟩, List.mem_of_getElem? (i := 1846) (by decide +kernel), List.mem_of_getElem? (i := 3090) (by decide +kernel), List.mem_of_getElem? (i := 3091) (by decide +kernel)⟩
theorem lw_p213 : lw_okq (⟨"BrowserHouseModel", "letter", "(IIIIIII)V"⟩, 186) := ⟨⟨by decide +kernel, by decide +kernel⟩, List.mem_of_getElem? (i := 1846) (by decide +kernel), List.mem_of_getElem? (i := 3094) (by decide +kernel), List.mem_of_getElem? (i := 3095) (by decide +kernel)⟩
theorem lw_p214 : lw_okq (⟨"BrowserHouseModel", "paintBox", "(III)V"⟩, 186) := ⟨⟨by decide +kernel, by decide +kernel⟩, List.mem_of_getElem? (i := 1846) (by decide +kernel), List.mem_of_getElem? (i := 3105) (by decide +kernel), List.mem_of_getElem? (i := 3106) (by decide +kernel)⟩
theorem lw_p215 : lw_okq (⟨"BrowserHouseModel", "paintInput", "(III)V"⟩, 186) := ⟨⟨by decide +kernel, by decide +kernel⟩, List.mem_of_getElem? (i := 1846) (by decide +kernel), List.mem_of_getElem? (i := 3109) (by decide +kernel), List.mem_of_getElem? (i := 3110) (by decide +kernel)⟩
theorem lw_p216 : lw_okq (⟨"BrowserHouseModel", "paintButton", "(III)V"⟩, 186) := ⟨⟨by decide +kernel, by decide +kernel⟩, List.mem_of_getElem? (i := 1846) (by decide +kernel), List.mem_of_getElem? (i := 3113) (by decide +kernel), List.mem_of_getElem? (i := 3114) (by decide +kernel)⟩
theorem lw_p217 : lw_okq (⟨"BrowserHouseModel", "wayUp", "(I)V"⟩, 186) := ⟨⟨by decide +kernel, by decide +kernel⟩, List.mem_of_getElem? (i := 1846) (by decide +kernel), List.mem_of_getElem? (i := 3125) (by decide +kernel), List.mem_of_getElem? (i := 3126) (by decide +kernel)⟩
theorem lw_p218 : lw_okq (⟨"BrowserHouseModel", "goesUp", "(J)Z"⟩, 186) := ⟨⟨by decide +kernel, by decide +kernel⟩, List.mem_of_getElem? (i := 1846) (by decide +kernel), List.mem_of_getElem? (i := 3130) (by decide +kernel), List.mem_of_getElem? (i := 3131) (by decide +kernel)⟩
theorem lw_p219 : lw_okq (⟨"BrowserHouseModel", "pressed", "()V"⟩, 186) := ⟨⟨by decide +kernel, by decide +kernel⟩, List.mem_of_getElem? (i := 1846) (by decide +kernel), List.mem_of_getElem? (i := 3134) (by decide +kernel), List.mem_of_getElem? (i := 3135) (by decide +kernel)⟩
theorem lw_p220 : lw_okq (⟨"BrowserHouseModel", "formOf", "(I)I"⟩, 186) := ⟨⟨by decide +kernel, by decide +kernel⟩, List.mem_of_getElem? (i := 1846) (by decide +kernel), List.mem_of_getElem? (i := 3139) (by decide +kernel), List.mem_of_getElem? (i := 3140) (by decide +kernel)⟩
theorem lw_p221 : lw_okq (⟨"BrowserHouseModel", "sendForm", "(I)V"⟩, 186) := ⟨⟨by decide +kernel, by decide +kernel⟩, List.mem_of_getElem? (i := 1846) (by decide +kernel), List.mem_of_getElem? (i := 3143) (by decide +kernel), List.mem_of_getElem? (i := 3144) (by decide +kernel)⟩
theorem lw_p222 : lw_okq (⟨"BrowserHouseModel", "ask", "(I)V"⟩, 186) := ⟨⟨by decide +kernel, by decide +kernel⟩, List.mem_of_getElem? (i := 1846) (by decide +kernel), List.mem_of_getElem? (i := 3148) (by decide +kernel), List.mem_of_getElem? (i := 3149) (by decide +kernel)⟩
theorem lw_p223 : lw_okq (⟨"BrowserHouseModel", "focused", "()Z"⟩, 186) := ⟨⟨by decide +kernel, by decide +kernel⟩, List.mem_of_getElem? (i := 1846) (by decide +kernel), List.mem_of_getElem? (i := 3157) (by decide +kernel), List.mem_of_getElem? (i := 3158) (by decide +kernel)⟩
def lw_privs_14 : List (MethodName × Nat) := [(⟨"BrowserHouseModel", "layFlex", "(I)V"⟩, 186), (⟨"BrowserHouseModel", "paint", "(II)Z"⟩, 186), (⟨"BrowserHouseModel", "pictureHigh", "()I"⟩, 186), (⟨"BrowserHouseModel", "paintWord", "(IIII)V"⟩, 186), (⟨"BrowserHouseModel", "isIn", "(IIIIII)Z"⟩, 186), (⟨"BrowserHouseModel", "letter", "(IIIIIII)V"⟩, 186), (⟨"BrowserHouseModel", "paintBox", "(III)V"⟩, 186), (⟨"BrowserHouseModel", "paintInput", "(III)V"⟩, 186), (⟨"BrowserHouseModel", "paintButton", "(III)V"⟩, 186), (⟨"BrowserHouseModel", "wayUp", "(I)V"⟩, 186), (⟨"BrowserHouseModel", "goesUp", "(J)Z"⟩, 186), (⟨"BrowserHouseModel", "pressed", "()V"⟩, 186), (⟨"BrowserHouseModel", "formOf", "(I)I"⟩, 186), (⟨"BrowserHouseModel", "sendForm", "(I)V"⟩, 186), (⟨"BrowserHouseModel", "ask", "(I)V"⟩, 186), (⟨"BrowserHouseModel", "focused", "()Z"⟩, 186)]
theorem lw_r14 : ∀ q ∈ lw_privs_14, lw_okq q := List.forall_mem_cons.mpr ⟨lw_p208, List.forall_mem_cons.mpr ⟨lw_p209, List.forall_mem_cons.mpr ⟨lw_p210, List.forall_mem_cons.mpr ⟨lw_p211, List.forall_mem_cons.mpr ⟨lw_p212, List.forall_mem_cons.mpr ⟨lw_p213, List.forall_mem_cons.mpr ⟨lw_p214, List.forall_mem_cons.mpr ⟨lw_p215, List.forall_mem_cons.mpr ⟨lw_p216, List.forall_mem_cons.mpr ⟨lw_p217, List.forall_mem_cons.mpr ⟨lw_p218, List.forall_mem_cons.mpr ⟨lw_p219, List.forall_mem_cons.mpr ⟨lw_p220, List.forall_mem_cons.mpr ⟨lw_p221, List.forall_mem_cons.mpr ⟨lw_p222, List.forall_mem_cons.mpr ⟨lw_p223, fun _ h => absurd h List.not_mem_nil⟩⟩⟩⟩⟩⟩⟩⟩⟩⟩⟩⟩⟩⟩⟩⟩
theorem lw_p224 : lw_okq (⟨"BrowserHouseModel", "typed", "(I)V"⟩, 186) := ⟨⟨by decide +kernel, by decide +kernel⟩, List.mem_of_getElem? (i := 1846) (by decide +kernel), List.mem_of_getElem? (i := 3162) (by decide +kernel), List.mem_of_getElem? (i := 3163) (by decide +kernel)⟩
def lw_privs_15 : List (MethodName × Nat) := [(⟨"BrowserHouseModel", "typed", "(I)V"⟩, 186)]
theorem lw_r15 : ∀ q ∈ lw_privs_15, lw_okq q := List.forall_mem_cons.mpr ⟨lw_p224, fun _ h => absurd h List.not_mem_nil⟩
def lw_privs : List (MethodName × Nat) := lw_privs_1 ++ (lw_privs_2 ++ (lw_privs_3 ++ (lw_privs_4 ++ (lw_privs_5 ++ (lw_privs_6 ++ (lw_privs_7 ++ (lw_privs_8 ++ (lw_privs_9 ++ (lw_privs_10 ++ (lw_privs_11 ++ (lw_privs_12 ++ (lw_privs_13 ++ (lw_privs_14 ++ (lw_privs_15))))))))))))))
def lw_tbl : List Cond := k2_sels lw_privs ++ tables_1
theorem lw_privs_ok : ∀ q ∈ lw_privs, lw_okq q := by
  show ∀ q ∈ lw_privs_1 ++ (lw_privs_2 ++ (lw_privs_3 ++ (lw_privs_4 ++ (lw_privs_5 ++ (lw_privs_6 ++ (lw_privs_7 ++ (lw_privs_8 ++ (lw_privs_9 ++ (lw_privs_10 ++ (lw_privs_11 ++ (lw_privs_12 ++ (lw_privs_13 ++ (lw_privs_14 ++ (lw_privs_15)))))))))))))), lw_okq q
  exact List.forall_mem_append.mpr ⟨lw_r1, List.forall_mem_append.mpr ⟨lw_r2, List.forall_mem_append.mpr ⟨lw_r3, List.forall_mem_append.mpr ⟨lw_r4, List.forall_mem_append.mpr ⟨lw_r5, List.forall_mem_append.mpr ⟨lw_r6, List.forall_mem_append.mpr ⟨lw_r7, List.forall_mem_append.mpr ⟨lw_r8, List.forall_mem_append.mpr ⟨lw_r9, List.forall_mem_append.mpr ⟨lw_r10, List.forall_mem_append.mpr ⟨lw_r11, List.forall_mem_append.mpr ⟨lw_r12, List.forall_mem_append.mpr ⟨lw_r13, List.forall_mem_append.mpr ⟨lw_r14, lw_r15⟩⟩⟩⟩⟩⟩⟩⟩⟩⟩⟩⟩⟩⟩
-- ===== end of PART A; then your names; then what follows =====
/-! ===== BEGIN words of one list among another's, by their places ===== -/
theorem goodIn_r {big : List Cond} (ws : List Cond) (ps : List Nat) (hp : ws = ps.filterMap (fun i => big[i]?)) (h : ws.all goodWord = true) : GoodIn big ws := by
  intro w hw
  have h1 := List.all_eq_true.mp h w hw
  rw [hp] at hw
  obtain ⟨i, -, hi⟩ := List.mem_filterMap.mp hw
  have hm : w ∈ big := by first | exact List.mem_of_getElem? hi | exact List.getElem?_mem hi
  exact ⟨hm, good_of_word h1⟩
theorem goodIn_app {big a b : List Cond} (ha : GoodIn big a) (hb : GoodIn big b) : GoodIn big (a ++ b) := fun w h => (List.mem_append.mp h).elim (ha w) (hb w)
theorem goodIn_ca {big a b : List Cond} {c : Cond} (ha : GoodIn big (c :: a)) (hb : GoodIn big b) : GoodIn big (c :: (a ++ b)) := fun w h => (List.mem_cons.mp h).elim (fun e => ha w (List.mem_cons.mpr (Or.inl e))) (fun h => (List.mem_append.mp h).elim (fun h => ha w (List.mem_cons.mpr (Or.inr h))) (hb w))
theorem goodIn_sub {big ws : List Cond} (hm : ∀ w ∈ ws, w ∈ big) (h : ws.all goodWord = true) : GoodIn big ws := fun w hw => ⟨hm w hw, good_of_word (List.all_eq_true.mp h w hw)⟩
/-! ===== END ===== -/
def RX0 : String := "BrowserHouse$Acts"
def TX0 : u_T := fun k => match k with
  | 0 => ("BrowserHouse$Acts", "tree", "LBrowserHouse$Tree;", true)
  | 1 => ("BrowserHouse$Acts", "net", "LBrowserHouse$Net;", true)
  | 2 => ("BrowserHouse$Acts", "reader", "LBrowserHouse$Reader;", true)
  | 3 => ("BrowserHouse$Acts", "tasks", "[J", true)
  | 4 => ("BrowserHouse$Acts", "taskText", "[LBrowserHouse$Bytes;", true)
  | 5 => ("BrowserHouse$Acts", "taskCount", "I", false)
  | 6 => ("BrowserHouse$Acts", "focus", "J", false)
  | 7 => ("BrowserHouse$Acts", "stepsRun", "I", false)
  | 8 => ("BrowserHouse$Acts", "wrongSteps", "I", false)
  | 9 => ("BrowserHouse$Acts", "stepsLeft", "I", false)
  | 10 => ("BrowserHouse$Acts", "refusals", "I", false)
  | 11 => ("BrowserHouse$Acts", "running", "LBrowserHouse$Bytes;", true)
  | 12 => ("BrowserHouse$Acts", "at", "I", false)
  | 13 => ("BrowserHouse$Acts", "self", "J", false)
  | 14 => ("BrowserHouse$Acts", "way", "[J", true)
  | 15 => ("BrowserHouse$Acts", "wayAt", "I", false)
  | 16 => ("BrowserHouse$Acts", "wayCount", "I", false)
  | 17 => ("BrowserHouse$Acts", "asking", "I", false)
  | 18 => ("BrowserHouse$Acts", "cause", "I", false)
  | _ => ("BrowserHouse$Acts", "scratch", "LBrowserHouse$Bytes;", true)
def tyX0 : Nat → FieldType := fun k => match k with
  | 0 => .object "BrowserHouse$Tree"
  | 1 => .object "BrowserHouse$Net"
  | 2 => .object "BrowserHouse$Reader"
  | 3 => .array .long
  | 4 => .array (.object "BrowserHouse$Bytes")
  | 5 => .int
  | 6 => .long
  | 7 => .int
  | 8 => .int
  | 9 => .int
  | 10 => .int
  | 11 => .object "BrowserHouse$Bytes"
  | 12 => .int
  | 13 => .long
  | 14 => .array .long
  | 15 => .int
  | 16 => .int
  | 17 => .int
  | 18 => .int
  | _ => .object "BrowserHouse$Bytes"
set_option maxRecDepth 20000 in
theorem nmX0 : ∀ a, a < 20 → ∀ b, b < 20 → a ≠ b → (TX0 a).2.1 ≠ (TX0 b).2.1 := by decide +kernel
set_option maxRecDepth 20000 in
theorem tyX0_ok : ∀ k, k < 20 → parseFieldDescriptor (TX0 k).2.2.1 = some (tyX0 k) := by decide +kernel
def RX1 : String := "BrowserHouse$Address"
def TX1 : u_T := fun k => match k with
  | 0 => ("BrowserHouse$Address", "text", "[B", true)
  | 1 => ("BrowserHouse$Address", "site", "J", false)
  | 2 => ("BrowserHouse$Address", "siteEnd", "I", false)
  | 3 => ("BrowserHouse$Address", "pathEnd", "I", false)
  | 4 => ("BrowserHouse$Address", "queryEnd", "I", false)
  | 5 => ("BrowserHouse$Address", "size", "I", false)
  | 6 => ("BrowserHouse$Address", "kept", "I", false)
  | _ => ("BrowserHouse$Address", "climbs", "I", false)
def tyX1 : Nat → FieldType := fun k => match k with
  | 0 => .array .byte
  | 1 => .long
  | 2 => .int
  | 3 => .int
  | 4 => .int
  | 5 => .int
  | 6 => .int
  | _ => .int
set_option maxRecDepth 20000 in
theorem nmX1 : ∀ a, a < 8 → ∀ b, b < 8 → a ≠ b → (TX1 a).2.1 ≠ (TX1 b).2.1 := by decide +kernel
set_option maxRecDepth 20000 in
theorem tyX1_ok : ∀ k, k < 8 → parseFieldDescriptor (TX1 k).2.2.1 = some (tyX1 k) := by decide +kernel
def RX2 : String := "BrowserHouse$Answer"
def TX2 : u_T := fun k => match k with
  | 0 => ("BrowserHouse$Answer", "at", "LBrowserHouse$Address;", true)
  | 1 => ("BrowserHouse$Answer", "age", "I", false)
  | 2 => ("BrowserHouse$Answer", "cookie", "J", false)
  | 3 => ("BrowserHouse$Answer", "cookieIs", "J", false)
  | 4 => ("BrowserHouse$Answer", "to", "LBrowserHouse$Address;", false)
  | 5 => ("BrowserHouse$Answer", "open", "Z", false)
  | 6 => ("BrowserHouse$Answer", "body", "[B", false)
  | _ => ("BrowserHouse$Answer", "keptTill", "I", false)
def tyX2 : Nat → FieldType := fun k => match k with
  | 0 => .object "BrowserHouse$Address"
  | 1 => .int
  | 2 => .long
  | 3 => .long
  | 4 => .object "BrowserHouse$Address"
  | 5 => .boolean
  | 6 => .array .byte
  | _ => .int
set_option maxRecDepth 20000 in
theorem nmX2 : ∀ a, a < 8 → ∀ b, b < 8 → a ≠ b → (TX2 a).2.1 ≠ (TX2 b).2.1 := by decide +kernel
set_option maxRecDepth 20000 in
theorem tyX2_ok : ∀ k, k < 8 → parseFieldDescriptor (TX2 k).2.2.1 = some (tyX2 k) := by decide +kernel
def RX3 : String := "BrowserHouse$Box"
def TX3 : u_T := fun k => match k with
  | 0 => ("BrowserHouse$Box", "kind", "I", false)
  | 1 => ("BrowserHouse$Box", "holder", "I", false)
  | 2 => ("BrowserHouse$Box", "x", "I", false)
  | 3 => ("BrowserHouse$Box", "y", "I", false)
  | 4 => ("BrowserHouse$Box", "width", "I", false)
  | 5 => ("BrowserHouse$Box", "height", "I", false)
  | 6 => ("BrowserHouse$Box", "margin", "I", false)
  | 7 => ("BrowserHouse$Box", "border", "I", false)
  | 8 => ("BrowserHouse$Box", "edge", "I", false)
  | 9 => ("BrowserHouse$Box", "color", "I", false)
  | 10 => ("BrowserHouse$Box", "background", "I", false)
  | 11 => ("BrowserHouse$Box", "size", "I", false)
  | 12 => ("BrowserHouse$Box", "align", "I", false)
  | 13 => ("BrowserHouse$Box", "side", "I", false)
  | 14 => ("BrowserHouse$Box", "above", "I", false)
  | 15 => ("BrowserHouse$Box", "below", "I", false)
  | 16 => ("BrowserHouse$Box", "joinsAbove", "Z", false)
  | 17 => ("BrowserHouse$Box", "joinsBelow", "Z", false)
  | 18 => ("BrowserHouse$Box", "firstWord", "I", false)
  | _ => ("BrowserHouse$Box", "words", "I", false)
def tyX3 : Nat → FieldType := fun k => match k with
  | 0 => .int
  | 1 => .int
  | 2 => .int
  | 3 => .int
  | 4 => .int
  | 5 => .int
  | 6 => .int
  | 7 => .int
  | 8 => .int
  | 9 => .int
  | 10 => .int
  | 11 => .int
  | 12 => .int
  | 13 => .int
  | 14 => .int
  | 15 => .int
  | 16 => .boolean
  | 17 => .boolean
  | 18 => .int
  | _ => .int
set_option maxRecDepth 20000 in
theorem nmX3 : ∀ a, a < 20 → ∀ b, b < 20 → a ≠ b → (TX3 a).2.1 ≠ (TX3 b).2.1 := by decide +kernel
set_option maxRecDepth 20000 in
theorem tyX3_ok : ∀ k, k < 20 → parseFieldDescriptor (TX3 k).2.2.1 = some (tyX3 k) := by decide +kernel
def RX4 : String := "BrowserHouse$Bytes"
def TX4 : u_T := fun k => match k with
  | 0 => ("BrowserHouse$Bytes", "limit", "I", true)
  | 1 => ("BrowserHouse$Bytes", "data", "[B", false)
  | _ => ("BrowserHouse$Bytes", "size", "I", false)
def tyX4 : Nat → FieldType := fun k => match k with
  | 0 => .int
  | 1 => .array .byte
  | _ => .int
set_option maxRecDepth 20000 in
theorem nmX4 : ∀ a, a < 3 → ∀ b, b < 3 → a ≠ b → (TX4 a).2.1 ≠ (TX4 b).2.1 := by decide +kernel
set_option maxRecDepth 20000 in
theorem tyX4_ok : ∀ k, k < 3 → parseFieldDescriptor (TX4 k).2.2.1 = some (tyX4 k) := by decide +kernel
def RX5 : String := "BrowserHouse$Layout"
def TX5 : u_T := fun k => match k with
  | 0 => ("BrowserHouse$Layout", "tree", "LBrowserHouse$Tree;", true)
  | 1 => ("BrowserHouse$Layout", "sheet", "LBrowserHouse$Sheet;", true)
  | 2 => ("BrowserHouse$Layout", "boxes", "[LBrowserHouse$Box;", true)
  | 3 => ("BrowserHouse$Layout", "screenWidth", "I", false)
  | 4 => ("BrowserHouse$Layout", "laidFor", "I", false)
  | 5 => ("BrowserHouse$Layout", "words", "[I", false)
  | 6 => ("BrowserHouse$Layout", "wordCount", "I", false)
  | 7 => ("BrowserHouse$Layout", "oneLine", "LBrowserHouse$Bytes;", true)
  | 8 => ("BrowserHouse$Layout", "block", "LBrowserHouse$Box;", false)
  | 9 => ("BrowserHouse$Layout", "line", "[I", false)
  | 10 => ("BrowserHouse$Layout", "lineCount", "I", false)
  | 11 => ("BrowserHouse$Layout", "lineY", "I", false)
  | 12 => ("BrowserHouse$Layout", "cursor", "I", false)
  | 13 => ("BrowserHouse$Layout", "right", "I", false)
  | 14 => ("BrowserHouse$Layout", "nextEnd", "I", false)
  | 15 => ("BrowserHouse$Layout", "isAfterBlank", "Z", false)
  | 16 => ("BrowserHouse$Layout", "floats", "[I", true)
  | 17 => ("BrowserHouse$Layout", "floatsPut", "I", false)
  | 18 => ("BrowserHouse$Layout", "floatsKnown", "I", false)
  | _ => ("BrowserHouse$Layout", "floatsEnd", "I", false)
def tyX5 : Nat → FieldType := fun k => match k with
  | 0 => .object "BrowserHouse$Tree"
  | 1 => .object "BrowserHouse$Sheet"
  | 2 => .array (.object "BrowserHouse$Box")
  | 3 => .int
  | 4 => .int
  | 5 => .array .int
  | 6 => .int
  | 7 => .object "BrowserHouse$Bytes"
  | 8 => .object "BrowserHouse$Box"
  | 9 => .array .int
  | 10 => .int
  | 11 => .int
  | 12 => .int
  | 13 => .int
  | 14 => .int
  | 15 => .boolean
  | 16 => .array .int
  | 17 => .int
  | 18 => .int
  | _ => .int
set_option maxRecDepth 20000 in
theorem nmX5 : ∀ a, a < 20 → ∀ b, b < 20 → a ≠ b → (TX5 a).2.1 ≠ (TX5 b).2.1 := by decide +kernel
set_option maxRecDepth 20000 in
theorem tyX5_ok : ∀ k, k < 20 → parseFieldDescriptor (TX5 k).2.2.1 = some (tyX5 k) := by decide +kernel
def RX6 : String := "BrowserHouse$Net"
def TX6 : u_T := fun k => match k with
  | 0 => ("BrowserHouse$Net", "empty", "LBrowserHouse$Answer;", true)
  | 1 => ("BrowserHouse$Net", "answers", "[LBrowserHouse$Answer;", true)
  | 2 => ("BrowserHouse$Net", "answerCount", "I", false)
  | 3 => ("BrowserHouse$Net", "kept", "[LBrowserHouse$Answer;", true)
  | 4 => ("BrowserHouse$Net", "keptCount", "I", false)
  | 5 => ("BrowserHouse$Net", "cookies", "[J", true)
  | 6 => ("BrowserHouse$Net", "cookieCount", "I", false)
  | 7 => ("BrowserHouse$Net", "store", "[J", true)
  | 8 => ("BrowserHouse$Net", "storeCount", "I", false)
  | 9 => ("BrowserHouse$Net", "requests", "I", false)
  | 10 => ("BrowserHouse$Net", "asked", "LBrowserHouse$Address;", true)
  | 11 => ("BrowserHouse$Net", "askedCookies", "LBrowserHouse$Bytes;", true)
  | 12 => ("BrowserHouse$Net", "clock", "I", false)
  | 13 => ("BrowserHouse$Net", "here", "LBrowserHouse$Address;", true)
  | 14 => ("BrowserHouse$Net", "target", "LBrowserHouse$Address;", true)
  | 15 => ("BrowserHouse$Net", "last", "LBrowserHouse$Address;", true)
  | 16 => ("BrowserHouse$Net", "going", "I", false)
  | 17 => ("BrowserHouse$Net", "history", "[LBrowserHouse$Address;", true)
  | 18 => ("BrowserHouse$Net", "historySize", "I", false)
  | _ => ("BrowserHouse$Net", "historyAt", "I", false)
def tyX6 : Nat → FieldType := fun k => match k with
  | 0 => .object "BrowserHouse$Answer"
  | 1 => .array (.object "BrowserHouse$Answer")
  | 2 => .int
  | 3 => .array (.object "BrowserHouse$Answer")
  | 4 => .int
  | 5 => .array .long
  | 6 => .int
  | 7 => .array .long
  | 8 => .int
  | 9 => .int
  | 10 => .object "BrowserHouse$Address"
  | 11 => .object "BrowserHouse$Bytes"
  | 12 => .int
  | 13 => .object "BrowserHouse$Address"
  | 14 => .object "BrowserHouse$Address"
  | 15 => .object "BrowserHouse$Address"
  | 16 => .int
  | 17 => .array (.object "BrowserHouse$Address")
  | 18 => .int
  | _ => .int
set_option maxRecDepth 20000 in
theorem nmX6 : ∀ a, a < 20 → ∀ b, b < 20 → a ≠ b → (TX6 a).2.1 ≠ (TX6 b).2.1 := by decide +kernel
set_option maxRecDepth 20000 in
theorem tyX6_ok : ∀ k, k < 20 → parseFieldDescriptor (TX6 k).2.2.1 = some (tyX6 k) := by decide +kernel
def RX7 : String := "BrowserHouse$Node"
def TX7 : u_T := fun k => match k with
  | 0 => ("BrowserHouse$Node", "tag", "I", false)
  | 1 => ("BrowserHouse$Node", "called", "J", false)
  | 2 => ("BrowserHouse$Node", "parent", "I", false)
  | 3 => ("BrowserHouse$Node", "firstKid", "I", false)
  | 4 => ("BrowserHouse$Node", "lastKid", "I", false)
  | 5 => ("BrowserHouse$Node", "nextKid", "I", false)
  | 6 => ("BrowserHouse$Node", "kids", "I", false)
  | 7 => ("BrowserHouse$Node", "deep", "I", false)
  | 8 => ("BrowserHouse$Node", "place", "I", false)
  | 9 => ("BrowserHouse$Node", "past", "I", false)
  | 10 => ("BrowserHouse$Node", "birth", "J", false)
  | 11 => ("BrowserHouse$Node", "bytes", "LBrowserHouse$Bytes;", true)
  | 12 => ("BrowserHouse$Node", "attributes", "I", false)
  | 13 => ("BrowserHouse$Node", "names", "[J", true)
  | 14 => ("BrowserHouse$Node", "values", "[LBrowserHouse$Bytes;", true)
  | 15 => ("BrowserHouse$Node", "isCheck", "Z", false)
  | _ => ("BrowserHouse$Node", "ticked", "Z", false)
def tyX7 : Nat → FieldType := fun k => match k with
  | 0 => .int
  | 1 => .long
  | 2 => .int
  | 3 => .int
  | 4 => .int
  | 5 => .int
  | 6 => .int
  | 7 => .int
  | 8 => .int
  | 9 => .int
  | 10 => .long
  | 11 => .object "BrowserHouse$Bytes"
  | 12 => .int
  | 13 => .array .long
  | 14 => .array (.object "BrowserHouse$Bytes")
  | 15 => .boolean
  | _ => .boolean
set_option maxRecDepth 20000 in
theorem nmX7 : ∀ a, a < 17 → ∀ b, b < 17 → a ≠ b → (TX7 a).2.1 ≠ (TX7 b).2.1 := by decide +kernel
set_option maxRecDepth 20000 in
theorem tyX7_ok : ∀ k, k < 17 → parseFieldDescriptor (TX7 k).2.2.1 = some (tyX7 k) := by decide +kernel
def RX8 : String := "BrowserHouse$Reader"
def TX8 : u_T := fun k => match k with
  | 0 => ("BrowserHouse$Reader", "tree", "LBrowserHouse$Tree;", true)
  | 1 => ("BrowserHouse$Reader", "faultKind", "[I", true)
  | 2 => ("BrowserHouse$Reader", "faultPlace", "[I", true)
  | 3 => ("BrowserHouse$Reader", "faults", "I", false)
  | 4 => ("BrowserHouse$Reader", "open", "[I", true)
  | 5 => ("BrowserHouse$Reader", "openPlace", "[I", true)
  | 6 => ("BrowserHouse$Reader", "openCount", "I", false)
  | 7 => ("BrowserHouse$Reader", "tagRead", "LBrowserHouse$Node;", true)
  | 8 => ("BrowserHouse$Reader", "d", "[B", false)
  | 9 => ("BrowserHouse$Reader", "size", "I", false)
  | 10 => ("BrowserHouse$Reader", "at", "I", false)
  | _ => ("BrowserHouse$Reader", "cutText", "I", false)
def tyX8 : Nat → FieldType := fun k => match k with
  | 0 => .object "BrowserHouse$Tree"
  | 1 => .array .int
  | 2 => .array .int
  | 3 => .int
  | 4 => .array .int
  | 5 => .array .int
  | 6 => .int
  | 7 => .object "BrowserHouse$Node"
  | 8 => .array .byte
  | 9 => .int
  | 10 => .int
  | _ => .int
set_option maxRecDepth 20000 in
theorem nmX8 : ∀ a, a < 12 → ∀ b, b < 12 → a ≠ b → (TX8 a).2.1 ≠ (TX8 b).2.1 := by decide +kernel
set_option maxRecDepth 20000 in
theorem tyX8_ok : ∀ k, k < 12 → parseFieldDescriptor (TX8 k).2.2.1 = some (tyX8 k) := by decide +kernel
def RX9 : String := "BrowserHouse$Sheet"
def TX9 : u_T := fun k => match k with
  | 0 => ("BrowserHouse$Sheet", "tree", "LBrowserHouse$Tree;", true)
  | 1 => ("BrowserHouse$Sheet", "parts", "[I", true)
  | 2 => ("BrowserHouse$Sheet", "weights", "[I", true)
  | 3 => ("BrowserHouse$Sheet", "ruleOf", "[I", true)
  | 4 => ("BrowserHouse$Sheet", "partNames", "[J", true)
  | 5 => ("BrowserHouse$Sheet", "marks", "[I", true)
  | 6 => ("BrowserHouse$Sheet", "markNames", "[J", true)
  | 7 => ("BrowserHouse$Sheet", "markIsId", "[Z", true)
  | 8 => ("BrowserHouse$Sheet", "declared", "[I", true)
  | 9 => ("BrowserHouse$Sheet", "ranks", "[I", true)
  | 10 => ("BrowserHouse$Sheet", "look", "[I", true)
  | 11 => ("BrowserHouse$Sheet", "idName", "J", true)
  | 12 => ("BrowserHouse$Sheet", "className", "J", true)
  | 13 => ("BrowserHouse$Sheet", "selectors", "I", false)
  | _ => ("BrowserHouse$Sheet", "readFor", "I", false)
def tyX9 : Nat → FieldType := fun k => match k with
  | 0 => .object "BrowserHouse$Tree"
  | 1 => .array .int
  | 2 => .array .int
  | 3 => .array .int
  | 4 => .array .long
  | 5 => .array .int
  | 6 => .array .long
  | 7 => .array .boolean
  | 8 => .array .int
  | 9 => .array .int
  | 10 => .array .int
  | 11 => .long
  | 12 => .long
  | 13 => .int
  | _ => .int
set_option maxRecDepth 20000 in
theorem nmX9 : ∀ a, a < 15 → ∀ b, b < 15 → a ≠ b → (TX9 a).2.1 ≠ (TX9 b).2.1 := by decide +kernel
set_option maxRecDepth 20000 in
theorem tyX9_ok : ∀ k, k < 15 → parseFieldDescriptor (TX9 k).2.2.1 = some (tyX9 k) := by decide +kernel
def RX10 : String := "BrowserHouse$Tree"
def TX10 : u_T := fun k => match k with
  | 0 => ("BrowserHouse$Tree", "nodes", "[LBrowserHouse$Node;", true)
  | 1 => ("BrowserHouse$Tree", "tagNames", "[J", true)
  | 2 => ("BrowserHouse$Tree", "order", "[I", true)
  | 3 => ("BrowserHouse$Tree", "listed", "I", false)
  | 4 => ("BrowserHouse$Tree", "listedFor", "I", false)
  | 5 => ("BrowserHouse$Tree", "size", "I", false)
  | 6 => ("BrowserHouse$Tree", "changes", "I", false)
  | _ => ("BrowserHouse$Tree", "births", "J", false)
def tyX10 : Nat → FieldType := fun k => match k with
  | 0 => .array (.object "BrowserHouse$Node")
  | 1 => .array .long
  | 2 => .array .int
  | 3 => .int
  | 4 => .int
  | 5 => .int
  | 6 => .int
  | _ => .long
set_option maxRecDepth 20000 in
theorem nmX10 : ∀ a, a < 8 → ∀ b, b < 8 → a ≠ b → (TX10 a).2.1 ≠ (TX10 b).2.1 := by decide +kernel
set_option maxRecDepth 20000 in
theorem tyX10_ok : ∀ k, k < 8 → parseFieldDescriptor (TX10 k).2.2.1 = some (tyX10 k) := by decide +kernel
def RX11 : String := "BrowserHouse"
def TX11 : u_T := fun k => match k with
  | 0 => ("BrowserHouse", "tape", "LBrowserHouse$Bytes;", true)
  | 1 => ("BrowserHouse", "shown", "LBrowserHouse$Bytes;", true)
  | 2 => ("BrowserHouse", "tree", "LBrowserHouse$Tree;", true)
  | 3 => ("BrowserHouse", "net", "LBrowserHouse$Net;", true)
  | 4 => ("BrowserHouse", "reader", "LBrowserHouse$Reader;", true)
  | 5 => ("BrowserHouse", "sheet", "LBrowserHouse$Sheet;", true)
  | 6 => ("BrowserHouse", "layout", "LBrowserHouse$Layout;", true)
  | 7 => ("BrowserHouse", "acts", "LBrowserHouse$Acts;", true)
  | 8 => ("BrowserHouse", "matched", "[I", true)
  | _ => ("BrowserHouse", "matches", "I", false)
def tyX11 : Nat → FieldType := fun k => match k with
  | 0 => .object "BrowserHouse$Bytes"
  | 1 => .object "BrowserHouse$Bytes"
  | 2 => .object "BrowserHouse$Tree"
  | 3 => .object "BrowserHouse$Net"
  | 4 => .object "BrowserHouse$Reader"
  | 5 => .object "BrowserHouse$Sheet"
  | 6 => .object "BrowserHouse$Layout"
  | 7 => .object "BrowserHouse$Acts"
  | 8 => .array .int
  | _ => .int
set_option maxRecDepth 20000 in
theorem nmX11 : ∀ a, a < 10 → ∀ b, b < 10 → a ≠ b → (TX11 a).2.1 ≠ (TX11 b).2.1 := by decide +kernel
set_option maxRecDepth 20000 in
theorem tyX11_ok : ∀ k, k < 10 → parseFieldDescriptor (TX11 k).2.2.1 = some (tyX11 k) := by decide +kernel
def RX12 : String := "BrowserHouseModel"
def TX12 : u_T := fun k => match k with
  | 0 => ("BrowserHouseModel", "tape", "[B", true)
  | 1 => ("BrowserHouseModel", "taped", "I", false)
  | 2 => ("BrowserHouseModel", "text", "[B", true)
  | 3 => ("BrowserHouseModel", "tn", "I", false)
  | 4 => ("BrowserHouseModel", "out", "[B", true)
  | 5 => ("BrowserHouseModel", "outSize", "I", false)
  | 6 => ("BrowserHouseModel", "row", "[B", true)
  | 7 => ("BrowserHouseModel", "size", "[I", true)
  | 8 => ("BrowserHouseModel", "mark", "[I", true)
  | 9 => ("BrowserHouseModel", "segments", "[B", true)
  | 10 => ("BrowserHouseModel", "segmentAt", "[I", true)
  | 11 => ("BrowserHouseModel", "segmentSize", "[I", true)
  | 12 => ("BrowserHouseModel", "segmentCount", "I", false)
  | 13 => ("BrowserHouseModel", "segmentBytes", "I", false)
  | 14 => ("BrowserHouseModel", "lastWent", "Z", false)
  | 15 => ("BrowserHouseModel", "readAt", "I", false)
  | 16 => ("BrowserHouseModel", "answers", "I", false)
  | 17 => ("BrowserHouseModel", "body", "[B", true)
  | 18 => ("BrowserHouseModel", "bodySize", "[I", true)
  | 19 => ("BrowserHouseModel", "age", "[I", true)
  | 20 => ("BrowserHouseModel", "cookie", "[B", true)
  | 21 => ("BrowserHouseModel", "cookieName", "[I", true)
  | 22 => ("BrowserHouseModel", "cookieValue", "[I", true)
  | 23 => ("BrowserHouseModel", "hasTo", "[Z", true)
  | 24 => ("BrowserHouseModel", "isOpen", "[Z", true)
  | 25 => ("BrowserHouseModel", "clock", "I", false)
  | 26 => ("BrowserHouseModel", "kept", "I", false)
  | 27 => ("BrowserHouseModel", "keptCount", "I", false)
  | 28 => ("BrowserHouseModel", "keptTime", "[I", true)
  | 29 => ("BrowserHouseModel", "keptWhen", "[I", true)
  | 30 => ("BrowserHouseModel", "cookies", "I", false)
  | 31 => ("BrowserHouseModel", "jar", "[B", true)
  | 32 => ("BrowserHouseModel", "jarSite", "[I", true)
  | 33 => ("BrowserHouseModel", "jarName", "[I", true)
  | 34 => ("BrowserHouseModel", "jarValue", "[I", true)
  | 35 => ("BrowserHouseModel", "requests", "I", false)
  | 36 => ("BrowserHouseModel", "sent", "[B", true)
  | 37 => ("BrowserHouseModel", "sentSize", "I", false)
  | 38 => ("BrowserHouseModel", "newAge", "I", false)
  | 39 => ("BrowserHouseModel", "newName", "I", false)
  | 40 => ("BrowserHouseModel", "newValue", "I", false)
  | 41 => ("BrowserHouseModel", "newTo", "I", false)
  | 42 => ("BrowserHouseModel", "newOpen", "I", false)
  | 43 => ("BrowserHouseModel", "newCookie", "[B", true)
  | 44 => ("BrowserHouseModel", "got", "I", false)
  | 45 => ("BrowserHouseModel", "is", "[Z", true)
  | 46 => ("BrowserHouseModel", "tag", "[I", true)
  | 47 => ("BrowserHouseModel", "name", "[B", true)
  | 48 => ("BrowserHouseModel", "nameSize", "[I", true)
  | 49 => ("BrowserHouseModel", "parent", "[I", true)
  | 50 => ("BrowserHouseModel", "firstKid", "[I", true)
  | 51 => ("BrowserHouseModel", "lastKid", "[I", true)
  | 52 => ("BrowserHouseModel", "next", "[I", true)
  | 53 => ("BrowserHouseModel", "before", "[I", true)
  | 54 => ("BrowserHouseModel", "depth", "[I", true)
  | 55 => ("BrowserHouseModel", "born", "[I", true)
  | 56 => ("BrowserHouseModel", "attributes", "[I", true)
  | 57 => ("BrowserHouseModel", "attributeName", "[B", true)
  | 58 => ("BrowserHouseModel", "attributeNameSize", "[I", true)
  | 59 => ("BrowserHouseModel", "attributeValue", "[B", true)
  | 60 => ("BrowserHouseModel", "attributeSize", "[I", true)
  | 61 => ("BrowserHouseModel", "bytes", "[B", true)
  | 62 => ("BrowserHouseModel", "byteCount", "[I", true)
  | 63 => ("BrowserHouseModel", "isLong", "[Z", true)
  | 64 => ("BrowserHouseModel", "value", "[B", true)
  | 65 => ("BrowserHouseModel", "valueSize", "[I", true)
  | 66 => ("BrowserHouseModel", "isChecked", "[Z", true)
  | 67 => ("BrowserHouseModel", "begun", "[I", true)
  | 68 => ("BrowserHouseModel", "nodes", "I", false)
  | 69 => ("BrowserHouseModel", "births", "I", false)
  | 70 => ("BrowserHouseModel", "faults", "I", false)
  | 71 => ("BrowserHouseModel", "faultWhat", "[I", true)
  | 72 => ("BrowserHouseModel", "faultPlace", "[I", true)
  | 73 => ("BrowserHouseModel", "open", "[I", true)
  | 74 => ("BrowserHouseModel", "opened", "I", false)
  | 75 => ("BrowserHouseModel", "source", "[B", true)
  | 76 => ("BrowserHouseModel", "sourceSize", "I", false)
  | 77 => ("BrowserHouseModel", "entitySize", "I", false)
  | 78 => ("BrowserHouseModel", "tagName", "[B", true)
  | 79 => ("BrowserHouseModel", "tagSize", "I", false)
  | 80 => ("BrowserHouseModel", "many", "I", false)
  | 81 => ("BrowserHouseModel", "readName", "[B", true)
  | 82 => ("BrowserHouseModel", "readNameSize", "[I", true)
  | 83 => ("BrowserHouseModel", "readValue", "[B", true)
  | 84 => ("BrowserHouseModel", "readSize", "[I", true)
  | 85 => ("BrowserHouseModel", "twice", "I", false)
  | 86 => ("BrowserHouseModel", "twiceAt", "[I", true)
  | 87 => ("BrowserHouseModel", "oneName", "[B", true)
  | 88 => ("BrowserHouseModel", "oneValue", "[B", true)
  | 89 => ("BrowserHouseModel", "selectors", "I", false)
  | 90 => ("BrowserHouseModel", "partCount", "[I", true)
  | 91 => ("BrowserHouseModel", "partName", "[I", true)
  | 92 => ("BrowserHouseModel", "partBytes", "[B", true)
  | 93 => ("BrowserHouseModel", "conditions", "[I", true)
  | 94 => ("BrowserHouseModel", "conditionSort", "[I", true)
  | 95 => ("BrowserHouseModel", "conditionSize", "[I", true)
  | 96 => ("BrowserHouseModel", "conditionBytes", "[B", true)
  | 97 => ("BrowserHouseModel", "weight", "[I", true)
  | 98 => ("BrowserHouseModel", "declared", "[I", true)
  | 99 => ("BrowserHouseModel", "strong", "[I", true)
  | 100 => ("BrowserHouseModel", "sheetAt", "I", false)
  | 101 => ("BrowserHouseModel", "sheet", "[B", true)
  | 102 => ("BrowserHouseModel", "ruleValue", "[I", true)
  | 103 => ("BrowserHouseModel", "ruleStrong", "[I", true)
  | 104 => ("BrowserHouseModel", "valueEnd", "I", false)
  | 105 => ("BrowserHouseModel", "style", "[I", true)
  | 106 => ("BrowserHouseModel", "screen", "I", false)
  | 107 => ("BrowserHouseModel", "mode", "[I", true)
  | 108 => ("BrowserHouseModel", "floats", "[Z", true)
  | 109 => ("BrowserHouseModel", "box", "[I", true)
  | 110 => ("BrowserHouseModel", "x", "[I", true)
  | 111 => ("BrowserHouseModel", "y", "[I", true)
  | 112 => ("BrowserHouseModel", "wide", "[I", true)
  | 113 => ("BrowserHouseModel", "high", "[I", true)
  | 114 => ("BrowserHouseModel", "top", "[I", true)
  | 115 => ("BrowserHouseModel", "bottom", "[I", true)
  | 116 => ("BrowserHouseModel", "firstWord", "[I", true)
  | 117 => ("BrowserHouseModel", "words", "I", false)
  | 118 => ("BrowserHouseModel", "wordText", "[I", true)
  | 119 => ("BrowserHouseModel", "wordAt", "[I", true)
  | 120 => ("BrowserHouseModel", "wordSize", "[I", true)
  | 121 => ("BrowserHouseModel", "wordX", "[I", true)
  | 122 => ("BrowserHouseModel", "wordY", "[I", true)
  | 123 => ("BrowserHouseModel", "wordWide", "[I", true)
  | 124 => ("BrowserHouseModel", "treeOrder", "[I", true)
  | 125 => ("BrowserHouseModel", "ordered", "I", false)
  | 126 => ("BrowserHouseModel", "isLaid", "Z", false)
  | 127 => ("BrowserHouseModel", "lineY", "I", false)
  | 128 => ("BrowserHouseModel", "lineLeft", "I", false)
  | 129 => ("BrowserHouseModel", "lineRight", "I", false)
  | 130 => ("BrowserHouseModel", "lineEnd", "I", false)
  | 131 => ("BrowserHouseModel", "lineItems", "I", false)
  | 132 => ("BrowserHouseModel", "lineHigh", "I", false)
  | 133 => ("BrowserHouseModel", "lineSort", "I", false)
  | 134 => ("BrowserHouseModel", "item", "[I", true)
  | 135 => ("BrowserHouseModel", "itemX", "[I", true)
  | 136 => ("BrowserHouseModel", "floated", "I", false)
  | 137 => ("BrowserHouseModel", "floatLeft", "[I", true)
  | 138 => ("BrowserHouseModel", "floatRight", "[I", true)
  | 139 => ("BrowserHouseModel", "floatTop", "[I", true)
  | 140 => ("BrowserHouseModel", "floatEnd", "[I", true)
  | 141 => ("BrowserHouseModel", "floatSide", "[I", true)
  | 142 => ("BrowserHouseModel", "waits", "[I", true)
  | 143 => ("BrowserHouseModel", "waiting", "I", false)
  | 144 => ("BrowserHouseModel", "blank", "Z", false)
  | 145 => ("BrowserHouseModel", "blockWide", "I", false)
  | 146 => ("BrowserHouseModel", "color", "I", false)
  | 147 => ("BrowserHouseModel", "found", "I", false)
  | 148 => ("BrowserHouseModel", "past", "I", false)
  | 149 => ("BrowserHouseModel", "here", "I", false)
  | 150 => ("BrowserHouseModel", "focus", "I", false)
  | 151 => ("BrowserHouseModel", "focusBorn", "I", false)
  | 152 => ("BrowserHouseModel", "went", "Z", false)
  | 153 => ("BrowserHouseModel", "loads", "Z", false)
  | 154 => ("BrowserHouseModel", "stops", "Z", false)
  | 155 => ("BrowserHouseModel", "steps", "I", false)
  | 156 => ("BrowserHouseModel", "wrongSteps", "I", false)
  | 157 => ("BrowserHouseModel", "refusals", "I", false)
  | 158 => ("BrowserHouseModel", "spent", "I", false)
  | 159 => ("BrowserHouseModel", "script", "[B", true)
  | 160 => ("BrowserHouseModel", "scriptSize", "I", false)
  | 161 => ("BrowserHouseModel", "self", "I", false)
  | 162 => ("BrowserHouseModel", "selfBorn", "I", false)
  | 163 => ("BrowserHouseModel", "stopped", "Z", false)
  | 164 => ("BrowserHouseModel", "target", "I", false)
  | 165 => ("BrowserHouseModel", "wordEnd", "I", false)
  | 166 => ("BrowserHouseModel", "tasks", "I", false)
  | 167 => ("BrowserHouseModel", "taskCount", "I", false)
  | 168 => ("BrowserHouseModel", "taskTime", "[I", true)
  | 169 => ("BrowserHouseModel", "taskOrder", "[I", true)
  | 170 => ("BrowserHouseModel", "taskSelf", "[I", true)
  | 171 => ("BrowserHouseModel", "taskBorn", "[I", true)
  | 172 => ("BrowserHouseModel", "taskSize", "[I", true)
  | 173 => ("BrowserHouseModel", "task", "[B", true)
  | 174 => ("BrowserHouseModel", "stores", "I", false)
  | 175 => ("BrowserHouseModel", "store", "[B", true)
  | 176 => ("BrowserHouseModel", "storeSite", "[I", true)
  | 177 => ("BrowserHouseModel", "storeName", "[I", true)
  | 178 => ("BrowserHouseModel", "storeValue", "[I", true)
  | 179 => ("BrowserHouseModel", "way", "[I", true)
  | 180 => ("BrowserHouseModel", "wayBorn", "[I", true)
  | 181 => ("BrowserHouseModel", "wayCount", "I", false)
  | 182 => ("BrowserHouseModel", "query", "[B", true)
  | 183 => ("BrowserHouseModel", "querySize", "I", false)
  | 184 => ("BrowserHouseModel", "foundNode", "[I", true)
  | _ => ("BrowserHouseModel", "foundCount", "I", false)
def tyX12 : Nat → FieldType := fun k => match k with
  | 0 => .array .byte
  | 1 => .int
  | 2 => .array .byte
  | 3 => .int
  | 4 => .array .byte
  | 5 => .int
  | 6 => .array .byte
  | 7 => .array .int
  | 8 => .array .int
  | 9 => .array .byte
  | 10 => .array .int
  | 11 => .array .int
  | 12 => .int
  | 13 => .int
  | 14 => .boolean
  | 15 => .int
  | 16 => .int
  | 17 => .array .byte
  | 18 => .array .int
  | 19 => .array .int
  | 20 => .array .byte
  | 21 => .array .int
  | 22 => .array .int
  | 23 => .array .boolean
  | 24 => .array .boolean
  | 25 => .int
  | 26 => .int
  | 27 => .int
  | 28 => .array .int
  | 29 => .array .int
  | 30 => .int
  | 31 => .array .byte
  | 32 => .array .int
  | 33 => .array .int
  | 34 => .array .int
  | 35 => .int
  | 36 => .array .byte
  | 37 => .int
  | 38 => .int
  | 39 => .int
  | 40 => .int
  | 41 => .int
  | 42 => .int
  | 43 => .array .byte
  | 44 => .int
  | 45 => .array .boolean
  | 46 => .array .int
  | 47 => .array .byte
  | 48 => .array .int
  | 49 => .array .int
  | 50 => .array .int
  | 51 => .array .int
  | 52 => .array .int
  | 53 => .array .int
  | 54 => .array .int
  | 55 => .array .int
  | 56 => .array .int
  | 57 => .array .byte
  | 58 => .array .int
  | 59 => .array .byte
  | 60 => .array .int
  | 61 => .array .byte
  | 62 => .array .int
  | 63 => .array .boolean
  | 64 => .array .byte
  | 65 => .array .int
  | 66 => .array .boolean
  | 67 => .array .int
  | 68 => .int
  | 69 => .int
  | 70 => .int
  | 71 => .array .int
  | 72 => .array .int
  | 73 => .array .int
  | 74 => .int
  | 75 => .array .byte
  | 76 => .int
  | 77 => .int
  | 78 => .array .byte
  | 79 => .int
  | 80 => .int
  | 81 => .array .byte
  | 82 => .array .int
  | 83 => .array .byte
  | 84 => .array .int
  | 85 => .int
  | 86 => .array .int
  | 87 => .array .byte
  | 88 => .array .byte
  | 89 => .int
  | 90 => .array .int
  | 91 => .array .int
  | 92 => .array .byte
  | 93 => .array .int
  | 94 => .array .int
  | 95 => .array .int
  | 96 => .array .byte
  | 97 => .array .int
  | 98 => .array .int
  | 99 => .array .int
  | 100 => .int
  | 101 => .array .byte
  | 102 => .array .int
  | 103 => .array .int
  | 104 => .int
  | 105 => .array .int
  | 106 => .int
  | 107 => .array .int
  | 108 => .array .boolean
  | 109 => .array .int
  | 110 => .array .int
  | 111 => .array .int
  | 112 => .array .int
  | 113 => .array .int
  | 114 => .array .int
  | 115 => .array .int
  | 116 => .array .int
  | 117 => .int
  | 118 => .array .int
  | 119 => .array .int
  | 120 => .array .int
  | 121 => .array .int
  | 122 => .array .int
  | 123 => .array .int
  | 124 => .array .int
  | 125 => .int
  | 126 => .boolean
  | 127 => .int
  | 128 => .int
  | 129 => .int
  | 130 => .int
  | 131 => .int
  | 132 => .int
  | 133 => .int
  | 134 => .array .int
  | 135 => .array .int
  | 136 => .int
  | 137 => .array .int
  | 138 => .array .int
  | 139 => .array .int
  | 140 => .array .int
  | 141 => .array .int
  | 142 => .array .int
  | 143 => .int
  | 144 => .boolean
  | 145 => .int
  | 146 => .int
  | 147 => .int
  | 148 => .int
  | 149 => .int
  | 150 => .int
  | 151 => .int
  | 152 => .boolean
  | 153 => .boolean
  | 154 => .boolean
  | 155 => .int
  | 156 => .int
  | 157 => .int
  | 158 => .int
  | 159 => .array .byte
  | 160 => .int
  | 161 => .int
  | 162 => .int
  | 163 => .boolean
  | 164 => .int
  | 165 => .int
  | 166 => .int
  | 167 => .int
  | 168 => .array .int
  | 169 => .array .int
  | 170 => .array .int
  | 171 => .array .int
  | 172 => .array .int
  | 173 => .array .byte
  | 174 => .int
  | 175 => .array .byte
  | 176 => .array .int
  | 177 => .array .int
  | 178 => .array .int
  | 179 => .array .int
  | 180 => .array .int
  | 181 => .int
  | 182 => .array .byte
  | 183 => .int
  | 184 => .array .int
  | _ => .int
set_option maxRecDepth 20000 in
theorem nmX12 : ∀ a, a < 186 → ∀ b, b < 186 → a ≠ b → (TX12 a).2.1 ≠ (TX12 b).2.1 := by decide +kernel
set_option maxRecDepth 20000 in
theorem tyX12_ok : ∀ k, k < 186 → parseFieldDescriptor (TX12 k).2.2.1 = some (tyX12 k) := by decide +kernel
abbrev vwCl : List vw_C := [(RX0, TX0, 20), (RX1, TX1, 8), (RX2, TX2, 8), (RX3, TX3, 20), (RX4, TX4, 3), (RX5, TX5, 20), (RX6, TX6, 20), (RX7, TX7, 17), (RX8, TX8, 12), (RX9, TX9, 15), (RX10, TX10, 8), (RX11, TX11, 10), (RX12, TX12, 186)]
