/-! the methods, by number; 1000: the law -/
def mM0 : ab_M := (⟨"BrowserHouse", "<init>", "()V"⟩, prog_1_method_1_code, 1, none, 7, 157, 11)
def mM1 : ab_M := (⟨"BrowserHouse$Bytes", "<init>", "(I)V"⟩, prog_6_method_1_code, 2, none, 1, 21, 4)
def mM2 : ab_M := (⟨"BrowserHouse$Tree", "<init>", "()V"⟩, prog_12_method_1_code, 3, none, 4, 85, 10)
def mM3 : ab_M := (⟨"BrowserHouse$Node", "<init>", "()V"⟩, prog_9_method_1_code, 2, none, 2, 42, 7)
def mM4 : ab_M := (⟨"BrowserHouse$Net", "<init>", "()V"⟩, prog_8_method_1_code, 3, none, 6, 135, 6)
def mM5 : ab_M := (⟨"BrowserHouse$Answer", "<init>", "()V"⟩, prog_4_method_1_code, 1, none, 2, 41, 2)
def mM6 : ab_M := (⟨"BrowserHouse$Address", "<init>", "()V"⟩, prog_3_method_1_code, 1, none, 1, 21, 1)
def mM7 : ab_M := (⟨"BrowserHouse$Bytes", "addText", "(Ljava/lang/String;)V"⟩, prog_6_method_5_code, 3, none, 4, 85, 4)
def mM8 : ab_M := (⟨"BrowserHouse$Bytes", "add", "(I)V"⟩, prog_6_method_3_code, 2, none, 2, 49, 4)
def mM9 : ab_M := (⟨"java/util/Arrays", "copyOf", "([BI)[B"⟩, prog_21_method_121_code, 3, (some (.array .byte)), 1, 27, 0)
def mM10 : ab_M := (⟨"BrowserHouse$Address", "read", "([BIILBrowserHouse$Address;)Z"⟩, prog_3_method_8_code, 7, (some .boolean), 5, 109, 1)
def mM11 : ab_M := (⟨"BrowserHouse$Bytes", "stands", "(Ljava/lang/String;[BII)Z"⟩, prog_6_method_21_code, 5, (some .boolean), 4, 85, 4)
def mM12 : ab_M := (⟨"BrowserHouse$Bytes", "isName", "([BII)Z"⟩, prog_6_method_16_code, 3, (some .boolean), 1, 25, 4)
def mM13 : ab_M := (⟨"BrowserHouse$Bytes", "nameEnd", "([BII)I"⟩, prog_6_method_15_code, 6, (some .int), 0, 0, 4)
def mM14 : ab_M := (⟨"BrowserHouse$Address", "takeSite", "([BII)V"⟩, prog_3_method_9_code, 4, none, 1, 27, 1)
def mM15 : ab_M := (⟨"BrowserHouse$Bytes", "pack", "([BII)J"⟩, prog_6_method_17_code, 6, (some .long), 0, 0, 4)
def mM16 : ab_M := (⟨"BrowserHouse$Address", "takePath", "([BII)V"⟩, prog_3_method_10_code, 4, none, 1, 27, 1)
def mM17 : ab_M := (⟨"BrowserHouse$Address", "readTail", "([BIILBrowserHouse$Address;)Z"⟩, prog_3_method_14_code, 6, (some .boolean), 1, 27, 1)
def mM18 : ab_M := (⟨"BrowserHouse$Address", "isSegmentByte", "(I)Z"⟩, prog_3_method_15_code, 1, (some .boolean), 0, 0, 1)
def mM19 : ab_M := (⟨"BrowserHouse$Address", "takeSegments", "([BIII)Z"⟩, prog_3_method_12_code, 7, (some .boolean), 2, 54, 1)
def mM20 : ab_M := (⟨"BrowserHouse$Address", "takeSegment", "([BIIZ)Z"⟩, prog_3_method_13_code, 8, (some .boolean), 1, 27, 1)
def mM21 : ab_M := (⟨"BrowserHouse$Address", "lastSlash", "()I"⟩, prog_3_method_11_code, 2, (some .int), 0, 0, 1)
def mM22 : ab_M := (⟨"BrowserHouse$Address", "copy", "(LBrowserHouse$Address;)V"⟩, prog_3_method_2_code, 2, none, 1, 27, 1)
def mM23 : ab_M := (⟨"BrowserHouse$Reader", "<init>", "(LBrowserHouse$Tree;)V"⟩, prog_10_method_1_code, 2, none, 3, 63, 8)
def mM24 : ab_M := (⟨"BrowserHouse$Sheet", "<init>", "(LBrowserHouse$Tree;)V"⟩, prog_11_method_1_code, 2, none, 5, 108, 9)
def mM25 : ab_M := (⟨"BrowserHouse$Bytes", "pack", "(Ljava/lang/String;)J"⟩, prog_6_method_19_code, 4, (some .long), 4, 85, 4)
def mM26 : ab_M := (⟨"BrowserHouse$Layout", "<init>", "(LBrowserHouse$Tree;LBrowserHouse$Sheet;)V"⟩, prog_7_method_1_code, 4, none, 2, 42, 5)
def mM27 : ab_M := (⟨"BrowserHouse$Box", "<init>", "()V"⟩, prog_5_method_1_code, 1, none, 1, 21, 3)
def mM28 : ab_M := (⟨"BrowserHouse$Acts", "<init>", "(LBrowserHouse$Tree;LBrowserHouse$Net;LBrowserHouse$Reader;)V"⟩, prog_2_method_1_code, 5, none, 2, 42, 0)
def mM29 : ab_M := (⟨"BrowserHouse$Tree", "clear", "()V"⟩, prog_12_method_3_code, 2, none, 2, 47, 10)
def mM30 : ab_M := (⟨"BrowserHouse$Tree", "grow", "(IIJ)I"⟩, prog_12_method_5_code, 8, (some .int), 1, 20, 10)
def mM31 : ab_M := (⟨"BrowserHouse$Bytes", "clear", "()V"⟩, prog_6_method_2_code, 1, none, 0, 0, 4)
def mM32 : ab_M := (⟨"BrowserHouse", "feed", "(IIIII)I"⟩, prog_1_method_2_code, 6, (some .int), 4, 92, 11)
def mM33 : ab_M := (⟨"BrowserHouse", "addFour", "(I)V"⟩, prog_1_method_3_code, 3, none, 3, 70, 11)
def mM34 : ab_M := (⟨"BrowserHouse", "end", "(I)I"⟩, prog_1_method_4_code, 2, (some .int), 0, 0, 11)
def mM35 : ab_M := (⟨"BrowserHouse", "out", "(I)I"⟩, prog_1_method_5_code, 2, (some .int), 0, 0, 11)
def mM36 : ab_M := (⟨"BrowserHouse", "resolve", "()I"⟩, prog_1_method_9_code, 3, (some .int), 6, 135, 11)
def mM37 : ab_M := (⟨"BrowserHouse", "wrongByte", "()I"⟩, prog_1_method_6_code, 3, (some .int), 0, 0, 11)
def mM38 : ab_M := (⟨"BrowserHouse", "showAddress", "(LBrowserHouse$Address;)I"⟩, prog_1_method_7_code, 2, (some .int), 3, 73, 11)
def mM39 : ab_M := (⟨"BrowserHouse$Bytes", "addAll", "([BII)V"⟩, prog_6_method_4_code, 5, none, 2, 49, 4)
def mM40 : ab_M := (⟨"BrowserHouse", "server", "()I"⟩, prog_1_method_10_code, 2, (some .int), 8, 184, 11)
def mM41 : ab_M := (⟨"BrowserHouse$Net", "takeServer", "([BI)I"⟩, prog_8_method_2_code, 7, (some .int), 7, 158, 6)
def mM42 : ab_M := (⟨"BrowserHouse$Net", "fieldEnd", "([BII)I"⟩, prog_8_method_3_code, 4, (some .int), 1, 20, 6)
def mM43 : ab_M := (⟨"BrowserHouse$Bytes", "isBlank", "(I)Z"⟩, prog_6_method_11_code, 1, (some .boolean), 0, 0, 4)
def mM44 : ab_M := (⟨"BrowserHouse$Address", "hasMark", "()Z"⟩, prog_3_method_3_code, 1, (some .boolean), 0, 0, 1)
def mM45 : ab_M := (⟨"BrowserHouse$Answer", "readField", "([BII)Z"⟩, prog_4_method_2_code, 4, (some .boolean), 6, 135, 2)
def mM46 : ab_M := (⟨"BrowserHouse$Bytes", "number", "([BII)I"⟩, prog_6_method_20_code, 5, (some .int), 1, 20, 4)
def mM47 : ab_M := (⟨"BrowserHouse$Bytes", "isDigit", "(I)Z"⟩, prog_6_method_13_code, 1, (some .boolean), 0, 0, 4)
def mM48 : ab_M := (⟨"BrowserHouse$Answer", "readCookie", "([BII)Z"⟩, prog_4_method_3_code, 5, (some .boolean), 2, 47, 2)
def mM49 : ab_M := (⟨"java/util/Arrays", "copyOfRange", "([BII)[B"⟩, prog_21_method_132_code, 3, (some (.array .byte)), 2, 51, 0)
def mM50 : ab_M := (⟨"java/util/Arrays", "copyOfRangeByte", "([BII)[B"⟩, prog_21_method_133_code, 5, (some (.array .byte)), 1, 27, 0)
def mM51 : ab_M := (⟨"java/util/Arrays", "checkLength", "(II)V"⟩, prog_21_method_131_code, 2, none, 0, 0, 0)
def mM52 : ab_M := (⟨"BrowserHouse$Net", "putAnswer", "(LBrowserHouse$Answer;)I"⟩, prog_8_method_4_code, 3, (some .int), 1, 22, 6)
def mM53 : ab_M := (⟨"BrowserHouse$Address", "isAt", "(LBrowserHouse$Address;)Z"⟩, prog_3_method_6_code, 3, (some .boolean), 0, 0, 1)
def mM54 : ab_M := (⟨"BrowserHouse", "visit", "()I"⟩, prog_1_method_11_code, 2, (some .int), 11, 259, 11)
def mM55 : ab_M := (⟨"BrowserHouse$Acts", "begin", "()V"⟩, prog_2_method_2_code, 1, none, 1, 20, 0)
def mM56 : ab_M := (⟨"BrowserHouse$Net", "aim", "([BII)Z"⟩, prog_8_method_13_code, 4, (some .boolean), 6, 135, 6)
def mM57 : ab_M := (⟨"BrowserHouse$Net", "setOff", "()V"⟩, prog_8_method_14_code, 1, none, 3, 70, 6)
def mM58 : ab_M := (⟨"BrowserHouse$Net", "pushHistory", "()V"⟩, prog_8_method_17_code, 3, none, 2, 48, 6)
def mM59 : ab_M := (⟨"BrowserHouse$Acts", "settle", "()V"⟩, prog_2_method_6_code, 3, none, 10, 237, 0)
def mM60 : ab_M := (⟨"BrowserHouse$Net", "arrive", "()LBrowserHouse$Answer;"⟩, prog_8_method_16_code, 2, (some (.object "BrowserHouse$Answer")), 7, 160, 6)
def mM61 : ab_M := (⟨"BrowserHouse$Net", "fetch", "(LBrowserHouse$Address;)LBrowserHouse$Answer;"⟩, prog_8_method_5_code, 4, (some (.object "BrowserHouse$Answer")), 6, 137, 6)
def mM62 : ab_M := (⟨"BrowserHouse$Address", "dropMark", "()V"⟩, prog_3_method_4_code, 1, none, 0, 0, 1)
def mM63 : ab_M := (⟨"BrowserHouse$Net", "ask", "()LBrowserHouse$Answer;"⟩, prog_8_method_6_code, 3, (some (.object "BrowserHouse$Answer")), 5, 115, 6)
def mM64 : ab_M := (⟨"BrowserHouse$Net", "listCookies", "()V"⟩, prog_8_method_7_code, 2, none, 4, 94, 6)
def mM65 : ab_M := (⟨"BrowserHouse$Bytes", "addPacked", "(J)V"⟩, prog_6_method_6_code, 5, none, 3, 70, 4)
def mM66 : ab_M := (⟨"BrowserHouse$Net", "putRow", "([JIJJJ)I"⟩, prog_8_method_10_code, 9, (some .int), 1, 26, 6)
def mM67 : ab_M := (⟨"BrowserHouse$Net", "rowOf", "([JIJJ)I"⟩, prog_8_method_9_code, 7, (some .int), 0, 0, 6)
def mM68 : ab_M := (⟨"BrowserHouse$Net", "keep", "(LBrowserHouse$Answer;)V"⟩, prog_8_method_8_code, 4, none, 1, 22, 6)
def mM69 : ab_M := (⟨"BrowserHouse$Address", "takeMark", "(LBrowserHouse$Address;)V"⟩, prog_3_method_5_code, 3, none, 1, 27, 1)
def mM70 : ab_M := (⟨"BrowserHouse$Reader", "read", "([BI)V"⟩, prog_10_method_2_code, 5, none, 9, 213, 8)
def mM71 : ab_M := (⟨"BrowserHouse$Reader", "readRaw", "()V"⟩, prog_10_method_7_code, 2, none, 8, 183, 8)
def mM72 : ab_M := (⟨"BrowserHouse$Reader", "addRun", "(IIZ)V"⟩, prog_10_method_9_code, 7, none, 7, 157, 8)
def mM73 : ab_M := (⟨"BrowserHouse$Reader", "isBlankRun", "(II)Z"⟩, prog_10_method_10_code, 4, (some .boolean), 1, 20, 8)
def mM74 : ab_M := (⟨"BrowserHouse$Tree", "hasRoom", "(I)Z"⟩, prog_12_method_4_code, 2, (some .boolean), 0, 0, 10)
def mM75 : ab_M := (⟨"BrowserHouse$Reader", "tell", "(II)V"⟩, prog_10_method_3_code, 3, none, 0, 0, 8)
def mM76 : ab_M := (⟨"BrowserHouse$Reader", "decode", "(IIZLBrowserHouse$Bytes;)I"⟩, prog_10_method_11_code, 7, (some .int), 6, 131, 8)
def mM77 : ab_M := (⟨"BrowserHouse$Reader", "entityLength", "(II)I"⟩, prog_10_method_12_code, 3, (some .int), 5, 109, 8)
def mM78 : ab_M := (⟨"BrowserHouse$Reader", "entityByte", "(I)I"⟩, prog_10_method_13_code, 2, (some .int), 0, 0, 8)
def mM79 : ab_M := (⟨"BrowserHouse$Reader", "isTag", "(I)Z"⟩, prog_10_method_4_code, 2, (some .boolean), 1, 20, 8)
def mM80 : ab_M := (⟨"BrowserHouse$Bytes", "isLetter", "(I)Z"⟩, prog_6_method_14_code, 1, (some .boolean), 0, 0, 4)
def mM81 : ab_M := (⟨"BrowserHouse$Reader", "readTag", "()V"⟩, prog_10_method_14_code, 9, none, 8, 185, 8)
def mM82 : ab_M := (⟨"BrowserHouse$Bytes", "packSmall", "([BII)J"⟩, prog_6_method_18_code, 7, (some .long), 0, 0, 4)
def mM83 : ab_M := (⟨"BrowserHouse$Reader", "readAttribute", "(IZ)I"⟩, prog_10_method_15_code, 9, (some .int), 7, 157, 8)
def mM84 : ab_M := (⟨"BrowserHouse$Reader", "quoteEnd", "(II)I"⟩, prog_10_method_16_code, 4, (some .int), 0, 0, 8)
def mM85 : ab_M := (⟨"BrowserHouse$Reader", "plainEnd", "(I)I"⟩, prog_10_method_17_code, 3, (some .int), 1, 20, 8)
def mM86 : ab_M := (⟨"BrowserHouse$Node", "find", "(J)LBrowserHouse$Bytes;"⟩, prog_9_method_2_code, 4, (some (.object "BrowserHouse$Bytes")), 0, 0, 7)
def mM87 : ab_M := (⟨"BrowserHouse$Node", "addAttribute", "(J)LBrowserHouse$Bytes;"⟩, prog_9_method_4_code, 4, (some (.object "BrowserHouse$Bytes")), 1, 20, 7)
def mM88 : ab_M := (⟨"BrowserHouse$Reader", "endTag", "(JI)V"⟩, prog_10_method_19_code, 5, none, 2, 44, 8)
def mM89 : ab_M := (⟨"BrowserHouse$Reader", "closeTo", "(I)V"⟩, prog_10_method_22_code, 3, none, 1, 22, 8)
def mM90 : ab_M := (⟨"BrowserHouse$Reader", "startTag", "(JI)V"⟩, prog_10_method_18_code, 8, none, 7, 152, 8)
def mM91 : ab_M := (⟨"BrowserHouse$Tree", "tagOf", "(J)I"⟩, prog_12_method_2_code, 4, (some .int), 0, 0, 10)
def mM92 : ab_M := (⟨"BrowserHouse$Reader", "closeTag", "(I)Z"⟩, prog_10_method_21_code, 3, (some .boolean), 2, 44, 8)
def mM93 : ab_M := (⟨"BrowserHouse$Reader", "openOf", "(I)I"⟩, prog_10_method_20_code, 3, (some .int), 0, 0, 8)
def mM94 : ab_M := (⟨"BrowserHouse$Node", "copyAttributes", "(LBrowserHouse$Node;)V"⟩, prog_9_method_5_code, 3, none, 3, 73, 7)
def mM95 : ab_M := (⟨"BrowserHouse$Node", "startInput", "()V"⟩, prog_9_method_8_code, 3, none, 6, 130, 7)
def mM96 : ab_M := (⟨"BrowserHouse$Node", "setValue", "([BII)V"⟩, prog_9_method_9_code, 4, none, 3, 73, 7)
def mM97 : ab_M := (⟨"BrowserHouse$Bytes", "is", "(Ljava/lang/String;)Z"⟩, prog_6_method_9_code, 2, (some .boolean), 5, 109, 4)
def mM98 : ab_M := (⟨"BrowserHouse$Node", "isEmptyTag", "()Z"⟩, prog_9_method_6_code, 1, (some .boolean), 0, 0, 7)
def mM99 : ab_M := (⟨"BrowserHouse$Reader", "isComment", "(I)Z"⟩, prog_10_method_5_code, 2, (some .boolean), 5, 109, 8)
def mM100 : ab_M := (⟨"BrowserHouse$Reader", "readComment", "()V"⟩, prog_10_method_6_code, 2, none, 5, 109, 8)
def mM101 : ab_M := (⟨"BrowserHouse$Reader", "readText", "()V"⟩, prog_10_method_8_code, 2, none, 8, 183, 8)
def mM102 : ab_M := (⟨"BrowserHouse$Acts", "startPage", "()V"⟩, prog_2_method_5_code, 3, none, 6, 129, 0)
def mM103 : ab_M := (⟨"BrowserHouse$Tree", "list", "()V"⟩, prog_12_method_10_code, 4, none, 0, 0, 10)
def mM104 : ab_M := (⟨"BrowserHouse$Node", "read", "(Ljava/lang/String;)LBrowserHouse$Bytes;"⟩, prog_9_method_3_code, 2, (some (.object "BrowserHouse$Bytes")), 5, 108, 7)
def mM105 : ab_M := (⟨"BrowserHouse$Tree", "markOf", "(I)J"⟩, prog_12_method_15_code, 2, (some .long), 0, 0, 10)
def mM106 : ab_M := (⟨"BrowserHouse$Acts", "finishGet", "()V"⟩, prog_2_method_17_code, 3, none, 7, 160, 0)
def mM107 : ab_M := (⟨"BrowserHouse$Tree", "setText", "(I[BII)V"⟩, prog_12_method_8_code, 7, none, 3, 73, 10)
def mM108 : ab_M := (⟨"BrowserHouse$Tree", "free", "(II)V"⟩, prog_12_method_7_code, 4, none, 0, 0, 10)
def mM109 : ab_M := (⟨"BrowserHouse$Acts", "runNext", "()V"⟩, prog_2_method_9_code, 3, none, 9, 210, 0)
def mM110 : ab_M := (⟨"BrowserHouse$Acts", "runStep", "([BII)Z"⟩, prog_2_method_11_code, 6, (some .boolean), 8, 185, 0)
def mM111 : ab_M := (⟨"BrowserHouse$Acts", "blankAt", "([BII)I"⟩, prog_2_method_10_code, 4, (some .int), 0, 0, 0)
def mM112 : ab_M := (⟨"BrowserHouse$Bytes", "wordPlace", "(Ljava/lang/String;[BII)I"⟩, prog_6_method_22_code, 9, (some .int), 4, 85, 4)
def mM113 : ab_M := (⟨"BrowserHouse$Acts", "runPut", "([BII)Z"⟩, prog_2_method_12_code, 5, (some .boolean), 3, 78, 0)
def mM114 : ab_M := (⟨"BrowserHouse$Net", "putStore", "(JJ)V"⟩, prog_8_method_11_code, 5, none, 2, 54, 6)
def mM115 : ab_M := (⟨"BrowserHouse$Acts", "runWait", "([BII)Z"⟩, prog_2_method_13_code, 6, (some .boolean), 3, 73, 0)
def mM116 : ab_M := (⟨"BrowserHouse$Acts", "runOnNode", "(I[BII)Z"⟩, prog_2_method_14_code, 7, (some .boolean), 7, 159, 0)
def mM117 : ab_M := (⟨"BrowserHouse$Acts", "nodeCalled", "([BII)I"⟩, prog_2_method_15_code, 6, (some .int), 6, 134, 0)
def mM118 : ab_M := (⟨"BrowserHouse$Tree", "alive", "(J)I"⟩, prog_12_method_16_code, 5, (some .int), 0, 0, 10)
def mM119 : ab_M := (⟨"BrowserHouse$Tree", "findId", "(J)I"⟩, prog_12_method_13_code, 7, (some .int), 5, 108, 10)
def mM120 : ab_M := (⟨"BrowserHouse$Bytes", "packed", "()J"⟩, prog_6_method_8_code, 4, (some .long), 0, 0, 4)
def mM121 : ab_M := (⟨"BrowserHouse$Tree", "remove", "(I)V"⟩, prog_12_method_6_code, 6, none, 1, 23, 10)
def mM122 : ab_M := (⟨"BrowserHouse$Tree", "setClass", "(I[BII)V"⟩, prog_12_method_9_code, 9, none, 5, 108, 10)
def mM123 : ab_M := (⟨"BrowserHouse$Acts", "runAdd", "(I[BII)Z"⟩, prog_2_method_16_code, 7, (some .boolean), 2, 47, 0)
def mM124 : ab_M := (⟨"BrowserHouse$Acts", "lookUp", "([BII)Z"⟩, prog_2_method_18_code, 4, (some .boolean), 4, 94, 0)
def mM125 : ab_M := (⟨"BrowserHouse$Net", "readStore", "(J)J"⟩, prog_8_method_12_code, 4, (some .long), 1, 26, 6)
def mM126 : ab_M := (⟨"BrowserHouse$Acts", "listenNext", "()V"⟩, prog_2_method_7_code, 6, none, 6, 129, 0)
def mM127 : ab_M := (⟨"BrowserHouse$Acts", "startScript", "(LBrowserHouse$Bytes;J)V"⟩, prog_2_method_3_code, 4, none, 3, 73, 0)
def mM128 : ab_M := (⟨"BrowserHouse$Acts", "doDefault", "()V"⟩, prog_2_method_19_code, 5, none, 8, 184, 0)
def mM129 : ab_M := (⟨"BrowserHouse$Acts", "typeKey", "(I)V"⟩, prog_2_method_21_code, 4, none, 7, 161, 0)
def mM130 : ab_M := (⟨"BrowserHouse$Bytes", "dropLast", "()V"⟩, prog_6_method_7_code, 1, none, 0, 0, 4)
def mM131 : ab_M := (⟨"BrowserHouse$Tree", "around", "(II)I"⟩, prog_12_method_14_code, 4, (some .int), 0, 0, 10)
def mM132 : ab_M := (⟨"BrowserHouse$Acts", "send", "(I)V"⟩, prog_2_method_22_code, 7, none, 6, 135, 0)
def mM133 : ab_M := (⟨"BrowserHouse$Bytes", "isNameWhole", "()Z"⟩, prog_6_method_10_code, 1, (some .boolean), 2, 47, 4)
def mM134 : ab_M := (⟨"BrowserHouse$Acts", "addSent", "(LBrowserHouse$Node;)V"⟩, prog_2_method_23_code, 4, none, 5, 107, 0)
def mM135 : ab_M := (⟨"BrowserHouse$Address", "replaceQuery", "(LBrowserHouse$Bytes;)V"⟩, prog_3_method_7_code, 5, none, 1, 27, 1)
def mM136 : ab_M := (⟨"BrowserHouse$Acts", "pressOn", "(I)Z"⟩, prog_2_method_20_code, 4, (some .boolean), 7, 161, 0)
def mM137 : ab_M := (⟨"BrowserHouse", "page", "()I"⟩, prog_1_method_12_code, 2, (some .int), 11, 259, 11)
def mM138 : ab_M := (⟨"BrowserHouse", "history", "(I)I"⟩, prog_1_method_13_code, 2, (some .int), 11, 259, 11)
def mM139 : ab_M := (⟨"BrowserHouse$Net", "move", "(I)Z"⟩, prog_8_method_15_code, 4, (some .boolean), 2, 48, 6)
def mM140 : ab_M := (⟨"BrowserHouse", "write", "(I)I"⟩, prog_1_method_14_code, 2, (some .int), 4, 94, 11)
def mM141 : ab_M := (⟨"BrowserHouse", "showBytes", "(LBrowserHouse$Bytes;)I"⟩, prog_1_method_8_code, 2, (some .int), 3, 73, 11)
def mM142 : ab_M := (⟨"BrowserHouse", "tick", "(I)I"⟩, prog_1_method_15_code, 4, (some .int), 11, 259, 11)
def mM143 : ab_M := (⟨"BrowserHouse$Acts", "takeDueTask", "()Z"⟩, prog_2_method_8_code, 4, (some .boolean), 4, 96, 0)
def mM144 : ab_M := (⟨"BrowserHouse", "node", "(II)I"⟩, prog_1_method_19_code, 4, (some .int), 1, 23, 11)
def mM145 : ab_M := (⟨"BrowserHouse", "isNode", "(I)Z"⟩, prog_1_method_16_code, 2, (some .boolean), 0, 0, 11)
def mM146 : ab_M := (⟨"BrowserHouse$Tree", "rankOf", "(I)I"⟩, prog_12_method_12_code, 4, (some .int), 0, 0, 10)
def mM147 : ab_M := (⟨"BrowserHouse", "kid", "(II)I"⟩, prog_1_method_20_code, 3, (some .int), 1, 24, 11)
def mM148 : ab_M := (⟨"BrowserHouse$Tree", "kidAt", "(II)I"⟩, prog_12_method_11_code, 5, (some .int), 0, 0, 10)
def mM149 : ab_M := (⟨"BrowserHouse", "name", "(I)I"⟩, prog_1_method_21_code, 3, (some .int), 4, 94, 11)
def mM150 : ab_M := (⟨"BrowserHouse", "attribute", "(I)I"⟩, prog_1_method_22_code, 4, (some .int), 5, 118, 11)
def mM151 : ab_M := (⟨"BrowserHouse", "showAttribute", "(IJ)I"⟩, prog_1_method_23_code, 5, (some .int), 4, 94, 11)
def mM152 : ab_M := (⟨"BrowserHouse", "isElement", "(I)Z"⟩, prog_1_method_17_code, 2, (some .boolean), 1, 21, 11)
def mM153 : ab_M := (⟨"BrowserHouse", "serialise", "(I)I"⟩, prog_1_method_24_code, 2, (some .int), 8, 178, 11)
def mM154 : ab_M := (⟨"BrowserHouse$Tree", "print", "(ILBrowserHouse$Bytes;)V"⟩, prog_12_method_17_code, 6, none, 7, 153, 10)
def mM155 : ab_M := (⟨"BrowserHouse$Tree", "printStart", "(ILBrowserHouse$Bytes;)V"⟩, prog_12_method_18_code, 5, none, 6, 129, 10)
def mM156 : ab_M := (⟨"BrowserHouse$Tree", "printMasked", "(LBrowserHouse$Bytes;LBrowserHouse$Bytes;)V"⟩, prog_12_method_20_code, 3, none, 5, 107, 10)
def mM157 : ab_M := (⟨"BrowserHouse$Tree", "printEnd", "(LBrowserHouse$Node;LBrowserHouse$Bytes;)V"⟩, prog_12_method_19_code, 2, none, 5, 107, 10)
def mM158 : ab_M := (⟨"BrowserHouse", "fault", "(II)I"⟩, prog_1_method_25_code, 3, (some .int), 1, 22, 11)
def mM159 : ab_M := (⟨"BrowserHouse", "select", "()I"⟩, prog_1_method_26_code, 3, (some .int), 5, 119, 11)
def mM160 : ab_M := (⟨"BrowserHouse$Sheet", "readSelector", "([BIII)I"⟩, prog_11_method_12_code, 8, (some .int), 2, 53, 9)
def mM161 : ab_M := (⟨"BrowserHouse$Sheet", "readPart", "([BIII)I"⟩, prog_11_method_13_code, 9, (some .int), 1, 25, 9)
def mM162 : ab_M := (⟨"BrowserHouse$Sheet", "skipBlanks", "([BII)I"⟩, prog_11_method_4_code, 4, (some .int), 1, 20, 9)
def mM163 : ab_M := (⟨"BrowserHouse", "listMatches", "()I"⟩, prog_1_method_27_code, 3, (some .int), 4, 97, 11)
def mM164 : ab_M := (⟨"BrowserHouse$Sheet", "isMatch", "(II)Z"⟩, prog_11_method_14_code, 5, (some .boolean), 3, 73, 9)
def mM165 : ab_M := (⟨"BrowserHouse$Sheet", "isPartMatch", "(ILBrowserHouse$Node;)Z"⟩, prog_11_method_15_code, 5, (some .boolean), 2, 49, 9)
def mM166 : ab_M := (⟨"BrowserHouse$Sheet", "hasWord", "(LBrowserHouse$Bytes;J)Z"⟩, prog_11_method_16_code, 5, (some .boolean), 1, 25, 9)
def mM167 : ab_M := (⟨"BrowserHouse", "found", "(I)I"⟩, prog_1_method_28_code, 2, (some .int), 0, 0, 11)
def mM168 : ab_M := (⟨"BrowserHouse", "style", "(II)I"⟩, prog_1_method_29_code, 4, (some .int), 10, 246, 11)
def mM169 : ab_M := (⟨"BrowserHouse$Sheet", "refresh", "()V"⟩, prog_11_method_2_code, 3, none, 9, 224, 9)
def mM170 : ab_M := (⟨"BrowserHouse$Sheet", "readSheet", "([BI)V"⟩, prog_11_method_6_code, 7, none, 8, 198, 9)
def mM171 : ab_M := (⟨"BrowserHouse$Sheet", "indexOf", "([BIII)I"⟩, prog_11_method_3_code, 5, (some .int), 0, 0, 9)
def mM172 : ab_M := (⟨"BrowserHouse$Sheet", "areSelectors", "([BII)Z"⟩, prog_11_method_7_code, 7, (some .boolean), 4, 105, 9)
def mM173 : ab_M := (⟨"BrowserHouse$Sheet", "takeSelector", "([BIII)Z"⟩, prog_11_method_8_code, 6, (some .boolean), 3, 80, 9)
def mM174 : ab_M := (⟨"BrowserHouse$Sheet", "trimBlanks", "([BII)I"⟩, prog_11_method_5_code, 4, (some .int), 1, 20, 9)
def mM175 : ab_M := (⟨"BrowserHouse$Sheet", "readRule", "([BIII)V"⟩, prog_11_method_9_code, 9, none, 7, 170, 9)
def mM176 : ab_M := (⟨"java/util/Arrays", "fill", "([IIII)V"⟩, prog_21_method_104_code, 5, none, 1, 22, 0)
def mM177 : ab_M := (⟨"java/util/Arrays", "rangeCheck", "(III)V"⟩, prog_21_method_30_code, 3, none, 0, 0, 0)
def mM178 : ab_M := (⟨"BrowserHouse$Sheet", "readDeclaration", "([BIII)V"⟩, prog_11_method_10_code, 14, none, 6, 137, 9)
def mM179 : ab_M := (⟨"BrowserHouse$Bytes", "isSmall", "(I)Z"⟩, prog_6_method_12_code, 1, (some .boolean), 0, 0, 4)
def mM180 : ab_M := (⟨"BrowserHouse$Sheet", "readValue", "(I[BII)I"⟩, prog_11_method_11_code, 5, (some .int), 5, 113, 9)
def mM181 : ab_M := (⟨"BrowserHouse$Sheet", "cascade", "(I)V"⟩, prog_11_method_17_code, 5, none, 4, 97, 9)
def mM182 : ab_M := (⟨"BrowserHouse$Sheet", "usual", "(LBrowserHouse$Node;I)I"⟩, prog_11_method_19_code, 4, (some .int), 0, 0, 9)
def mM183 : ab_M := (⟨"BrowserHouse$Sheet", "apply", "(II)V"⟩, prog_11_method_18_code, 6, none, 0, 0, 9)
def mM184 : ab_M := (⟨"BrowserHouse$Node", "isPieceTag", "()Z"⟩, prog_9_method_7_code, 1, (some .boolean), 0, 0, 7)
def mM185 : ab_M := (⟨"BrowserHouse", "screen", "(I)I"⟩, prog_1_method_30_code, 2, (some .int), 1, 21, 11)
def mM186 : ab_M := (⟨"BrowserHouse$Layout", "resize", "(I)V"⟩, prog_7_method_2_code, 2, none, 0, 0, 5)
def mM187 : ab_M := (⟨"BrowserHouse", "box", "(II)I"⟩, prog_1_method_31_code, 4, (some .int), 10, 246, 11)
def mM188 : ab_M := (⟨"BrowserHouse$Layout", "refresh", "()V"⟩, prog_7_method_3_code, 3, none, 7, 176, 5)
def mM189 : ab_M := (⟨"BrowserHouse$Layout", "measure", "(I)V"⟩, prog_7_method_5_code, 5, none, 5, 123, 5)
def mM190 : ab_M := (⟨"BrowserHouse$Layout", "kindOf", "(ILBrowserHouse$Node;)I"⟩, prog_7_method_6_code, 6, (some .int), 1, 22, 5)
def mM191 : ab_M := (⟨"BrowserHouse$Layout", "look", "(II)I"⟩, prog_7_method_4_code, 3, (some .int), 0, 0, 5)
def mM192 : ab_M := (⟨"BrowserHouse$Layout", "listWords", "(ILBrowserHouse$Bytes;LBrowserHouse$Box;)V"⟩, prog_7_method_7_code, 7, none, 3, 74, 5)
def mM193 : ab_M := (⟨"BrowserHouse$Bytes", "glyphWidth", "(I)I"⟩, prog_6_method_23_code, 1, (some .int), 0, 0, 4)
def mM194 : ab_M := (⟨"BrowserHouse$Layout", "addWord", "(IIII)V"⟩, prog_7_method_8_code, 6, none, 2, 49, 5)
def mM195 : ab_M := (⟨"java/util/Arrays", "copyOf", "([II)[I"⟩, prog_21_method_123_code, 3, (some (.array .int)), 1, 27, 0)
def mM196 : ab_M := (⟨"BrowserHouse$Layout", "measurePiece", "(IILBrowserHouse$Box;)V"⟩, prog_7_method_10_code, 5, none, 4, 98, 5)
def mM197 : ab_M := (⟨"BrowserHouse$Layout", "widthTold", "(II)I"⟩, prog_7_method_9_code, 6, (some .int), 2, 42, 5)
def mM198 : ab_M := (⟨"BrowserHouse$Box", "innerWidth", "()I"⟩, prog_5_method_4_code, 1, (some .int), 1, 22, 3)
def mM199 : ab_M := (⟨"BrowserHouse$Layout", "textWidth", "(II)I"⟩, prog_7_method_12_code, 9, (some .int), 3, 70, 5)
def mM200 : ab_M := (⟨"BrowserHouse$Layout", "measureBlock", "(ILBrowserHouse$Box;)V"⟩, prog_7_method_11_code, 6, none, 4, 98, 5)
def mM201 : ab_M := (⟨"BrowserHouse$Layout", "joinMargins", "(I)V"⟩, prog_7_method_13_code, 8, none, 1, 22, 5)
def mM202 : ab_M := (⟨"BrowserHouse$Box", "isBlockInFlow", "()Z"⟩, prog_5_method_3_code, 1, (some .boolean), 0, 0, 3)
def mM203 : ab_M := (⟨"BrowserHouse$Layout", "layFlex", "(I)V"⟩, prog_7_method_15_code, 7, none, 2, 46, 5)
def mM204 : ab_M := (⟨"BrowserHouse$Layout", "setHeight", "(ILBrowserHouse$Box;I)V"⟩, prog_7_method_14_code, 5, none, 1, 22, 5)
def mM205 : ab_M := (⟨"BrowserHouse$Layout", "layFlow", "(I)V"⟩, prog_7_method_16_code, 11, none, 6, 146, 5)
def mM206 : ab_M := (⟨"BrowserHouse$Layout", "startFlow", "(LBrowserHouse$Box;)V"⟩, prog_7_method_17_code, 2, none, 2, 46, 5)
def mM207 : ab_M := (⟨"BrowserHouse$Layout", "openAt", "(I)V"⟩, prog_7_method_22_code, 5, none, 1, 22, 5)
def mM208 : ab_M := (⟨"BrowserHouse$Layout", "closeLine", "()V"⟩, prog_7_method_21_code, 7, none, 3, 70, 5)
def mM209 : ab_M := (⟨"BrowserHouse$Layout", "wordHeight", "(I)I"⟩, prog_7_method_23_code, 2, (some .int), 0, 0, 5)
def mM210 : ab_M := (⟨"BrowserHouse$Layout", "putFloat", "(LBrowserHouse$Box;)V"⟩, prog_7_method_24_code, 5, none, 2, 46, 5)
def mM211 : ab_M := (⟨"BrowserHouse$Layout", "putWords", "(LBrowserHouse$Bytes;LBrowserHouse$Box;)V"⟩, prog_7_method_19_code, 6, none, 5, 121, 5)
def mM212 : ab_M := (⟨"BrowserHouse$Layout", "putItem", "(III)V"⟩, prog_7_method_20_code, 6, none, 4, 96, 5)
def mM213 : ab_M := (⟨"BrowserHouse$Layout", "layInLines", "(ILBrowserHouse$Box;)V"⟩, prog_7_method_18_code, 3, none, 5, 121, 5)
def mM214 : ab_M := (⟨"BrowserHouse$Layout", "moveToHolder", "(LBrowserHouse$Box;)V"⟩, prog_7_method_25_code, 4, none, 0, 0, 5)
def mM215 : ab_M := (⟨"BrowserHouse$Box", "isPainted", "()Z"⟩, prog_5_method_2_code, 1, (some .boolean), 0, 0, 3)
def mM216 : ab_M := (⟨"BrowserHouse", "word", "(II)I"⟩, prog_1_method_32_code, 3, (some .int), 10, 246, 11)
def mM217 : ab_M := (⟨"BrowserHouse", "point", "(II)I"⟩, prog_1_method_33_code, 3, (some .int), 10, 246, 11)
def mM218 : ab_M := (⟨"BrowserHouse$Layout", "isInPicture", "(II)Z"⟩, prog_7_method_27_code, 3, (some .boolean), 2, 42, 5)
def mM219 : ab_M := (⟨"BrowserHouse$Layout", "pictureHeight", "()I"⟩, prog_7_method_26_code, 1, (some .int), 1, 22, 5)
def mM220 : ab_M := (⟨"BrowserHouse$Layout", "colorAt", "(II)I"⟩, prog_7_method_30_code, 6, (some .int), 5, 125, 5)
def mM221 : ab_M := (⟨"BrowserHouse$Box", "colorAt", "(II)I"⟩, prog_5_method_6_code, 3, (some .int), 1, 23, 3)
def mM222 : ab_M := (⟨"BrowserHouse$Box", "holds", "(III)Z"⟩, prog_5_method_5_code, 4, (some .boolean), 0, 0, 3)
def mM223 : ab_M := (⟨"BrowserHouse$Layout", "pieceColorAt", "(III)I"⟩, prog_7_method_32_code, 8, (some .int), 4, 98, 5)
def mM224 : ab_M := (⟨"BrowserHouse$Layout", "isLetterOn", "(LBrowserHouse$Bytes;IIIII)Z"⟩, prog_7_method_33_code, 11, (some .boolean), 2, 45, 5)
def mM225 : ab_M := (⟨"BrowserHouse$Layout", "isGlyphOn", "(IIII)Z"⟩, prog_7_method_34_code, 6, (some .boolean), 1, 20, 5)
def mM226 : ab_M := (⟨"BrowserHouse$Layout", "wordColorAt", "(III)I"⟩, prog_7_method_31_code, 10, (some .int), 3, 75, 5)
def mM227 : ab_M := (⟨"BrowserHouse$Layout", "wordAt", "(LBrowserHouse$Box;II)I"⟩, prog_7_method_29_code, 7, (some .int), 0, 0, 5)
def mM228 : ab_M := (⟨"BrowserHouse", "top", "(II)I"⟩, prog_1_method_34_code, 3, (some .int), 10, 246, 11)
def mM229 : ab_M := (⟨"BrowserHouse$Layout", "nodeAt", "(II)I"⟩, prog_7_method_28_code, 6, (some .int), 3, 64, 5)
def mM230 : ab_M := (⟨"BrowserHouse", "press", "(II)I"⟩, prog_1_method_35_code, 4, (some .int), 11, 259, 11)
def mM231 : ab_M := (⟨"BrowserHouse$Acts", "startEvent", "(II)V"⟩, prog_2_method_4_code, 4, none, 1, 21, 0)
def mM232 : ab_M := (⟨"BrowserHouse", "key", "(I)I"⟩, prog_1_method_36_code, 3, (some .int), 11, 259, 11)
def mM233 : ab_M := (⟨"BrowserHouse", "script", "()I"⟩, prog_1_method_37_code, 3, (some .int), 11, 259, 11)
def mM234 : ab_M := (⟨"BrowserHouse", "value", "(I)I"⟩, prog_1_method_38_code, 2, (some .int), 4, 94, 11)
def mM235 : ab_M := (⟨"BrowserHouse", "isInput", "(I)Z"⟩, prog_1_method_18_code, 2, (some .boolean), 1, 21, 11)
def mM236 : ab_M := (⟨"BrowserHouse", "checked", "(I)I"⟩, prog_1_method_39_code, 2, (some .int), 2, 42, 11)
def mM237 : ab_M := (⟨"BrowserHouse", "count", "(I)I"⟩, prog_1_method_40_code, 2, (some .int), 10, 246, 11)
def mM238 : ab_M := (⟨"BrowserHouse", "countOfNet", "(I)I"⟩, prog_1_method_41_code, 2, (some .int), 0, 0, 11)
def mM239 : ab_M := (⟨"BrowserHouseModel", "server", "()I"⟩, prog_14_method_31_code, 5, (some .int), 6, 140, 12)
def mM240 : ab_M := (⟨"BrowserHouseModel", "take", "()I"⟩, prog_14_method_3_code, 3, (some .int), 0, 0, 12)
def mM241 : ab_M := (⟨"BrowserHouseModel", "wrong", "(I)I"⟩, prog_14_method_4_code, 1, (some .int), 0, 0, 12)
def mM242 : ab_M := (⟨"BrowserHouseModel", "tokenEnd", "(I)I"⟩, prog_14_method_29_code, 3, (some .int), 1, 20, 12)
def mM243 : ab_M := (⟨"BrowserHouseModel", "isBlank", "(I)Z"⟩, prog_14_method_9_code, 1, (some .boolean), 0, 0, 12)
def mM244 : ab_M := (⟨"BrowserHouseModel", "refer", "([BIII)Z"⟩, prog_14_method_26_code, 8, (some .boolean), 4, 86, 12)
def mM245 : ab_M := (⟨"BrowserHouseModel", "nameEnd", "([BII)I"⟩, prog_14_method_10_code, 4, (some .int), 1, 20, 12)
def mM246 : ab_M := (⟨"BrowserHouseModel", "isSmall", "(I)Z"⟩, prog_14_method_5_code, 1, (some .boolean), 0, 0, 12)
def mM247 : ab_M := (⟨"BrowserHouseModel", "isDigit", "(I)Z"⟩, prog_14_method_6_code, 1, (some .boolean), 0, 0, 12)
def mM248 : ab_M := (⟨"BrowserHouseModel", "put", "(II)V"⟩, prog_14_method_19_code, 3, none, 0, 0, 12)
def mM249 : ab_M := (⟨"BrowserHouseModel", "segments", "([BI)Z"⟩, prog_14_method_23_code, 3, (some .boolean), 3, 63, 12)
def mM250 : ab_M := (⟨"BrowserHouseModel", "oneSegment", "([BI)Z"⟩, prog_14_method_24_code, 4, (some .boolean), 2, 40, 12)
def mM251 : ab_M := (⟨"BrowserHouseModel", "isSegment", "(I)Z"⟩, prog_14_method_20_code, 1, (some .boolean), 1, 20, 12)
def mM252 : ab_M := (⟨"BrowserHouseModel", "segment", "([BII)V"⟩, prog_14_method_22_code, 5, none, 0, 0, 12)
def mM253 : ab_M := (⟨"BrowserHouseModel", "siteEnd", "(I)I"⟩, prog_14_method_16_code, 3, (some .int), 0, 0, 12)
def mM254 : ab_M := (⟨"BrowserHouseModel", "baseSegments", "(IZ)V"⟩, prog_14_method_25_code, 6, none, 1, 24, 12)
def mM255 : ab_M := (⟨"BrowserHouseModel", "queryAt", "(I)I"⟩, prog_14_method_18_code, 3, (some .int), 0, 0, 12)
def mM256 : ab_M := (⟨"BrowserHouseModel", "query", "([BIIZ)Z"⟩, prog_14_method_27_code, 7, (some .boolean), 3, 60, 12)
def mM257 : ab_M := (⟨"BrowserHouseModel", "isQuery", "(I)Z"⟩, prog_14_method_21_code, 1, (some .boolean), 2, 40, 12)
def mM258 : ab_M := (⟨"BrowserHouseModel", "copyRow", "(II)V"⟩, prog_14_method_14_code, 4, none, 0, 0, 12)
def mM259 : ab_M := (⟨"BrowserHouseModel", "field", "(II)Z"⟩, prog_14_method_30_code, 8, (some .boolean), 5, 113, 12)
def mM260 : ab_M := (⟨"BrowserHouseModel", "isWord", "([BIIJ)Z"⟩, prog_14_method_12_code, 8, (some .boolean), 0, 0, 12)
def mM261 : ab_M := (⟨"BrowserHouseModel", "alike", "(II)Z"⟩, prog_14_method_15_code, 3, (some .boolean), 1, 25, 12)
def mM262 : ab_M := (⟨"BrowserHouseModel", "same", "([BI[BII)Z"⟩, prog_14_method_11_code, 6, (some .boolean), 0, 0, 12)
def mM263 : ab_M := (⟨"BrowserHouseModel", "serialise", "(I)I"⟩, prog_14_method_68_code, 4, (some .int), 3, 69, 12)
def mM264 : ab_M := (⟨"BrowserHouseModel", "there", "(I)Z"⟩, prog_14_method_69_code, 2, (some .boolean), 0, 0, 12)
def mM265 : ab_M := (⟨"BrowserHouseModel", "sayEscaped", "([BIIZ)V"⟩, prog_14_method_65_code, 7, none, 1, 21, 12)
def mM266 : ab_M := (⟨"BrowserHouseModel", "say", "(I)V"⟩, prog_14_method_1_code, 2, none, 0, 0, 12)
def mM267 : ab_M := (⟨"BrowserHouseModel", "sayBegin", "(I)V"⟩, prog_14_method_66_code, 3, none, 2, 47, 12)
def mM268 : ab_M := (⟨"BrowserHouseModel", "sayAll", "([BII)V"⟩, prog_14_method_2_code, 5, none, 1, 21, 12)
def mM269 : ab_M := (⟨"BrowserHouseModel", "sayEnd", "(I)V"⟩, prog_14_method_67_code, 2, none, 2, 45, 12)
def mM270 : ab_M := (⟨"BrowserHouseModel", "isEmptyTag", "(I)Z"⟩, prog_14_method_38_code, 1, (some .boolean), 0, 0, 12)
def mM271 : ab_M := (⟨"BrowserHouseModel", "node", "(II)I"⟩, prog_14_method_70_code, 5, (some .int), 1, 21, 12)
def mM272 : ab_M := (⟨"BrowserHouseModel", "kid", "(II)I"⟩, prog_14_method_71_code, 5, (some .int), 1, 21, 12)
def mM273 : ab_M := (⟨"BrowserHouseModel", "name", "(I)I"⟩, prog_14_method_72_code, 2, (some .int), 2, 45, 12)
def mM274 : ab_M := (⟨"BrowserHouseModel", "<init>", "()V"⟩, prog_14_method_156_code, 1, none, 2, 44, 12)
def mM275 : ab_M := (⟨"BrowserHouseModel", "emptyTree", "()V"⟩, prog_14_method_42_code, 2, none, 1, 23, 12)
def mM276 : ab_M := (⟨"BrowserHouseModel", "fresh", "(I)I"⟩, prog_14_method_43_code, 4, (some .int), 0, 0, 12)
def mM277 : ab_M := (⟨"BrowserHouseModel", "feed", "(IIIII)I"⟩, prog_14_method_158_code, 6, (some .int), 1, 22, 12)
def mM278 : ab_M := (⟨"BrowserHouseModel", "putFour", "(I)V"⟩, prog_14_method_157_code, 3, none, 0, 0, 12)
def mM279 : ab_M := (⟨"BrowserHouseModel", "end", "(I)I"⟩, prog_14_method_159_code, 2, (some .int), 0, 0, 12)
def mM280 : ab_M := (⟨"BrowserHouseModel", "out", "(I)I"⟩, prog_14_method_160_code, 2, (some .int), 0, 0, 12)
def mM281 : ab_M := (⟨"BrowserHouseModel", "resolve", "()I"⟩, prog_14_method_161_code, 2, (some .int), 6, 133, 12)
def mM282 : ab_M := (⟨"BrowserHouseModel", "resolve0", "()Z"⟩, prog_14_method_162_code, 1, (some .boolean), 5, 113, 12)
def mM283 : ab_M := (⟨"BrowserHouseModel", "sayRow", "(I)V"⟩, prog_14_method_28_code, 2, none, 2, 45, 12)
def mM284 : ab_M := (⟨"BrowserHouseModel", "visit", "()I"⟩, prog_14_method_163_code, 2, (some .int), 15, 349, 12)
def mM285 : ab_M := (⟨"BrowserHouseModel", "begin", "()V"⟩, prog_14_method_150_code, 1, none, 0, 0, 12)
def mM286 : ab_M := (⟨"BrowserHouseModel", "visitResult", "()V"⟩, prog_14_method_129_code, 1, none, 9, 210, 12)
def mM287 : ab_M := (⟨"BrowserHouseModel", "remember", "()V"⟩, prog_14_method_128_code, 2, none, 1, 23, 12)
def mM288 : ab_M := (⟨"BrowserHouseModel", "goTo", "()V"⟩, prog_14_method_127_code, 2, none, 8, 189, 12)
def mM289 : ab_M := (⟨"BrowserHouseModel", "fetch", "()V"⟩, prog_14_method_36_code, 4, none, 4, 92, 12)
def mM290 : ab_M := (⟨"BrowserHouseModel", "request", "()V"⟩, prog_14_method_37_code, 2, none, 3, 71, 12)
def mM291 : ab_M := (⟨"BrowserHouseModel", "tellCookies", "()V"⟩, prog_14_method_34_code, 4, none, 1, 25, 12)
def mM292 : ab_M := (⟨"BrowserHouseModel", "send", "(I)V"⟩, prog_14_method_33_code, 2, none, 0, 0, 12)
def mM293 : ab_M := (⟨"BrowserHouseModel", "dropCookie", "(I)V"⟩, prog_14_method_32_code, 5, none, 1, 25, 12)
def mM294 : ab_M := (⟨"BrowserHouseModel", "keep", "(I)V"⟩, prog_14_method_35_code, 5, none, 2, 47, 12)
def mM295 : ab_M := (⟨"BrowserHouseModel", "newPage", "()V"⟩, prog_14_method_126_code, 1, none, 7, 169, 12)
def mM296 : ab_M := (⟨"BrowserHouseModel", "readPage", "()V"⟩, prog_14_method_55_code, 2, none, 6, 148, 12)
def mM297 : ab_M := (⟨"BrowserHouseModel", "endsStyle", "(I)Z"⟩, prog_14_method_54_code, 2, (some .boolean), 1, 27, 12)
def mM298 : ab_M := (⟨"BrowserHouseModel", "isAt", "(IIII)Z"⟩, prog_14_method_51_code, 5, (some .boolean), 0, 0, 12)
def mM299 : ab_M := (⟨"BrowserHouseModel", "tagWord", "(I)J"⟩, prog_14_method_41_code, 1, (some .long), 0, 0, 12)
def mM300 : ab_M := (⟨"BrowserHouseModel", "run", "(IZ)I"⟩, prog_14_method_58_code, 11, (some .int), 3, 62, 12)
def mM301 : ab_M := (⟨"BrowserHouseModel", "isNote", "(I)Z"⟩, prog_14_method_52_code, 2, (some .boolean), 1, 24, 12)
def mM302 : ab_M := (⟨"BrowserHouseModel", "isTag", "(I)Z"⟩, prog_14_method_53_code, 3, (some .boolean), 2, 40, 12)
def mM303 : ab_M := (⟨"BrowserHouseModel", "isLetter", "(I)Z"⟩, prog_14_method_7_code, 1, (some .boolean), 1, 20, 12)
def mM304 : ab_M := (⟨"BrowserHouseModel", "tellFault", "(II)V"⟩, prog_14_method_50_code, 3, none, 0, 0, 12)
def mM305 : ab_M := (⟨"BrowserHouseModel", "entity", "([BII)I"⟩, prog_14_method_57_code, 5, (some .int), 0, 0, 12)
def mM306 : ab_M := (⟨"BrowserHouseModel", "note", "(I)I"⟩, prog_14_method_56_code, 3, (some .int), 1, 24, 12)
def mM307 : ab_M := (⟨"BrowserHouseModel", "readTag", "(I)I"⟩, prog_14_method_59_code, 7, (some .int), 5, 122, 12)
def mM308 : ab_M := (⟨"BrowserHouseModel", "small", "(I)I"⟩, prog_14_method_8_code, 1, (some .int), 0, 0, 12)
def mM309 : ab_M := (⟨"BrowserHouseModel", "readAttribute", "(I)I"⟩, prog_14_method_60_code, 8, (some .int), 1, 25, 12)
def mM310 : ab_M := (⟨"BrowserHouseModel", "tagOf", "([BII)I"⟩, prog_14_method_40_code, 6, (some .int), 1, 27, 12)
def mM311 : ab_M := (⟨"BrowserHouseModel", "lengthOf", "(J)I"⟩, prog_14_method_13_code, 5, (some .int), 0, 0, 12)
def mM312 : ab_M := (⟨"BrowserHouseModel", "endTag", "(II)V"⟩, prog_14_method_62_code, 4, none, 2, 46, 12)
def mM313 : ab_M := (⟨"BrowserHouseModel", "closeTo", "(III)V"⟩, prog_14_method_61_code, 5, none, 1, 22, 12)
def mM314 : ab_M := (⟨"BrowserHouseModel", "startTag", "(II)V"⟩, prog_14_method_63_code, 6, none, 4, 97, 12)
def mM315 : ab_M := (⟨"BrowserHouseModel", "isBlockTag", "(I)Z"⟩, prog_14_method_39_code, 1, (some .boolean), 0, 0, 12)
def mM316 : ab_M := (⟨"BrowserHouseModel", "element", "(II)V"⟩, prog_14_method_64_code, 4, none, 0, 0, 12)
def mM317 : ab_M := (⟨"BrowserHouseModel", "settleInput", "(I)V"⟩, prog_14_method_49_code, 4, none, 3, 74, 12)
def mM318 : ab_M := (⟨"BrowserHouseModel", "attributeOf", "(IJ)I"⟩, prog_14_method_47_code, 6, (some .int), 1, 27, 12)
def mM319 : ab_M := (⟨"BrowserHouseModel", "isCheck", "(I)Z"⟩, prog_14_method_48_code, 3, (some .boolean), 2, 52, 12)
def mM320 : ab_M := (⟨"BrowserHouseModel", "changed", "()V"⟩, prog_14_method_125_code, 1, none, 0, 0, 12)
def mM321 : ab_M := (⟨"BrowserHouseModel", "settle", "()V"⟩, prog_14_method_149_code, 2, none, 14, 328, 12)
def mM322 : ab_M := (⟨"BrowserHouseModel", "onWay", "(I)V"⟩, prog_14_method_145_code, 2, none, 0, 0, 12)
def mM323 : ab_M := (⟨"BrowserHouseModel", "after", "(II)I"⟩, prog_14_method_44_code, 3, (some .int), 1, 23, 12)
def mM324 : ab_M := (⟨"BrowserHouseModel", "behind", "(II)I"⟩, prog_14_method_45_code, 4, (some .int), 0, 0, 12)
def mM325 : ab_M := (⟨"BrowserHouseModel", "isThere", "(I)Z"⟩, prog_14_method_144_code, 2, (some .boolean), 0, 0, 12)
def mM326 : ab_M := (⟨"BrowserHouseModel", "listen", "(IJ)V"⟩, prog_14_method_147_code, 7, none, 13, 302, 12)
def mM327 : ab_M := (⟨"BrowserHouseModel", "runScript", "()V"⟩, prog_14_method_133_code, 4, none, 12, 279, 12)
def mM328 : ab_M := (⟨"BrowserHouseModel", "oneStep", "(II)V"⟩, prog_14_method_134_code, 3, none, 11, 257, 12)
def mM329 : ab_M := (⟨"BrowserHouseModel", "step", "(II)Z"⟩, prog_14_method_135_code, 8, (some .boolean), 10, 230, 12)
def mM330 : ab_M := (⟨"BrowserHouseModel", "stepWord", "(I)J"⟩, prog_14_method_130_code, 1, (some .long), 0, 0, 12)
def mM331 : ab_M := (⟨"BrowserHouseModel", "waitStep", "(II)Z"⟩, prog_14_method_143_code, 7, (some .boolean), 1, 22, 12)
def mM332 : ab_M := (⟨"BrowserHouseModel", "putStep", "(III)Z"⟩, prog_14_method_141_code, 7, (some .boolean), 2, 49, 12)
def mM333 : ab_M := (⟨"BrowserHouseModel", "stored", "(II)I"⟩, prog_14_method_140_code, 5, (some .int), 1, 25, 12)
def mM334 : ab_M := (⟨"BrowserHouseModel", "nodeOf", "(II)I"⟩, prog_14_method_132_code, 5, (some .int), 2, 52, 12)
def mM335 : ab_M := (⟨"BrowserHouseModel", "selfIsThere", "()Z"⟩, prog_14_method_131_code, 1, (some .boolean), 0, 0, 12)
def mM336 : ab_M := (⟨"BrowserHouseModel", "remove", "(I)V"⟩, prog_14_method_46_code, 4, none, 2, 45, 12)
def mM337 : ab_M := (⟨"BrowserHouseModel", "setText", "([BII)V"⟩, prog_14_method_136_code, 7, none, 3, 68, 12)
def mM338 : ab_M := (⟨"BrowserHouseModel", "setClass", "(II)V"⟩, prog_14_method_137_code, 7, none, 2, 52, 12)
def mM339 : ab_M := (⟨"BrowserHouseModel", "addElement", "(II)V"⟩, prog_14_method_138_code, 5, none, 2, 52, 12)
def mM340 : ab_M := (⟨"BrowserHouseModel", "getStep", "(II)V"⟩, prog_14_method_139_code, 3, none, 5, 115, 12)
def mM341 : ab_M := (⟨"BrowserHouseModel", "sameSite", "(II)Z"⟩, prog_14_method_17_code, 4, (some .boolean), 1, 25, 12)
def mM342 : ab_M := (⟨"BrowserHouseModel", "readStep", "(II)V"⟩, prog_14_method_142_code, 4, none, 4, 94, 12)
def mM343 : ab_M := (⟨"BrowserHouseModel", "page", "()I"⟩, prog_14_method_164_code, 3, (some .int), 15, 349, 12)
def mM344 : ab_M := (⟨"BrowserHouseModel", "history", "(I)I"⟩, prog_14_method_165_code, 4, (some .int), 15, 349, 12)
def mM345 : ab_M := (⟨"BrowserHouseModel", "write", "(I)I"⟩, prog_14_method_166_code, 2, (some .int), 3, 66, 12)
def mM346 : ab_M := (⟨"BrowserHouseModel", "tick", "(I)I"⟩, prog_14_method_167_code, 6, (some .int), 15, 349, 12)
def mM347 : ab_M := (⟨"BrowserHouseModel", "doTask", "(I)V"⟩, prog_14_method_168_code, 4, none, 13, 302, 12)
def mM348 : ab_M := (⟨"BrowserHouseModel", "attribute", "(I)I"⟩, prog_14_method_169_code, 5, (some .int), 2, 45, 12)
def mM349 : ab_M := (⟨"BrowserHouseModel", "fault", "(II)I"⟩, prog_14_method_170_code, 3, (some .int), 0, 0, 12)
def mM350 : ab_M := (⟨"BrowserHouseModel", "select", "()I"⟩, prog_14_method_171_code, 4, (some .int), 4, 101, 12)
def mM351 : ab_M := (⟨"BrowserHouseModel", "readSelector", "([BIIZ)I"⟩, prog_14_method_73_code, 8, (some .int), 2, 48, 12)
def mM352 : ab_M := (⟨"BrowserHouseModel", "readPart", "([BIII)I"⟩, prog_14_method_74_code, 9, (some .int), 1, 20, 12)
def mM353 : ab_M := (⟨"BrowserHouseModel", "matches", "(II)Z"⟩, prog_14_method_77_code, 5, (some .boolean), 3, 77, 12)
def mM354 : ab_M := (⟨"BrowserHouseModel", "matchesPart", "(II)Z"⟩, prog_14_method_75_code, 6, (some .boolean), 2, 52, 12)
def mM355 : ab_M := (⟨"BrowserHouseModel", "hasClass", "(II)Z"⟩, prog_14_method_76_code, 6, (some .boolean), 1, 25, 12)
def mM356 : ab_M := (⟨"BrowserHouseModel", "found", "(I)I"⟩, prog_14_method_172_code, 2, (some .int), 0, 0, 12)
def mM357 : ab_M := (⟨"BrowserHouseModel", "style", "(II)I"⟩, prog_14_method_173_code, 3, (some .int), 9, 225, 12)
def mM358 : ab_M := (⟨"BrowserHouseModel", "lay", "()V"⟩, prog_14_method_100_code, 3, none, 8, 203, 12)
def mM359 : ab_M := (⟨"BrowserHouseModel", "cascade", "()V"⟩, prog_14_method_90_code, 7, none, 7, 177, 12)
def mM360 : ab_M := (⟨"BrowserHouseModel", "readStyles", "()V"⟩, prog_14_method_79_code, 3, none, 6, 155, 12)
def mM361 : ab_M := (⟨"BrowserHouseModel", "readSheet", "(I)V"⟩, prog_14_method_80_code, 5, none, 5, 131, 12)
def mM362 : ab_M := (⟨"BrowserHouseModel", "blanks", "(II)I"⟩, prog_14_method_78_code, 4, (some .int), 1, 20, 12)
def mM363 : ab_M := (⟨"BrowserHouseModel", "readRule", "(III)V"⟩, prog_14_method_81_code, 9, none, 4, 103, 12)
def mM364 : ab_M := (⟨"BrowserHouseModel", "readDeclarations", "(II)V"⟩, prog_14_method_82_code, 5, none, 3, 79, 12)
def mM365 : ab_M := (⟨"BrowserHouseModel", "readDeclaration", "(II)V"⟩, prog_14_method_85_code, 7, none, 2, 53, 12)
def mM366 : ab_M := (⟨"BrowserHouseModel", "property", "(I)J"⟩, prog_14_method_83_code, 1, (some .long), 0, 0, 12)
def mM367 : ab_M := (⟨"BrowserHouseModel", "readValue", "(III)I"⟩, prog_14_method_86_code, 7, (some .int), 1, 27, 12)
def mM368 : ab_M := (⟨"BrowserHouseModel", "wordOf", "(II)J"⟩, prog_14_method_84_code, 8, (some .long), 0, 0, 12)
def mM369 : ab_M := (⟨"BrowserHouseModel", "first", "(II)I"⟩, prog_14_method_88_code, 4, (some .int), 1, 22, 12)
def mM370 : ab_M := (⟨"BrowserHouseModel", "of", "(II)I"⟩, prog_14_method_87_code, 3, (some .int), 0, 0, 12)
def mM371 : ab_M := (⟨"BrowserHouseModel", "isPieceTag", "(I)Z"⟩, prog_14_method_89_code, 2, (some .boolean), 0, 0, 12)
def mM372 : ab_M := (⟨"BrowserHouseModel", "isBox", "(I)Z"⟩, prog_14_method_92_code, 2, (some .boolean), 0, 0, 12)
def mM373 : ab_M := (⟨"BrowserHouseModel", "modeOf", "(I)I"⟩, prog_14_method_95_code, 5, (some .int), 1, 22, 12)
def mM374 : ab_M := (⟨"BrowserHouseModel", "widen", "(I)V"⟩, prog_14_method_99_code, 5, none, 3, 73, 12)
def mM375 : ab_M := (⟨"BrowserHouseModel", "inner", "(I)I"⟩, prog_14_method_94_code, 2, (some .int), 2, 43, 12)
def mM376 : ab_M := (⟨"BrowserHouseModel", "edges", "(I)I"⟩, prog_14_method_93_code, 2, (some .int), 1, 22, 12)
def mM377 : ab_M := (⟨"BrowserHouseModel", "told", "(II)I"⟩, prog_14_method_97_code, 4, (some .int), 1, 22, 12)
def mM378 : ab_M := (⟨"BrowserHouseModel", "oneLine", "(I)I"⟩, prog_14_method_96_code, 9, (some .int), 2, 45, 12)
def mM379 : ab_M := (⟨"BrowserHouseModel", "glyph", "(I)I"⟩, prog_14_method_91_code, 1, (some .int), 0, 0, 12)
def mM380 : ab_M := (⟨"BrowserHouseModel", "measure", "(I)V"⟩, prog_14_method_98_code, 5, none, 3, 73, 12)
def mM381 : ab_M := (⟨"BrowserHouseModel", "split", "(I)V"⟩, prog_14_method_101_code, 5, none, 1, 22, 12)
def mM382 : ab_M := (⟨"BrowserHouseModel", "layBlock", "(I)V"⟩, prog_14_method_114_code, 13, none, 7, 169, 12)
def mM383 : ab_M := (⟨"BrowserHouseModel", "joins", "(I)Z"⟩, prog_14_method_113_code, 2, (some .boolean), 2, 43, 12)
def mM384 : ab_M := (⟨"BrowserHouseModel", "lineThing", "(I)V"⟩, prog_14_method_112_code, 4, none, 6, 146, 12)
def mM385 : ab_M := (⟨"BrowserHouseModel", "putFloat", "(I)V"⟩, prog_14_method_107_code, 7, none, 2, 45, 12)
def mM386 : ab_M := (⟨"BrowserHouseModel", "edgesAt", "(I)V"⟩, prog_14_method_105_code, 3, none, 1, 22, 12)
def mM387 : ab_M := (⟨"BrowserHouseModel", "isFloatAt", "(II)Z"⟩, prog_14_method_104_code, 3, (some .boolean), 0, 0, 12)
def mM388 : ab_M := (⟨"BrowserHouseModel", "leastEnd", "(I)I"⟩, prog_14_method_106_code, 4, (some .int), 1, 22, 12)
def mM389 : ab_M := (⟨"BrowserHouseModel", "putItem", "(III)V"⟩, prog_14_method_110_code, 7, none, 4, 96, 12)
def mM390 : ab_M := (⟨"BrowserHouseModel", "itemHigh", "(I)I"⟩, prog_14_method_108_code, 2, (some .int), 1, 22, 12)
def mM391 : ab_M := (⟨"BrowserHouseModel", "endLine", "()V"⟩, prog_14_method_109_code, 6, none, 3, 71, 12)
def mM392 : ab_M := (⟨"BrowserHouseModel", "lineText", "(I)V"⟩, prog_14_method_111_code, 5, none, 5, 122, 12)
def mM393 : ab_M := (⟨"BrowserHouseModel", "heightOf", "(II)I"⟩, prog_14_method_103_code, 3, (some .int), 2, 43, 12)
def mM394 : ab_M := (⟨"BrowserHouseModel", "layFlex", "(I)V"⟩, prog_14_method_102_code, 6, none, 3, 65, 12)
def mM395 : ab_M := (⟨"BrowserHouseModel", "screen", "(I)I"⟩, prog_14_method_174_code, 2, (some .int), 1, 20, 12)
def mM396 : ab_M := (⟨"BrowserHouseModel", "box", "(II)I"⟩, prog_14_method_175_code, 3, (some .int), 9, 225, 12)
def mM397 : ab_M := (⟨"BrowserHouseModel", "word", "(II)I"⟩, prog_14_method_176_code, 3, (some .int), 9, 225, 12)
def mM398 : ab_M := (⟨"BrowserHouseModel", "point", "(II)I"⟩, prog_14_method_177_code, 3, (some .int), 11, 271, 12)
def mM399 : ab_M := (⟨"BrowserHouseModel", "paint", "(II)Z"⟩, prog_14_method_123_code, 7, (some .boolean), 10, 245, 12)
def mM400 : ab_M := (⟨"BrowserHouseModel", "pictureHigh", "()I"⟩, prog_14_method_122_code, 1, (some .int), 9, 225, 12)
def mM401 : ab_M := (⟨"BrowserHouseModel", "paintWord", "(IIII)V"⟩, prog_14_method_124_code, 9, none, 3, 76, 12)
def mM402 : ab_M := (⟨"BrowserHouseModel", "isIn", "(IIIIII)Z"⟩, prog_14_method_115_code, 7, (some .boolean), 0, 0, 12)
def mM403 : ab_M := (⟨"BrowserHouseModel", "letter", "(IIIIIII)V"⟩, prog_14_method_118_code, 8, none, 2, 49, 12)
def mM404 : ab_M := (⟨"BrowserHouseModel", "inks", "(IIIIII)Z"⟩, prog_14_method_117_code, 8, (some .boolean), 1, 22, 12)
def mM405 : ab_M := (⟨"BrowserHouseModel", "isOn", "(III)Z"⟩, prog_14_method_116_code, 3, (some .boolean), 0, 0, 12)
def mM406 : ab_M := (⟨"BrowserHouseModel", "paintBox", "(III)V"⟩, prog_14_method_119_code, 5, none, 1, 22, 12)
def mM407 : ab_M := (⟨"BrowserHouseModel", "paintInput", "(III)V"⟩, prog_14_method_121_code, 10, none, 3, 76, 12)
def mM408 : ab_M := (⟨"BrowserHouseModel", "paintButton", "(III)V"⟩, prog_14_method_120_code, 13, none, 3, 76, 12)
def mM409 : ab_M := (⟨"BrowserHouseModel", "top", "(II)I"⟩, prog_14_method_178_code, 3, (some .int), 11, 271, 12)
def mM410 : ab_M := (⟨"BrowserHouseModel", "press", "(II)I"⟩, prog_14_method_179_code, 4, (some .int), 15, 351, 12)
def mM411 : ab_M := (⟨"BrowserHouseModel", "wayUp", "(I)V"⟩, prog_14_method_146_code, 3, none, 1, 21, 12)
def mM412 : ab_M := (⟨"BrowserHouseModel", "goesUp", "(J)Z"⟩, prog_14_method_148_code, 4, (some .boolean), 14, 328, 12)
def mM413 : ab_M := (⟨"BrowserHouseModel", "pressed", "()V"⟩, prog_14_method_155_code, 6, none, 11, 256, 12)
def mM414 : ab_M := (⟨"BrowserHouseModel", "formOf", "(I)I"⟩, prog_14_method_151_code, 3, (some .int), 0, 0, 12)
def mM415 : ab_M := (⟨"BrowserHouseModel", "sendForm", "(I)V"⟩, prog_14_method_153_code, 7, none, 10, 230, 12)
def mM416 : ab_M := (⟨"BrowserHouseModel", "ask", "(I)V"⟩, prog_14_method_152_code, 2, none, 0, 0, 12)
def mM417 : ab_M := (⟨"BrowserHouseModel", "key", "(I)I"⟩, prog_14_method_180_code, 3, (some .int), 15, 351, 12)
def mM418 : ab_M := (⟨"BrowserHouseModel", "focused", "()Z"⟩, prog_14_method_154_code, 1, (some .boolean), 0, 0, 12)
def mM419 : ab_M := (⟨"BrowserHouseModel", "typed", "(I)V"⟩, prog_14_method_181_code, 4, none, 11, 256, 12)
def mM420 : ab_M := (⟨"BrowserHouseModel", "script", "()I"⟩, prog_14_method_182_code, 3, (some .int), 15, 349, 12)
def mM421 : ab_M := (⟨"BrowserHouseModel", "value", "(I)I"⟩, prog_14_method_183_code, 2, (some .int), 2, 45, 12)
def mM422 : ab_M := (⟨"BrowserHouseModel", "checked", "(I)I"⟩, prog_14_method_184_code, 2, (some .int), 1, 21, 12)
def mM423 : ab_M := (⟨"BrowserHouseModel", "count", "(I)I"⟩, prog_14_method_185_code, 2, (some .int), 10, 245, 12)
def mM1000 : ab_M := (⟨"BrowserHouseLaw", "law", "([I)Z"⟩, code, 4, ret, 16, 374, 0)
def mT0 (j : Nat) : ab_M := (bif Nat.ble j 11 then (bif Nat.ble j 5 then (bif Nat.ble j 2 then (bif Nat.ble j 0 then mM0 else (bif Nat.ble j 1 then mM1 else mM2)) else (bif Nat.ble j 3 then mM3 else (bif Nat.ble j 4 then mM4 else mM5))) else (bif Nat.ble j 8 then (bif Nat.ble j 6 then mM6 else (bif Nat.ble j 7 then mM7 else mM8)) else (bif Nat.ble j 9 then mM9 else (bif Nat.ble j 10 then mM10 else mM11)))) else (bif Nat.ble j 17 then (bif Nat.ble j 14 then (bif Nat.ble j 12 then mM12 else (bif Nat.ble j 13 then mM13 else mM14)) else (bif Nat.ble j 15 then mM15 else (bif Nat.ble j 16 then mM16 else mM17))) else (bif Nat.ble j 20 then (bif Nat.ble j 18 then mM18 else (bif Nat.ble j 19 then mM19 else mM20)) else (bif Nat.ble j 21 then mM21 else (bif Nat.ble j 22 then mM22 else mM23)))))
def mT1 (j : Nat) : ab_M := (bif Nat.ble j 35 then (bif Nat.ble j 29 then (bif Nat.ble j 26 then (bif Nat.ble j 24 then mM24 else (bif Nat.ble j 25 then mM25 else mM26)) else (bif Nat.ble j 27 then mM27 else (bif Nat.ble j 28 then mM28 else mM29))) else (bif Nat.ble j 32 then (bif Nat.ble j 30 then mM30 else (bif Nat.ble j 31 then mM31 else mM32)) else (bif Nat.ble j 33 then mM33 else (bif Nat.ble j 34 then mM34 else mM35)))) else (bif Nat.ble j 41 then (bif Nat.ble j 38 then (bif Nat.ble j 36 then mM36 else (bif Nat.ble j 37 then mM37 else mM38)) else (bif Nat.ble j 39 then mM39 else (bif Nat.ble j 40 then mM40 else mM41))) else (bif Nat.ble j 44 then (bif Nat.ble j 42 then mM42 else (bif Nat.ble j 43 then mM43 else mM44)) else (bif Nat.ble j 45 then mM45 else (bif Nat.ble j 46 then mM46 else mM47)))))
def mT2 (j : Nat) : ab_M := (bif Nat.ble j 59 then (bif Nat.ble j 53 then (bif Nat.ble j 50 then (bif Nat.ble j 48 then mM48 else (bif Nat.ble j 49 then mM49 else mM50)) else (bif Nat.ble j 51 then mM51 else (bif Nat.ble j 52 then mM52 else mM53))) else (bif Nat.ble j 56 then (bif Nat.ble j 54 then mM54 else (bif Nat.ble j 55 then mM55 else mM56)) else (bif Nat.ble j 57 then mM57 else (bif Nat.ble j 58 then mM58 else mM59)))) else (bif Nat.ble j 65 then (bif Nat.ble j 62 then (bif Nat.ble j 60 then mM60 else (bif Nat.ble j 61 then mM61 else mM62)) else (bif Nat.ble j 63 then mM63 else (bif Nat.ble j 64 then mM64 else mM65))) else (bif Nat.ble j 68 then (bif Nat.ble j 66 then mM66 else (bif Nat.ble j 67 then mM67 else mM68)) else (bif Nat.ble j 69 then mM69 else (bif Nat.ble j 70 then mM70 else mM71)))))
def mT3 (j : Nat) : ab_M := (bif Nat.ble j 83 then (bif Nat.ble j 77 then (bif Nat.ble j 74 then (bif Nat.ble j 72 then mM72 else (bif Nat.ble j 73 then mM73 else mM74)) else (bif Nat.ble j 75 then mM75 else (bif Nat.ble j 76 then mM76 else mM77))) else (bif Nat.ble j 80 then (bif Nat.ble j 78 then mM78 else (bif Nat.ble j 79 then mM79 else mM80)) else (bif Nat.ble j 81 then mM81 else (bif Nat.ble j 82 then mM82 else mM83)))) else (bif Nat.ble j 89 then (bif Nat.ble j 86 then (bif Nat.ble j 84 then mM84 else (bif Nat.ble j 85 then mM85 else mM86)) else (bif Nat.ble j 87 then mM87 else (bif Nat.ble j 88 then mM88 else mM89))) else (bif Nat.ble j 92 then (bif Nat.ble j 90 then mM90 else (bif Nat.ble j 91 then mM91 else mM92)) else (bif Nat.ble j 93 then mM93 else (bif Nat.ble j 94 then mM94 else mM95)))))
def mT4 (j : Nat) : ab_M := (bif Nat.ble j 107 then (bif Nat.ble j 101 then (bif Nat.ble j 98 then (bif Nat.ble j 96 then mM96 else (bif Nat.ble j 97 then mM97 else mM98)) else (bif Nat.ble j 99 then mM99 else (bif Nat.ble j 100 then mM100 else mM101))) else (bif Nat.ble j 104 then (bif Nat.ble j 102 then mM102 else (bif Nat.ble j 103 then mM103 else mM104)) else (bif Nat.ble j 105 then mM105 else (bif Nat.ble j 106 then mM106 else mM107)))) else (bif Nat.ble j 113 then (bif Nat.ble j 110 then (bif Nat.ble j 108 then mM108 else (bif Nat.ble j 109 then mM109 else mM110)) else (bif Nat.ble j 111 then mM111 else (bif Nat.ble j 112 then mM112 else mM113))) else (bif Nat.ble j 116 then (bif Nat.ble j 114 then mM114 else (bif Nat.ble j 115 then mM115 else mM116)) else (bif Nat.ble j 117 then mM117 else (bif Nat.ble j 118 then mM118 else mM119)))))
def mT5 (j : Nat) : ab_M := (bif Nat.ble j 131 then (bif Nat.ble j 125 then (bif Nat.ble j 122 then (bif Nat.ble j 120 then mM120 else (bif Nat.ble j 121 then mM121 else mM122)) else (bif Nat.ble j 123 then mM123 else (bif Nat.ble j 124 then mM124 else mM125))) else (bif Nat.ble j 128 then (bif Nat.ble j 126 then mM126 else (bif Nat.ble j 127 then mM127 else mM128)) else (bif Nat.ble j 129 then mM129 else (bif Nat.ble j 130 then mM130 else mM131)))) else (bif Nat.ble j 137 then (bif Nat.ble j 134 then (bif Nat.ble j 132 then mM132 else (bif Nat.ble j 133 then mM133 else mM134)) else (bif Nat.ble j 135 then mM135 else (bif Nat.ble j 136 then mM136 else mM137))) else (bif Nat.ble j 140 then (bif Nat.ble j 138 then mM138 else (bif Nat.ble j 139 then mM139 else mM140)) else (bif Nat.ble j 141 then mM141 else (bif Nat.ble j 142 then mM142 else mM143)))))
def mT6 (j : Nat) : ab_M := (bif Nat.ble j 155 then (bif Nat.ble j 149 then (bif Nat.ble j 146 then (bif Nat.ble j 144 then mM144 else (bif Nat.ble j 145 then mM145 else mM146)) else (bif Nat.ble j 147 then mM147 else (bif Nat.ble j 148 then mM148 else mM149))) else (bif Nat.ble j 152 then (bif Nat.ble j 150 then mM150 else (bif Nat.ble j 151 then mM151 else mM152)) else (bif Nat.ble j 153 then mM153 else (bif Nat.ble j 154 then mM154 else mM155)))) else (bif Nat.ble j 161 then (bif Nat.ble j 158 then (bif Nat.ble j 156 then mM156 else (bif Nat.ble j 157 then mM157 else mM158)) else (bif Nat.ble j 159 then mM159 else (bif Nat.ble j 160 then mM160 else mM161))) else (bif Nat.ble j 164 then (bif Nat.ble j 162 then mM162 else (bif Nat.ble j 163 then mM163 else mM164)) else (bif Nat.ble j 165 then mM165 else (bif Nat.ble j 166 then mM166 else mM167)))))
def mT7 (j : Nat) : ab_M := (bif Nat.ble j 179 then (bif Nat.ble j 173 then (bif Nat.ble j 170 then (bif Nat.ble j 168 then mM168 else (bif Nat.ble j 169 then mM169 else mM170)) else (bif Nat.ble j 171 then mM171 else (bif Nat.ble j 172 then mM172 else mM173))) else (bif Nat.ble j 176 then (bif Nat.ble j 174 then mM174 else (bif Nat.ble j 175 then mM175 else mM176)) else (bif Nat.ble j 177 then mM177 else (bif Nat.ble j 178 then mM178 else mM179)))) else (bif Nat.ble j 185 then (bif Nat.ble j 182 then (bif Nat.ble j 180 then mM180 else (bif Nat.ble j 181 then mM181 else mM182)) else (bif Nat.ble j 183 then mM183 else (bif Nat.ble j 184 then mM184 else mM185))) else (bif Nat.ble j 188 then (bif Nat.ble j 186 then mM186 else (bif Nat.ble j 187 then mM187 else mM188)) else (bif Nat.ble j 189 then mM189 else (bif Nat.ble j 190 then mM190 else mM191)))))
def mT8 (j : Nat) : ab_M := (bif Nat.ble j 203 then (bif Nat.ble j 197 then (bif Nat.ble j 194 then (bif Nat.ble j 192 then mM192 else (bif Nat.ble j 193 then mM193 else mM194)) else (bif Nat.ble j 195 then mM195 else (bif Nat.ble j 196 then mM196 else mM197))) else (bif Nat.ble j 200 then (bif Nat.ble j 198 then mM198 else (bif Nat.ble j 199 then mM199 else mM200)) else (bif Nat.ble j 201 then mM201 else (bif Nat.ble j 202 then mM202 else mM203)))) else (bif Nat.ble j 209 then (bif Nat.ble j 206 then (bif Nat.ble j 204 then mM204 else (bif Nat.ble j 205 then mM205 else mM206)) else (bif Nat.ble j 207 then mM207 else (bif Nat.ble j 208 then mM208 else mM209))) else (bif Nat.ble j 212 then (bif Nat.ble j 210 then mM210 else (bif Nat.ble j 211 then mM211 else mM212)) else (bif Nat.ble j 213 then mM213 else (bif Nat.ble j 214 then mM214 else mM215)))))
def mT9 (j : Nat) : ab_M := (bif Nat.ble j 227 then (bif Nat.ble j 221 then (bif Nat.ble j 218 then (bif Nat.ble j 216 then mM216 else (bif Nat.ble j 217 then mM217 else mM218)) else (bif Nat.ble j 219 then mM219 else (bif Nat.ble j 220 then mM220 else mM221))) else (bif Nat.ble j 224 then (bif Nat.ble j 222 then mM222 else (bif Nat.ble j 223 then mM223 else mM224)) else (bif Nat.ble j 225 then mM225 else (bif Nat.ble j 226 then mM226 else mM227)))) else (bif Nat.ble j 233 then (bif Nat.ble j 230 then (bif Nat.ble j 228 then mM228 else (bif Nat.ble j 229 then mM229 else mM230)) else (bif Nat.ble j 231 then mM231 else (bif Nat.ble j 232 then mM232 else mM233))) else (bif Nat.ble j 236 then (bif Nat.ble j 234 then mM234 else (bif Nat.ble j 235 then mM235 else mM236)) else (bif Nat.ble j 237 then mM237 else (bif Nat.ble j 238 then mM238 else mM239)))))
def mT10 (j : Nat) : ab_M := (bif Nat.ble j 251 then (bif Nat.ble j 245 then (bif Nat.ble j 242 then (bif Nat.ble j 240 then mM240 else (bif Nat.ble j 241 then mM241 else mM242)) else (bif Nat.ble j 243 then mM243 else (bif Nat.ble j 244 then mM244 else mM245))) else (bif Nat.ble j 248 then (bif Nat.ble j 246 then mM246 else (bif Nat.ble j 247 then mM247 else mM248)) else (bif Nat.ble j 249 then mM249 else (bif Nat.ble j 250 then mM250 else mM251)))) else (bif Nat.ble j 257 then (bif Nat.ble j 254 then (bif Nat.ble j 252 then mM252 else (bif Nat.ble j 253 then mM253 else mM254)) else (bif Nat.ble j 255 then mM255 else (bif Nat.ble j 256 then mM256 else mM257))) else (bif Nat.ble j 260 then (bif Nat.ble j 258 then mM258 else (bif Nat.ble j 259 then mM259 else mM260)) else (bif Nat.ble j 261 then mM261 else (bif Nat.ble j 262 then mM262 else mM263)))))
def mT11 (j : Nat) : ab_M := (bif Nat.ble j 275 then (bif Nat.ble j 269 then (bif Nat.ble j 266 then (bif Nat.ble j 264 then mM264 else (bif Nat.ble j 265 then mM265 else mM266)) else (bif Nat.ble j 267 then mM267 else (bif Nat.ble j 268 then mM268 else mM269))) else (bif Nat.ble j 272 then (bif Nat.ble j 270 then mM270 else (bif Nat.ble j 271 then mM271 else mM272)) else (bif Nat.ble j 273 then mM273 else (bif Nat.ble j 274 then mM274 else mM275)))) else (bif Nat.ble j 281 then (bif Nat.ble j 278 then (bif Nat.ble j 276 then mM276 else (bif Nat.ble j 277 then mM277 else mM278)) else (bif Nat.ble j 279 then mM279 else (bif Nat.ble j 280 then mM280 else mM281))) else (bif Nat.ble j 284 then (bif Nat.ble j 282 then mM282 else (bif Nat.ble j 283 then mM283 else mM284)) else (bif Nat.ble j 285 then mM285 else (bif Nat.ble j 286 then mM286 else mM287)))))
def mT12 (j : Nat) : ab_M := (bif Nat.ble j 299 then (bif Nat.ble j 293 then (bif Nat.ble j 290 then (bif Nat.ble j 288 then mM288 else (bif Nat.ble j 289 then mM289 else mM290)) else (bif Nat.ble j 291 then mM291 else (bif Nat.ble j 292 then mM292 else mM293))) else (bif Nat.ble j 296 then (bif Nat.ble j 294 then mM294 else (bif Nat.ble j 295 then mM295 else mM296)) else (bif Nat.ble j 297 then mM297 else (bif Nat.ble j 298 then mM298 else mM299)))) else (bif Nat.ble j 305 then (bif Nat.ble j 302 then (bif Nat.ble j 300 then mM300 else (bif Nat.ble j 301 then mM301 else mM302)) else (bif Nat.ble j 303 then mM303 else (bif Nat.ble j 304 then mM304 else mM305))) else (bif Nat.ble j 308 then (bif Nat.ble j 306 then mM306 else (bif Nat.ble j 307 then mM307 else mM308)) else (bif Nat.ble j 309 then mM309 else (bif Nat.ble j 310 then mM310 else mM311)))))
def mT13 (j : Nat) : ab_M := (bif Nat.ble j 323 then (bif Nat.ble j 317 then (bif Nat.ble j 314 then (bif Nat.ble j 312 then mM312 else (bif Nat.ble j 313 then mM313 else mM314)) else (bif Nat.ble j 315 then mM315 else (bif Nat.ble j 316 then mM316 else mM317))) else (bif Nat.ble j 320 then (bif Nat.ble j 318 then mM318 else (bif Nat.ble j 319 then mM319 else mM320)) else (bif Nat.ble j 321 then mM321 else (bif Nat.ble j 322 then mM322 else mM323)))) else (bif Nat.ble j 329 then (bif Nat.ble j 326 then (bif Nat.ble j 324 then mM324 else (bif Nat.ble j 325 then mM325 else mM326)) else (bif Nat.ble j 327 then mM327 else (bif Nat.ble j 328 then mM328 else mM329))) else (bif Nat.ble j 332 then (bif Nat.ble j 330 then mM330 else (bif Nat.ble j 331 then mM331 else mM332)) else (bif Nat.ble j 333 then mM333 else (bif Nat.ble j 334 then mM334 else mM335)))))
def mT14 (j : Nat) : ab_M := (bif Nat.ble j 347 then (bif Nat.ble j 341 then (bif Nat.ble j 338 then (bif Nat.ble j 336 then mM336 else (bif Nat.ble j 337 then mM337 else mM338)) else (bif Nat.ble j 339 then mM339 else (bif Nat.ble j 340 then mM340 else mM341))) else (bif Nat.ble j 344 then (bif Nat.ble j 342 then mM342 else (bif Nat.ble j 343 then mM343 else mM344)) else (bif Nat.ble j 345 then mM345 else (bif Nat.ble j 346 then mM346 else mM347)))) else (bif Nat.ble j 353 then (bif Nat.ble j 350 then (bif Nat.ble j 348 then mM348 else (bif Nat.ble j 349 then mM349 else mM350)) else (bif Nat.ble j 351 then mM351 else (bif Nat.ble j 352 then mM352 else mM353))) else (bif Nat.ble j 356 then (bif Nat.ble j 354 then mM354 else (bif Nat.ble j 355 then mM355 else mM356)) else (bif Nat.ble j 357 then mM357 else (bif Nat.ble j 358 then mM358 else mM359)))))
def mT15 (j : Nat) : ab_M := (bif Nat.ble j 371 then (bif Nat.ble j 365 then (bif Nat.ble j 362 then (bif Nat.ble j 360 then mM360 else (bif Nat.ble j 361 then mM361 else mM362)) else (bif Nat.ble j 363 then mM363 else (bif Nat.ble j 364 then mM364 else mM365))) else (bif Nat.ble j 368 then (bif Nat.ble j 366 then mM366 else (bif Nat.ble j 367 then mM367 else mM368)) else (bif Nat.ble j 369 then mM369 else (bif Nat.ble j 370 then mM370 else mM371)))) else (bif Nat.ble j 377 then (bif Nat.ble j 374 then (bif Nat.ble j 372 then mM372 else (bif Nat.ble j 373 then mM373 else mM374)) else (bif Nat.ble j 375 then mM375 else (bif Nat.ble j 376 then mM376 else mM377))) else (bif Nat.ble j 380 then (bif Nat.ble j 378 then mM378 else (bif Nat.ble j 379 then mM379 else mM380)) else (bif Nat.ble j 381 then mM381 else (bif Nat.ble j 382 then mM382 else mM383)))))
def mT16 (j : Nat) : ab_M := (bif Nat.ble j 395 then (bif Nat.ble j 389 then (bif Nat.ble j 386 then (bif Nat.ble j 384 then mM384 else (bif Nat.ble j 385 then mM385 else mM386)) else (bif Nat.ble j 387 then mM387 else (bif Nat.ble j 388 then mM388 else mM389))) else (bif Nat.ble j 392 then (bif Nat.ble j 390 then mM390 else (bif Nat.ble j 391 then mM391 else mM392)) else (bif Nat.ble j 393 then mM393 else (bif Nat.ble j 394 then mM394 else mM395)))) else (bif Nat.ble j 401 then (bif Nat.ble j 398 then (bif Nat.ble j 396 then mM396 else (bif Nat.ble j 397 then mM397 else mM398)) else (bif Nat.ble j 399 then mM399 else (bif Nat.ble j 400 then mM400 else mM401))) else (bif Nat.ble j 404 then (bif Nat.ble j 402 then mM402 else (bif Nat.ble j 403 then mM403 else mM404)) else (bif Nat.ble j 405 then mM405 else (bif Nat.ble j 406 then mM406 else mM407)))))
def mT17 (j : Nat) : ab_M := (bif Nat.ble j 415 then (bif Nat.ble j 411 then (bif Nat.ble j 409 then (bif Nat.ble j 408 then mM408 else mM409) else (bif Nat.ble j 410 then mM410 else mM411)) else (bif Nat.ble j 413 then (bif Nat.ble j 412 then mM412 else mM413) else (bif Nat.ble j 414 then mM414 else mM415))) else (bif Nat.ble j 419 then (bif Nat.ble j 417 then (bif Nat.ble j 416 then mM416 else mM417) else (bif Nat.ble j 418 then mM418 else mM419)) else (bif Nat.ble j 421 then (bif Nat.ble j 420 then mM420 else mM421) else (bif Nat.ble j 422 then mM422 else mM423))))
def ab_mtT (j : Nat) : ab_M := (bif Nat.ble j 215 then (bif Nat.ble j 95 then (bif Nat.ble j 47 then (bif Nat.ble j 23 then mT0 j else mT1 j) else (bif Nat.ble j 71 then mT2 j else mT3 j)) else (bif Nat.ble j 143 then (bif Nat.ble j 119 then mT4 j else mT5 j) else (bif Nat.ble j 167 then mT6 j else (bif Nat.ble j 191 then mT7 j else mT8 j)))) else (bif Nat.ble j 311 then (bif Nat.ble j 263 then (bif Nat.ble j 239 then mT9 j else mT10 j) else (bif Nat.ble j 287 then mT11 j else mT12 j)) else (bif Nat.ble j 359 then (bif Nat.ble j 335 then mT13 j else mT14 j) else (bif Nat.ble j 383 then mT15 j else (bif Nat.ble j 407 then mT16 j else mT17 j)))))
def ab_mt (j : Nat) : ab_M := bif Nat.ble j 999 then ab_mtT (bif Nat.ble j 423 then j else 423) else mM1000
def ab_kbl : List (Nat × Nat) := [(2, 0), (2, 1), (2, 0), (2, 0), (2, 0), (2, 0), (2, 0), (1, 1), (1, 1), (0, 2), (1, 4), (0, 4), (0, 3), (0, 3), (1, 3), (0, 3), (1, 3), (1, 4), (0, 1), (1, 4), (1, 4), (1, 0), (1, 1), (2, 1), (2, 1), (0, 1), (2, 2), (2, 0), (2, 3), (1, 0), (1, 3), (1, 0), (1, 5), (1, 1), (1, 1), (1, 1), (1, 0), (1, 0), (1, 1), (1, 3), (1, 0), (1, 2), (0, 3), (0, 1), (1, 0), (1, 3), (0, 3), (0, 1), (1, 3), (0, 3), (0, 3), (0, 2), (1, 1), (1, 1), (1, 0), (1, 0), (1, 3), (1, 0), (1, 0), (1, 0), (1, 0), (1, 1), (1, 0), (1, 0), (1, 0), (1, 1), (0, 5), (0, 4), (1, 1), (1, 1), (1, 2), (1, 0), (1, 3), (1, 2), (1, 1), (1, 2), (1, 4), (1, 2), (1, 1), (1, 1), (0, 1), (1, 0), (0, 3), (1, 2), (1, 2), (1, 1), (1, 1), (1, 1), (1, 2), (1, 1), (1, 2), (1, 1), (1, 1), (1, 1), (1, 1), (1, 0), (1, 3), (1, 1), (1, 0), (1, 1), (1, 0), (1, 0), (1, 0), (1, 0), (1, 1), (1, 1), (1, 0), (1, 4), (1, 2), (1, 0), (1, 3), (0, 3), (0, 4), (1, 3), (1, 2), (1, 3), (1, 4), (1, 3), (1, 1), (1, 1), (1, 0), (1, 1), (1, 4), (1, 4), (1, 3), (1, 1), (1, 0), (1, 2), (1, 0), (1, 1), (1, 0), (1, 2), (1, 1), (1, 0), (1, 1), (1, 1), (1, 1), (1, 0), (1, 1), (1, 1), (1, 1), (1, 1), (1, 1), (1, 0), (1, 2), (1, 1), (1, 1), (1, 2), (1, 2), (1, 1), (1, 1), (1, 2), (1, 1), (1, 1), (1, 2), (1, 2), (0, 2), (0, 2), (1, 2), (1, 0), (1, 4), (1, 4), (0, 3), (1, 0), (1, 2), (1, 2), (0, 2), (1, 1), (1, 2), (1, 0), (1, 2), (0, 4), (1, 3), (1, 4), (0, 3), (1, 4), (0, 4), (0, 3), (1, 4), (0, 1), (0, 4), (1, 1), (1, 2), (1, 2), (1, 0), (1, 1), (1, 1), (1, 2), (1, 0), (1, 1), (1, 2), (1, 2), (1, 3), (0, 1), (1, 4), (0, 2), (1, 3), (1, 2), (1, 0), (1, 2), (1, 2), (1, 1), (1, 0), (1, 1), (1, 3), (1, 1), (1, 1), (1, 1), (1, 0), (1, 1), (1, 1), (1, 2), (1, 3), (1, 2), (1, 1), (1, 0), (1, 2), (1, 2), (1, 2), (1, 0), (1, 2), (1, 2), (1, 3), (1, 3), (0, 6), (0, 4), (1, 3), (1, 3), (1, 2), (1, 2), (1, 2), (1, 2), (1, 1), (1, 0), (1, 1), (1, 1), (1, 1), (1, 1), (1, 1), (1, 0), (1, 0), (0, 1), (1, 1), (0, 1), (1, 4), (0, 3), (0, 1), (0, 1), (1, 2), (1, 2), (1, 2), (0, 1), (1, 3), (1, 1), (1, 2), (1, 1), (1, 4), (0, 1), (1, 2), (1, 2), (0, 4), (1, 2), (0, 5), (1, 1), (1, 1), (1, 4), (1, 1), (1, 1), (1, 3), (1, 1), (0, 1), (1, 2), (1, 2), (1, 1), (2, 0), (1, 0), (1, 1), (1, 5), (1, 1), (1, 1), (1, 1), (1, 0), (1, 0), (1, 1), (1, 0), (1, 0), (1, 0), (1, 0), (1, 0), (1, 0), (1, 0), (1, 0), (1, 1), (1, 1), (1, 1), (1, 0), (1, 0), (1, 1), (1, 4), (0, 1), (1, 2), (1, 1), (1, 1), (0, 1), (1, 2), (1, 3), (1, 1), (1, 1), (0, 1), (1, 1), (0, 3), (0, 1), (1, 2), (1, 3), (1, 2), (0, 1), (1, 2), (1, 1), (1, 2), (1, 1), (1, 0), (1, 0), (1, 1), (1, 2), (1, 2), (1, 1), (1, 2), (1, 0), (1, 2), (1, 2), (0, 1), (1, 2), (1, 3), (1, 2), (1, 2), (1, 0), (1, 1), (1, 3), (1, 2), (1, 2), (1, 2), (1, 2), (1, 2), (1, 0), (1, 1), (1, 1), (1, 1), (1, 1), (1, 1), (1, 2), (1, 0), (1, 4), (1, 4), (1, 2), (1, 2), (1, 2), (1, 1), (1, 2), (1, 0), (1, 0), (1, 0), (1, 1), (1, 2), (1, 3), (1, 2), (1, 2), (0, 1), (1, 3), (0, 2), (1, 2), (1, 2), (1, 1), (1, 1), (1, 1), (1, 1), (1, 1), (1, 1), (1, 2), (1, 1), (0, 1), (1, 1), (1, 1), (1, 1), (1, 1), (1, 1), (1, 1), (1, 1), (1, 2), (1, 1), (1, 3), (1, 1), (1, 0), (1, 1), (1, 2), (1, 1), (1, 1), (1, 2), (1, 2), (1, 2), (1, 2), (1, 0), (1, 4), (1, 6), (1, 7), (0, 6), (0, 3), (1, 3), (1, 3), (1, 3), (1, 2), (1, 2), (1, 1), (1, 1), (1, 0), (1, 1), (1, 1), (1, 1), (1, 1), (1, 0), (1, 1), (1, 0), (1, 1), (1, 1), (1, 1)]
def ab_kb (j : Nat) : Nat × Nat := ab_kbl.getD (bif Nat.ble j 423 then j else 423) (0, 0)
def mP0 : List (Nat × Nat × Nat × Nat × Nat × Nat × Nat) := [(0, 2, 0, 25, 1, 24, 0), (1, 2, 1, 33, 2, 32, 0), (2, 2, 0, 68, 3, 67, 0), (3, 2, 0, 75, 4, 74, 0), (4, 2, 0, 1030, 9, 1029, 0), (5, 2, 0, 1036, 10, 1035, 0), (6, 2, 0, 1042, 11, 1041, 0), (7, 1, 1, 1116, 2, 1114, 1115), (8, 1, 1, 1122, 2, 1120, 1121), (9, 0, 2, 1125, 12, 1124, 0), (10, 1, 4, 1142, 11, 1140, 1141), (11, 0, 4, 1146, 2, 1145, 0), (12, 0, 3, 1149, 2, 1148, 0), (13, 0, 3, 1152, 2, 1151, 0), (14, 1, 3, 1156, 11, 1155, 14000), (15, 0, 3, 1160, 2, 1159, 0), (16, 1, 3, 1164, 11, 1163, 14001), (17, 1, 4, 1168, 11, 1167, 14002), (18, 0, 1, 1171, 11, 1170, 0), (19, 1, 4, 1176, 11, 1175, 14003), (20, 1, 4, 1180, 11, 1179, 14004), (21, 1, 0, 1184, 11, 1183, 14005), (22, 1, 1, 1188, 11, 1186, 1187), (23, 2, 1, 2031, 15, 2030, 0), (24, 2, 1, 2079, 16, 2078, 0), (25, 0, 1, 2084, 2, 2083, 0), (26, 2, 2, 2140, 17, 2139, 0), (27, 2, 0, 2150, 18, 2149, 0), (28, 2, 3, 3055, 19, 3054, 0), (29, 1, 0, 3129, 3, 3127, 3128), (30, 1, 3, 3133, 3, 3131, 3132), (31, 1, 0, 3137, 2, 3135, 3136), (32, 1, 5, 3172, 1, 3170, 3171), (33, 1, 1, 3176, 1, 3175, 14006), (34, 1, 1, 3181, 1, 3179, 3180), (35, 1, 1, 3185, 1, 3183, 3184), (36, 1, 0, 3189, 1, 3187, 3188), (37, 1, 0, 3193, 1, 3192, 14007), (38, 1, 1, 3198, 1, 3197, 14008), (39, 1, 3, 3203, 2, 3201, 3202)]
set_option maxRecDepth 100000 in
theorem mC0 : Cond.code mM0.1 mM0.2.1 mM0.2.2.1 mM0.2.2.2.1 ∈ gw := gw_of (ab_tl_in (pos := 25) rfl) rfl
set_option maxRecDepth 100000 in
theorem mC1 : Cond.code mM1.1 mM1.2.1 mM1.2.2.1 mM1.2.2.2.1 ∈ gw := gw_of (ab_tl_in (pos := 33) rfl) rfl
set_option maxRecDepth 100000 in
theorem mC2 : Cond.code mM2.1 mM2.2.1 mM2.2.2.1 mM2.2.2.2.1 ∈ gw := gw_of (ab_tl_in (pos := 68) rfl) rfl
set_option maxRecDepth 100000 in
theorem mC3 : Cond.code mM3.1 mM3.2.1 mM3.2.2.1 mM3.2.2.2.1 ∈ gw := gw_of (ab_tl_in (pos := 75) rfl) rfl
set_option maxRecDepth 100000 in
theorem mC4 : Cond.code mM4.1 mM4.2.1 mM4.2.2.1 mM4.2.2.2.1 ∈ gw := gw_of (ab_tl_in (pos := 1030) rfl) rfl
set_option maxRecDepth 100000 in
theorem mC5 : Cond.code mM5.1 mM5.2.1 mM5.2.2.1 mM5.2.2.2.1 ∈ gw := gw_of (ab_tl_in (pos := 1036) rfl) rfl
set_option maxRecDepth 100000 in
theorem mC6 : Cond.code mM6.1 mM6.2.1 mM6.2.2.1 mM6.2.2.2.1 ∈ gw := gw_of (ab_tl_in (pos := 1042) rfl) rfl
set_option maxRecDepth 100000 in
theorem mC7 : Cond.code mM7.1 mM7.2.1 mM7.2.2.1 mM7.2.2.2.1 ∈ gw := gw_of (ab_tl_in (pos := 1116) rfl) rfl
set_option maxRecDepth 100000 in
theorem mC8 : Cond.code mM8.1 mM8.2.1 mM8.2.2.1 mM8.2.2.2.1 ∈ gw := gw_of (ab_tl_in (pos := 1122) rfl) rfl
set_option maxRecDepth 100000 in
theorem mC9 : Cond.code mM9.1 mM9.2.1 mM9.2.2.1 mM9.2.2.2.1 ∈ gw := gw_of (ab_tl_in (pos := 1125) rfl) rfl
set_option maxRecDepth 100000 in
theorem mC10 : Cond.code mM10.1 mM10.2.1 mM10.2.2.1 mM10.2.2.2.1 ∈ gw := gw_of (ab_tl_in (pos := 1142) rfl) rfl
set_option maxRecDepth 100000 in
theorem mC11 : Cond.code mM11.1 mM11.2.1 mM11.2.2.1 mM11.2.2.2.1 ∈ gw := gw_of (ab_tl_in (pos := 1146) rfl) rfl
set_option maxRecDepth 100000 in
theorem mC12 : Cond.code mM12.1 mM12.2.1 mM12.2.2.1 mM12.2.2.2.1 ∈ gw := gw_of (ab_tl_in (pos := 1149) rfl) rfl
set_option maxRecDepth 100000 in
theorem mC13 : Cond.code mM13.1 mM13.2.1 mM13.2.2.1 mM13.2.2.2.1 ∈ gw := gw_of (ab_tl_in (pos := 1152) rfl) rfl
set_option maxRecDepth 100000 in
theorem mC14 : Cond.code mM14.1 mM14.2.1 mM14.2.2.1 mM14.2.2.2.1 ∈ gw := gw_of (ab_tl_in (pos := 1156) rfl) rfl
set_option maxRecDepth 100000 in
theorem mC15 : Cond.code mM15.1 mM15.2.1 mM15.2.2.1 mM15.2.2.2.1 ∈ gw := gw_of (ab_tl_in (pos := 1160) rfl) rfl
set_option maxRecDepth 100000 in
theorem mC16 : Cond.code mM16.1 mM16.2.1 mM16.2.2.1 mM16.2.2.2.1 ∈ gw := gw_of (ab_tl_in (pos := 1164) rfl) rfl
set_option maxRecDepth 100000 in
theorem mC17 : Cond.code mM17.1 mM17.2.1 mM17.2.2.1 mM17.2.2.2.1 ∈ gw := gw_of (ab_tl_in (pos := 1168) rfl) rfl
set_option maxRecDepth 100000 in
theorem mC18 : Cond.code mM18.1 mM18.2.1 mM18.2.2.1 mM18.2.2.2.1 ∈ gw := gw_of (ab_tl_in (pos := 1171) rfl) rfl
set_option maxRecDepth 100000 in
theorem mC19 : Cond.code mM19.1 mM19.2.1 mM19.2.2.1 mM19.2.2.2.1 ∈ gw := gw_of (ab_tl_in (pos := 1176) rfl) rfl
set_option maxRecDepth 100000 in
theorem mC20 : Cond.code mM20.1 mM20.2.1 mM20.2.2.1 mM20.2.2.2.1 ∈ gw := gw_of (ab_tl_in (pos := 1180) rfl) rfl
set_option maxRecDepth 100000 in
theorem mC21 : Cond.code mM21.1 mM21.2.1 mM21.2.2.1 mM21.2.2.2.1 ∈ gw := gw_of (ab_tl_in (pos := 1184) rfl) rfl
set_option maxRecDepth 100000 in
theorem mC22 : Cond.code mM22.1 mM22.2.1 mM22.2.2.1 mM22.2.2.2.1 ∈ gw := gw_of (ab_tl_in (pos := 1188) rfl) rfl
set_option maxRecDepth 100000 in
theorem mC23 : Cond.code mM23.1 mM23.2.1 mM23.2.2.1 mM23.2.2.2.1 ∈ gw := gw_of (ab_tl_in (pos := 2031) rfl) rfl
set_option maxRecDepth 100000 in
theorem mC24 : Cond.code mM24.1 mM24.2.1 mM24.2.2.1 mM24.2.2.2.1 ∈ gw := gw_of (ab_tl_in (pos := 2079) rfl) rfl
set_option maxRecDepth 100000 in
theorem mC25 : Cond.code mM25.1 mM25.2.1 mM25.2.2.1 mM25.2.2.2.1 ∈ gw := gw_of (ab_tl_in (pos := 2084) rfl) rfl
set_option maxRecDepth 100000 in
theorem mC26 : Cond.code mM26.1 mM26.2.1 mM26.2.2.1 mM26.2.2.2.1 ∈ gw := gw_of (ab_tl_in (pos := 2140) rfl) rfl
set_option maxRecDepth 100000 in
theorem mC27 : Cond.code mM27.1 mM27.2.1 mM27.2.2.1 mM27.2.2.2.1 ∈ gw := gw_of (ab_tl_in (pos := 2150) rfl) rfl
set_option maxRecDepth 100000 in
theorem mC28 : Cond.code mM28.1 mM28.2.1 mM28.2.2.1 mM28.2.2.2.1 ∈ gw := gw_of (ab_tl_in (pos := 3055) rfl) rfl
set_option maxRecDepth 100000 in
theorem mC29 : Cond.code mM29.1 mM29.2.1 mM29.2.2.1 mM29.2.2.2.1 ∈ gw := gw_of (ab_tl_in (pos := 3129) rfl) rfl
set_option maxRecDepth 100000 in
theorem mC30 : Cond.code mM30.1 mM30.2.1 mM30.2.2.1 mM30.2.2.2.1 ∈ gw := gw_of (ab_tl_in (pos := 3133) rfl) rfl
set_option maxRecDepth 100000 in
theorem mC31 : Cond.code mM31.1 mM31.2.1 mM31.2.2.1 mM31.2.2.2.1 ∈ gw := gw_of (ab_tl_in (pos := 3137) rfl) rfl
set_option maxRecDepth 100000 in
theorem mC32 : Cond.code mM32.1 mM32.2.1 mM32.2.2.1 mM32.2.2.2.1 ∈ gw := gw_of (ab_tl_in (pos := 3172) rfl) rfl
set_option maxRecDepth 100000 in
theorem mC33 : Cond.code mM33.1 mM33.2.1 mM33.2.2.1 mM33.2.2.2.1 ∈ gw := gw_of (ab_tl_in (pos := 3176) rfl) rfl
set_option maxRecDepth 100000 in
theorem mC34 : Cond.code mM34.1 mM34.2.1 mM34.2.2.1 mM34.2.2.2.1 ∈ gw := gw_of (ab_tl_in (pos := 3181) rfl) rfl
set_option maxRecDepth 100000 in
theorem mC35 : Cond.code mM35.1 mM35.2.1 mM35.2.2.1 mM35.2.2.2.1 ∈ gw := gw_of (ab_tl_in (pos := 3185) rfl) rfl
set_option maxRecDepth 100000 in
theorem mC36 : Cond.code mM36.1 mM36.2.1 mM36.2.2.1 mM36.2.2.2.1 ∈ gw := gw_of (ab_tl_in (pos := 3189) rfl) rfl
set_option maxRecDepth 100000 in
theorem mC37 : Cond.code mM37.1 mM37.2.1 mM37.2.2.1 mM37.2.2.2.1 ∈ gw := gw_of (ab_tl_in (pos := 3193) rfl) rfl
set_option maxRecDepth 100000 in
theorem mC38 : Cond.code mM38.1 mM38.2.1 mM38.2.2.1 mM38.2.2.2.1 ∈ gw := gw_of (ab_tl_in (pos := 3198) rfl) rfl
set_option maxRecDepth 100000 in
theorem mC39 : Cond.code mM39.1 mM39.2.1 mM39.2.2.1 mM39.2.2.2.1 ∈ gw := gw_of (ab_tl_in (pos := 3203) rfl) rfl
set_option maxRecDepth 100000 in
theorem mP0_c : ∀ z ∈ mP0, Cond.code (ab_mtT z.1).1 (ab_mtT z.1).2.1 (ab_mtT z.1).2.2.1 (ab_mtT z.1).2.2.2.1 ∈ gw := List.forall_mem_cons.mpr ⟨mC0, List.forall_mem_cons.mpr ⟨mC1, List.forall_mem_cons.mpr ⟨mC2, List.forall_mem_cons.mpr ⟨mC3, List.forall_mem_cons.mpr ⟨mC4, List.forall_mem_cons.mpr ⟨mC5, List.forall_mem_cons.mpr ⟨mC6, List.forall_mem_cons.mpr ⟨mC7, List.forall_mem_cons.mpr ⟨mC8, List.forall_mem_cons.mpr ⟨mC9, List.forall_mem_cons.mpr ⟨mC10, List.forall_mem_cons.mpr ⟨mC11, List.forall_mem_cons.mpr ⟨mC12, List.forall_mem_cons.mpr ⟨mC13, List.forall_mem_cons.mpr ⟨mC14, List.forall_mem_cons.mpr ⟨mC15, List.forall_mem_cons.mpr ⟨mC16, List.forall_mem_cons.mpr ⟨mC17, List.forall_mem_cons.mpr ⟨mC18, List.forall_mem_cons.mpr ⟨mC19, List.forall_mem_cons.mpr ⟨mC20, List.forall_mem_cons.mpr ⟨mC21, List.forall_mem_cons.mpr ⟨mC22, List.forall_mem_cons.mpr ⟨mC23, List.forall_mem_cons.mpr ⟨mC24, List.forall_mem_cons.mpr ⟨mC25, List.forall_mem_cons.mpr ⟨mC26, List.forall_mem_cons.mpr ⟨mC27, List.forall_mem_cons.mpr ⟨mC28, List.forall_mem_cons.mpr ⟨mC29, List.forall_mem_cons.mpr ⟨mC30, List.forall_mem_cons.mpr ⟨mC31, List.forall_mem_cons.mpr ⟨mC32, List.forall_mem_cons.mpr ⟨mC33, List.forall_mem_cons.mpr ⟨mC34, List.forall_mem_cons.mpr ⟨mC35, List.forall_mem_cons.mpr ⟨mC36, List.forall_mem_cons.mpr ⟨mC37, List.forall_mem_cons.mpr ⟨mC38, List.forall_mem_cons.mpr ⟨mC39, fun _ h => absurd h List.not_mem_nil⟩⟩⟩⟩⟩⟩⟩⟩⟩⟩⟩⟩⟩⟩⟩⟩⟩⟩⟩⟩⟩⟩⟩⟩⟩⟩⟩⟩⟩⟩⟩⟩⟩⟩⟩⟩⟩⟩⟩⟩
set_option maxRecDepth 100000 in
theorem mP0_ok : mP0.all (fun z => Nat.beq (ab_kb z.1).1 z.2.1 && Nat.beq (ab_kb z.1).2 z.2.2.1 && ab_kokB (ab_mtT z.1) z.2.1 z.2.2.1 z.2.2.2) = true := by decide +kernel
def mP1 : List (Nat × Nat × Nat × Nat × Nat × Nat × Nat) := [(40, 1, 0, 3212, 1, 3210, 3211), (41, 1, 2, 3216, 9, 3214, 3215), (42, 0, 3, 3219, 9, 3218, 0), (43, 0, 1, 3222, 2, 3221, 0), (44, 1, 0, 3228, 11, 3226, 3227), (45, 1, 3, 3232, 10, 3230, 3231), (46, 0, 3, 3237, 2, 3236, 0), (47, 0, 1, 4000, 2, 3239, 0), (48, 1, 3, 4005, 10, 4004, 14009), (49, 0, 3, 4014, 12, 4013, 0), (50, 0, 3, 4017, 12, 4016, 0), (51, 0, 2, 4020, 12, 4019, 0), (52, 1, 1, 4024, 9, 4023, 14010), (53, 1, 1, 4028, 11, 4026, 4027), (54, 1, 0, 4033, 1, 4031, 4032), (55, 1, 0, 4037, 19, 4035, 4036), (56, 1, 3, 4042, 9, 4040, 4041), (57, 1, 0, 4046, 9, 4044, 4045), (58, 1, 0, 4050, 9, 4049, 14011), (59, 1, 0, 4054, 19, 4052, 4053), (60, 1, 0, 4059, 9, 4057, 4058), (61, 1, 1, 4063, 9, 4061, 4062), (62, 1, 0, 4067, 11, 4065, 4066), (63, 1, 0, 4071, 9, 4070, 14012), (64, 1, 0, 4075, 9, 4074, 14013), (65, 1, 1, 4081, 2, 4079, 4080), (66, 0, 5, 4084, 9, 4083, 0), (67, 0, 4, 4087, 9, 4086, 0), (68, 1, 1, 4091, 9, 4090, 14014), (69, 1, 1, 4095, 11, 4093, 4094), (70, 1, 2, 4099, 15, 4097, 4098), (71, 1, 0, 4106, 15, 4105, 14015), (72, 1, 3, 4110, 15, 4109, 14016), (73, 1, 2, 4114, 15, 4113, 14017), (74, 1, 1, 4119, 3, 4117, 4118), (75, 1, 2, 4123, 15, 4122, 14018), (76, 1, 4, 4128, 15, 4127, 14019), (77, 1, 2, 4132, 15, 4131, 14020), (78, 1, 1, 4140, 15, 4139, 14021), (79, 1, 1, 4145, 15, 4144, 14022)]
set_option maxRecDepth 100000 in
theorem mC40 : Cond.code mM40.1 mM40.2.1 mM40.2.2.1 mM40.2.2.2.1 ∈ gw := gw_of (ab_tl_in (pos := 3212) rfl) rfl
set_option maxRecDepth 100000 in
theorem mC41 : Cond.code mM41.1 mM41.2.1 mM41.2.2.1 mM41.2.2.2.1 ∈ gw := gw_of (ab_tl_in (pos := 3216) rfl) rfl
set_option maxRecDepth 100000 in
theorem mC42 : Cond.code mM42.1 mM42.2.1 mM42.2.2.1 mM42.2.2.2.1 ∈ gw := gw_of (ab_tl_in (pos := 3219) rfl) rfl
set_option maxRecDepth 100000 in
theorem mC43 : Cond.code mM43.1 mM43.2.1 mM43.2.2.1 mM43.2.2.2.1 ∈ gw := gw_of (ab_tl_in (pos := 3222) rfl) rfl
set_option maxRecDepth 100000 in
theorem mC44 : Cond.code mM44.1 mM44.2.1 mM44.2.2.1 mM44.2.2.2.1 ∈ gw := gw_of (ab_tl_in (pos := 3228) rfl) rfl
set_option maxRecDepth 100000 in
theorem mC45 : Cond.code mM45.1 mM45.2.1 mM45.2.2.1 mM45.2.2.2.1 ∈ gw := gw_of (ab_tl_in (pos := 3232) rfl) rfl
set_option maxRecDepth 100000 in
theorem mC46 : Cond.code mM46.1 mM46.2.1 mM46.2.2.1 mM46.2.2.2.1 ∈ gw := gw_of (ab_tl_in (pos := 3237) rfl) rfl
set_option maxRecDepth 100000 in
theorem mC47 : Cond.code mM47.1 mM47.2.1 mM47.2.2.1 mM47.2.2.2.1 ∈ gw := gw_of (ab_tl_in (pos := 4000) rfl) rfl
set_option maxRecDepth 100000 in
theorem mC48 : Cond.code mM48.1 mM48.2.1 mM48.2.2.1 mM48.2.2.2.1 ∈ gw := gw_of (ab_tl_in (pos := 4005) rfl) rfl
set_option maxRecDepth 100000 in
theorem mC49 : Cond.code mM49.1 mM49.2.1 mM49.2.2.1 mM49.2.2.2.1 ∈ gw := gw_of (ab_tl_in (pos := 4014) rfl) rfl
set_option maxRecDepth 100000 in
theorem mC50 : Cond.code mM50.1 mM50.2.1 mM50.2.2.1 mM50.2.2.2.1 ∈ gw := gw_of (ab_tl_in (pos := 4017) rfl) rfl
set_option maxRecDepth 100000 in
theorem mC51 : Cond.code mM51.1 mM51.2.1 mM51.2.2.1 mM51.2.2.2.1 ∈ gw := gw_of (ab_tl_in (pos := 4020) rfl) rfl
set_option maxRecDepth 100000 in
theorem mC52 : Cond.code mM52.1 mM52.2.1 mM52.2.2.1 mM52.2.2.2.1 ∈ gw := gw_of (ab_tl_in (pos := 4024) rfl) rfl
set_option maxRecDepth 100000 in
theorem mC53 : Cond.code mM53.1 mM53.2.1 mM53.2.2.1 mM53.2.2.2.1 ∈ gw := gw_of (ab_tl_in (pos := 4028) rfl) rfl
set_option maxRecDepth 100000 in
theorem mC54 : Cond.code mM54.1 mM54.2.1 mM54.2.2.1 mM54.2.2.2.1 ∈ gw := gw_of (ab_tl_in (pos := 4033) rfl) rfl
set_option maxRecDepth 100000 in
theorem mC55 : Cond.code mM55.1 mM55.2.1 mM55.2.2.1 mM55.2.2.2.1 ∈ gw := gw_of (ab_tl_in (pos := 4037) rfl) rfl
set_option maxRecDepth 100000 in
theorem mC56 : Cond.code mM56.1 mM56.2.1 mM56.2.2.1 mM56.2.2.2.1 ∈ gw := gw_of (ab_tl_in (pos := 4042) rfl) rfl
set_option maxRecDepth 100000 in
theorem mC57 : Cond.code mM57.1 mM57.2.1 mM57.2.2.1 mM57.2.2.2.1 ∈ gw := gw_of (ab_tl_in (pos := 4046) rfl) rfl
set_option maxRecDepth 100000 in
theorem mC58 : Cond.code mM58.1 mM58.2.1 mM58.2.2.1 mM58.2.2.2.1 ∈ gw := gw_of (ab_tl_in (pos := 4050) rfl) rfl
set_option maxRecDepth 100000 in
theorem mC59 : Cond.code mM59.1 mM59.2.1 mM59.2.2.1 mM59.2.2.2.1 ∈ gw := gw_of (ab_tl_in (pos := 4054) rfl) rfl
set_option maxRecDepth 100000 in
theorem mC60 : Cond.code mM60.1 mM60.2.1 mM60.2.2.1 mM60.2.2.2.1 ∈ gw := gw_of (ab_tl_in (pos := 4059) rfl) rfl
set_option maxRecDepth 100000 in
theorem mC61 : Cond.code mM61.1 mM61.2.1 mM61.2.2.1 mM61.2.2.2.1 ∈ gw := gw_of (ab_tl_in (pos := 4063) rfl) rfl
set_option maxRecDepth 100000 in
theorem mC62 : Cond.code mM62.1 mM62.2.1 mM62.2.2.1 mM62.2.2.2.1 ∈ gw := gw_of (ab_tl_in (pos := 4067) rfl) rfl
set_option maxRecDepth 100000 in
theorem mC63 : Cond.code mM63.1 mM63.2.1 mM63.2.2.1 mM63.2.2.2.1 ∈ gw := gw_of (ab_tl_in (pos := 4071) rfl) rfl
set_option maxRecDepth 100000 in
theorem mC64 : Cond.code mM64.1 mM64.2.1 mM64.2.2.1 mM64.2.2.2.1 ∈ gw := gw_of (ab_tl_in (pos := 4075) rfl) rfl
set_option maxRecDepth 100000 in
theorem mC65 : Cond.code mM65.1 mM65.2.1 mM65.2.2.1 mM65.2.2.2.1 ∈ gw := gw_of (ab_tl_in (pos := 4081) rfl) rfl
set_option maxRecDepth 100000 in
theorem mC66 : Cond.code mM66.1 mM66.2.1 mM66.2.2.1 mM66.2.2.2.1 ∈ gw := gw_of (ab_tl_in (pos := 4084) rfl) rfl
set_option maxRecDepth 100000 in
theorem mC67 : Cond.code mM67.1 mM67.2.1 mM67.2.2.1 mM67.2.2.2.1 ∈ gw := gw_of (ab_tl_in (pos := 4087) rfl) rfl
set_option maxRecDepth 100000 in
theorem mC68 : Cond.code mM68.1 mM68.2.1 mM68.2.2.1 mM68.2.2.2.1 ∈ gw := gw_of (ab_tl_in (pos := 4091) rfl) rfl
set_option maxRecDepth 100000 in
theorem mC69 : Cond.code mM69.1 mM69.2.1 mM69.2.2.1 mM69.2.2.2.1 ∈ gw := gw_of (ab_tl_in (pos := 4095) rfl) rfl
set_option maxRecDepth 100000 in
theorem mC70 : Cond.code mM70.1 mM70.2.1 mM70.2.2.1 mM70.2.2.2.1 ∈ gw := gw_of (ab_tl_in (pos := 4099) rfl) rfl
set_option maxRecDepth 100000 in
theorem mC71 : Cond.code mM71.1 mM71.2.1 mM71.2.2.1 mM71.2.2.2.1 ∈ gw := gw_of (ab_tl_in (pos := 4106) rfl) rfl
set_option maxRecDepth 100000 in
theorem mC72 : Cond.code mM72.1 mM72.2.1 mM72.2.2.1 mM72.2.2.2.1 ∈ gw := gw_of (ab_tl_in (pos := 4110) rfl) rfl
set_option maxRecDepth 100000 in
theorem mC73 : Cond.code mM73.1 mM73.2.1 mM73.2.2.1 mM73.2.2.2.1 ∈ gw := gw_of (ab_tl_in (pos := 4114) rfl) rfl
set_option maxRecDepth 100000 in
theorem mC74 : Cond.code mM74.1 mM74.2.1 mM74.2.2.1 mM74.2.2.2.1 ∈ gw := gw_of (ab_tl_in (pos := 4119) rfl) rfl
set_option maxRecDepth 100000 in
theorem mC75 : Cond.code mM75.1 mM75.2.1 mM75.2.2.1 mM75.2.2.2.1 ∈ gw := gw_of (ab_tl_in (pos := 4123) rfl) rfl
set_option maxRecDepth 100000 in
theorem mC76 : Cond.code mM76.1 mM76.2.1 mM76.2.2.1 mM76.2.2.2.1 ∈ gw := gw_of (ab_tl_in (pos := 4128) rfl) rfl
set_option maxRecDepth 100000 in
theorem mC77 : Cond.code mM77.1 mM77.2.1 mM77.2.2.1 mM77.2.2.2.1 ∈ gw := gw_of (ab_tl_in (pos := 4132) rfl) rfl
set_option maxRecDepth 100000 in
theorem mC78 : Cond.code mM78.1 mM78.2.1 mM78.2.2.1 mM78.2.2.2.1 ∈ gw := gw_of (ab_tl_in (pos := 4140) rfl) rfl
set_option maxRecDepth 100000 in
theorem mC79 : Cond.code mM79.1 mM79.2.1 mM79.2.2.1 mM79.2.2.2.1 ∈ gw := gw_of (ab_tl_in (pos := 4145) rfl) rfl
set_option maxRecDepth 100000 in
theorem mP1_c : ∀ z ∈ mP1, Cond.code (ab_mtT z.1).1 (ab_mtT z.1).2.1 (ab_mtT z.1).2.2.1 (ab_mtT z.1).2.2.2.1 ∈ gw := List.forall_mem_cons.mpr ⟨mC40, List.forall_mem_cons.mpr ⟨mC41, List.forall_mem_cons.mpr ⟨mC42, List.forall_mem_cons.mpr ⟨mC43, List.forall_mem_cons.mpr ⟨mC44, List.forall_mem_cons.mpr ⟨mC45, List.forall_mem_cons.mpr ⟨mC46, List.forall_mem_cons.mpr ⟨mC47, List.forall_mem_cons.mpr ⟨mC48, List.forall_mem_cons.mpr ⟨mC49, List.forall_mem_cons.mpr ⟨mC50, List.forall_mem_cons.mpr ⟨mC51, List.forall_mem_cons.mpr ⟨mC52, List.forall_mem_cons.mpr ⟨mC53, List.forall_mem_cons.mpr ⟨mC54, List.forall_mem_cons.mpr ⟨mC55, List.forall_mem_cons.mpr ⟨mC56, List.forall_mem_cons.mpr ⟨mC57, List.forall_mem_cons.mpr ⟨mC58, List.forall_mem_cons.mpr ⟨mC59, List.forall_mem_cons.mpr ⟨mC60, List.forall_mem_cons.mpr ⟨mC61, List.forall_mem_cons.mpr ⟨mC62, List.forall_mem_cons.mpr ⟨mC63, List.forall_mem_cons.mpr ⟨mC64, List.forall_mem_cons.mpr ⟨mC65, List.forall_mem_cons.mpr ⟨mC66, List.forall_mem_cons.mpr ⟨mC67, List.forall_mem_cons.mpr ⟨mC68, List.forall_mem_cons.mpr ⟨mC69, List.forall_mem_cons.mpr ⟨mC70, List.forall_mem_cons.mpr ⟨mC71, List.forall_mem_cons.mpr ⟨mC72, List.forall_mem_cons.mpr ⟨mC73, List.forall_mem_cons.mpr ⟨mC74, List.forall_mem_cons.mpr ⟨mC75, List.forall_mem_cons.mpr ⟨mC76, List.forall_mem_cons.mpr ⟨mC77, List.forall_mem_cons.mpr ⟨mC78, List.forall_mem_cons.mpr ⟨mC79, fun _ h => absurd h List.not_mem_nil⟩⟩⟩⟩⟩⟩⟩⟩⟩⟩⟩⟩⟩⟩⟩⟩⟩⟩⟩⟩⟩⟩⟩⟩⟩⟩⟩⟩⟩⟩⟩⟩⟩⟩⟩⟩⟩⟩⟩⟩
set_option maxRecDepth 100000 in
theorem mP1_ok : mP1.all (fun z => Nat.beq (ab_kb z.1).1 z.2.1 && Nat.beq (ab_kb z.1).2 z.2.2.1 && ab_kokB (ab_mtT z.1) z.2.1 z.2.2.1 z.2.2.2) = true := by decide +kernel
def mP2 : List (Nat × Nat × Nat × Nat × Nat × Nat × Nat) := [(80, 0, 1, 4148, 2, 4147, 0), (81, 1, 0, 4152, 15, 4151, 14023), (82, 0, 3, 4156, 2, 4155, 0), (83, 1, 2, 4160, 15, 4159, 14024), (84, 1, 2, 4164, 15, 4163, 14025), (85, 1, 1, 4168, 15, 4167, 14026), (86, 1, 1, 4172, 4, 4170, 4171), (87, 1, 1, 4176, 4, 4174, 4175), (88, 1, 2, 4181, 15, 4180, 14027), (89, 1, 1, 4185, 15, 4184, 14028), (90, 1, 2, 4189, 15, 4188, 14029), (91, 1, 1, 4193, 3, 4191, 4192), (92, 1, 1, 4197, 15, 4196, 14030), (93, 1, 1, 4201, 15, 4200, 14031), (94, 1, 1, 4205, 4, 4203, 4204), (95, 1, 0, 4210, 4, 4208, 4209), (96, 1, 3, 4217, 4, 4215, 4216), (97, 1, 1, 4224, 2, 4222, 4223), (98, 1, 0, 4230, 4, 4228, 4229), (99, 1, 1, 4234, 15, 4233, 14032), (100, 1, 0, 4239, 15, 4238, 14033), (101, 1, 0, 5004, 15, 5003, 14034), (102, 1, 0, 5008, 19, 5006, 5007), (103, 1, 0, 5012, 3, 5010, 5011), (104, 1, 1, 5017, 4, 5015, 5016), (105, 1, 1, 5021, 3, 5019, 5020), (106, 1, 0, 5026, 19, 5025, 14035), (107, 1, 4, 5032, 3, 5030, 5031), (108, 1, 2, 5038, 3, 5037, 14036), (109, 1, 0, 5044, 19, 5043, 14037), (110, 1, 3, 5049, 19, 5048, 14038), (111, 0, 3, 5052, 19, 5051, 0), (112, 0, 4, 5056, 2, 5055, 0), (113, 1, 3, 5061, 19, 5060, 14039), (114, 1, 2, 5067, 9, 5065, 5066), (115, 1, 3, 5071, 19, 5070, 14040), (116, 1, 4, 5077, 19, 5076, 14041), (117, 1, 3, 5081, 19, 5080, 14042), (118, 1, 1, 5087, 3, 5085, 5086), (119, 1, 1, 5092, 3, 5090, 5091)]
set_option maxRecDepth 100000 in
theorem mC80 : Cond.code mM80.1 mM80.2.1 mM80.2.2.1 mM80.2.2.2.1 ∈ gw := gw_of (ab_tl_in (pos := 4148) rfl) rfl
set_option maxRecDepth 100000 in
theorem mC81 : Cond.code mM81.1 mM81.2.1 mM81.2.2.1 mM81.2.2.2.1 ∈ gw := gw_of (ab_tl_in (pos := 4152) rfl) rfl
set_option maxRecDepth 100000 in
theorem mC82 : Cond.code mM82.1 mM82.2.1 mM82.2.2.1 mM82.2.2.2.1 ∈ gw := gw_of (ab_tl_in (pos := 4156) rfl) rfl
set_option maxRecDepth 100000 in
theorem mC83 : Cond.code mM83.1 mM83.2.1 mM83.2.2.1 mM83.2.2.2.1 ∈ gw := gw_of (ab_tl_in (pos := 4160) rfl) rfl
set_option maxRecDepth 100000 in
theorem mC84 : Cond.code mM84.1 mM84.2.1 mM84.2.2.1 mM84.2.2.2.1 ∈ gw := gw_of (ab_tl_in (pos := 4164) rfl) rfl
set_option maxRecDepth 100000 in
theorem mC85 : Cond.code mM85.1 mM85.2.1 mM85.2.2.1 mM85.2.2.2.1 ∈ gw := gw_of (ab_tl_in (pos := 4168) rfl) rfl
set_option maxRecDepth 100000 in
theorem mC86 : Cond.code mM86.1 mM86.2.1 mM86.2.2.1 mM86.2.2.2.1 ∈ gw := gw_of (ab_tl_in (pos := 4172) rfl) rfl
set_option maxRecDepth 100000 in
theorem mC87 : Cond.code mM87.1 mM87.2.1 mM87.2.2.1 mM87.2.2.2.1 ∈ gw := gw_of (ab_tl_in (pos := 4176) rfl) rfl
set_option maxRecDepth 100000 in
theorem mC88 : Cond.code mM88.1 mM88.2.1 mM88.2.2.1 mM88.2.2.2.1 ∈ gw := gw_of (ab_tl_in (pos := 4181) rfl) rfl
set_option maxRecDepth 100000 in
theorem mC89 : Cond.code mM89.1 mM89.2.1 mM89.2.2.1 mM89.2.2.2.1 ∈ gw := gw_of (ab_tl_in (pos := 4185) rfl) rfl
set_option maxRecDepth 100000 in
theorem mC90 : Cond.code mM90.1 mM90.2.1 mM90.2.2.1 mM90.2.2.2.1 ∈ gw := gw_of (ab_tl_in (pos := 4189) rfl) rfl
set_option maxRecDepth 100000 in
theorem mC91 : Cond.code mM91.1 mM91.2.1 mM91.2.2.1 mM91.2.2.2.1 ∈ gw := gw_of (ab_tl_in (pos := 4193) rfl) rfl
set_option maxRecDepth 100000 in
theorem mC92 : Cond.code mM92.1 mM92.2.1 mM92.2.2.1 mM92.2.2.2.1 ∈ gw := gw_of (ab_tl_in (pos := 4197) rfl) rfl
set_option maxRecDepth 100000 in
theorem mC93 : Cond.code mM93.1 mM93.2.1 mM93.2.2.1 mM93.2.2.2.1 ∈ gw := gw_of (ab_tl_in (pos := 4201) rfl) rfl
set_option maxRecDepth 100000 in
theorem mC94 : Cond.code mM94.1 mM94.2.1 mM94.2.2.1 mM94.2.2.2.1 ∈ gw := gw_of (ab_tl_in (pos := 4205) rfl) rfl
set_option maxRecDepth 100000 in
theorem mC95 : Cond.code mM95.1 mM95.2.1 mM95.2.2.1 mM95.2.2.2.1 ∈ gw := gw_of (ab_tl_in (pos := 4210) rfl) rfl
set_option maxRecDepth 100000 in
theorem mC96 : Cond.code mM96.1 mM96.2.1 mM96.2.2.1 mM96.2.2.2.1 ∈ gw := gw_of (ab_tl_in (pos := 4217) rfl) rfl
set_option maxRecDepth 100000 in
theorem mC97 : Cond.code mM97.1 mM97.2.1 mM97.2.2.1 mM97.2.2.2.1 ∈ gw := gw_of (ab_tl_in (pos := 4224) rfl) rfl
set_option maxRecDepth 100000 in
theorem mC98 : Cond.code mM98.1 mM98.2.1 mM98.2.2.1 mM98.2.2.2.1 ∈ gw := gw_of (ab_tl_in (pos := 4230) rfl) rfl
set_option maxRecDepth 100000 in
theorem mC99 : Cond.code mM99.1 mM99.2.1 mM99.2.2.1 mM99.2.2.2.1 ∈ gw := gw_of (ab_tl_in (pos := 4234) rfl) rfl
set_option maxRecDepth 100000 in
theorem mC100 : Cond.code mM100.1 mM100.2.1 mM100.2.2.1 mM100.2.2.2.1 ∈ gw := gw_of (ab_tl_in (pos := 4239) rfl) rfl
set_option maxRecDepth 100000 in
theorem mC101 : Cond.code mM101.1 mM101.2.1 mM101.2.2.1 mM101.2.2.2.1 ∈ gw := gw_of (ab_tl_in (pos := 5004) rfl) rfl
set_option maxRecDepth 100000 in
theorem mC102 : Cond.code mM102.1 mM102.2.1 mM102.2.2.1 mM102.2.2.2.1 ∈ gw := gw_of (ab_tl_in (pos := 5008) rfl) rfl
set_option maxRecDepth 100000 in
theorem mC103 : Cond.code mM103.1 mM103.2.1 mM103.2.2.1 mM103.2.2.2.1 ∈ gw := gw_of (ab_tl_in (pos := 5012) rfl) rfl
set_option maxRecDepth 100000 in
theorem mC104 : Cond.code mM104.1 mM104.2.1 mM104.2.2.1 mM104.2.2.2.1 ∈ gw := gw_of (ab_tl_in (pos := 5017) rfl) rfl
set_option maxRecDepth 100000 in
theorem mC105 : Cond.code mM105.1 mM105.2.1 mM105.2.2.1 mM105.2.2.2.1 ∈ gw := gw_of (ab_tl_in (pos := 5021) rfl) rfl
set_option maxRecDepth 100000 in
theorem mC106 : Cond.code mM106.1 mM106.2.1 mM106.2.2.1 mM106.2.2.2.1 ∈ gw := gw_of (ab_tl_in (pos := 5026) rfl) rfl
set_option maxRecDepth 100000 in
theorem mC107 : Cond.code mM107.1 mM107.2.1 mM107.2.2.1 mM107.2.2.2.1 ∈ gw := gw_of (ab_tl_in (pos := 5032) rfl) rfl
set_option maxRecDepth 100000 in
theorem mC108 : Cond.code mM108.1 mM108.2.1 mM108.2.2.1 mM108.2.2.2.1 ∈ gw := gw_of (ab_tl_in (pos := 5038) rfl) rfl
set_option maxRecDepth 100000 in
theorem mC109 : Cond.code mM109.1 mM109.2.1 mM109.2.2.1 mM109.2.2.2.1 ∈ gw := gw_of (ab_tl_in (pos := 5044) rfl) rfl
set_option maxRecDepth 100000 in
theorem mC110 : Cond.code mM110.1 mM110.2.1 mM110.2.2.1 mM110.2.2.2.1 ∈ gw := gw_of (ab_tl_in (pos := 5049) rfl) rfl
set_option maxRecDepth 100000 in
theorem mC111 : Cond.code mM111.1 mM111.2.1 mM111.2.2.1 mM111.2.2.2.1 ∈ gw := gw_of (ab_tl_in (pos := 5052) rfl) rfl
set_option maxRecDepth 100000 in
theorem mC112 : Cond.code mM112.1 mM112.2.1 mM112.2.2.1 mM112.2.2.2.1 ∈ gw := gw_of (ab_tl_in (pos := 5056) rfl) rfl
set_option maxRecDepth 100000 in
theorem mC113 : Cond.code mM113.1 mM113.2.1 mM113.2.2.1 mM113.2.2.2.1 ∈ gw := gw_of (ab_tl_in (pos := 5061) rfl) rfl
set_option maxRecDepth 100000 in
theorem mC114 : Cond.code mM114.1 mM114.2.1 mM114.2.2.1 mM114.2.2.2.1 ∈ gw := gw_of (ab_tl_in (pos := 5067) rfl) rfl
set_option maxRecDepth 100000 in
theorem mC115 : Cond.code mM115.1 mM115.2.1 mM115.2.2.1 mM115.2.2.2.1 ∈ gw := gw_of (ab_tl_in (pos := 5071) rfl) rfl
set_option maxRecDepth 100000 in
theorem mC116 : Cond.code mM116.1 mM116.2.1 mM116.2.2.1 mM116.2.2.2.1 ∈ gw := gw_of (ab_tl_in (pos := 5077) rfl) rfl
set_option maxRecDepth 100000 in
theorem mC117 : Cond.code mM117.1 mM117.2.1 mM117.2.2.1 mM117.2.2.2.1 ∈ gw := gw_of (ab_tl_in (pos := 5081) rfl) rfl
set_option maxRecDepth 100000 in
theorem mC118 : Cond.code mM118.1 mM118.2.1 mM118.2.2.1 mM118.2.2.2.1 ∈ gw := gw_of (ab_tl_in (pos := 5087) rfl) rfl
set_option maxRecDepth 100000 in
theorem mC119 : Cond.code mM119.1 mM119.2.1 mM119.2.2.1 mM119.2.2.2.1 ∈ gw := gw_of (ab_tl_in (pos := 5092) rfl) rfl
set_option maxRecDepth 100000 in
theorem mP2_c : ∀ z ∈ mP2, Cond.code (ab_mtT z.1).1 (ab_mtT z.1).2.1 (ab_mtT z.1).2.2.1 (ab_mtT z.1).2.2.2.1 ∈ gw := List.forall_mem_cons.mpr ⟨mC80, List.forall_mem_cons.mpr ⟨mC81, List.forall_mem_cons.mpr ⟨mC82, List.forall_mem_cons.mpr ⟨mC83, List.forall_mem_cons.mpr ⟨mC84, List.forall_mem_cons.mpr ⟨mC85, List.forall_mem_cons.mpr ⟨mC86, List.forall_mem_cons.mpr ⟨mC87, List.forall_mem_cons.mpr ⟨mC88, List.forall_mem_cons.mpr ⟨mC89, List.forall_mem_cons.mpr ⟨mC90, List.forall_mem_cons.mpr ⟨mC91, List.forall_mem_cons.mpr ⟨mC92, List.forall_mem_cons.mpr ⟨mC93, List.forall_mem_cons.mpr ⟨mC94, List.forall_mem_cons.mpr ⟨mC95, List.forall_mem_cons.mpr ⟨mC96, List.forall_mem_cons.mpr ⟨mC97, List.forall_mem_cons.mpr ⟨mC98, List.forall_mem_cons.mpr ⟨mC99, List.forall_mem_cons.mpr ⟨mC100, List.forall_mem_cons.mpr ⟨mC101, List.forall_mem_cons.mpr ⟨mC102, List.forall_mem_cons.mpr ⟨mC103, List.forall_mem_cons.mpr ⟨mC104, List.forall_mem_cons.mpr ⟨mC105, List.forall_mem_cons.mpr ⟨mC106, List.forall_mem_cons.mpr ⟨mC107, List.forall_mem_cons.mpr ⟨mC108, List.forall_mem_cons.mpr ⟨mC109, List.forall_mem_cons.mpr ⟨mC110, List.forall_mem_cons.mpr ⟨mC111, List.forall_mem_cons.mpr ⟨mC112, List.forall_mem_cons.mpr ⟨mC113, List.forall_mem_cons.mpr ⟨mC114, List.forall_mem_cons.mpr ⟨mC115, List.forall_mem_cons.mpr ⟨mC116, List.forall_mem_cons.mpr ⟨mC117, List.forall_mem_cons.mpr ⟨mC118, List.forall_mem_cons.mpr ⟨mC119, fun _ h => absurd h List.not_mem_nil⟩⟩⟩⟩⟩⟩⟩⟩⟩⟩⟩⟩⟩⟩⟩⟩⟩⟩⟩⟩⟩⟩⟩⟩⟩⟩⟩⟩⟩⟩⟩⟩⟩⟩⟩⟩⟩⟩⟩⟩
set_option maxRecDepth 100000 in
theorem mP2_ok : mP2.all (fun z => Nat.beq (ab_kb z.1).1 z.2.1 && Nat.beq (ab_kb z.1).2 z.2.2.1 && ab_kokB (ab_mtT z.1) z.2.1 z.2.2.1 z.2.2.2) = true := by decide +kernel
def mP3 : List (Nat × Nat × Nat × Nat × Nat × Nat × Nat) := [(120, 1, 0, 5099, 2, 5097, 5098), (121, 1, 1, 5103, 3, 5101, 5102), (122, 1, 4, 5107, 3, 5105, 5106), (123, 1, 4, 5115, 19, 5114, 14043), (124, 1, 3, 5123, 19, 5122, 14044), (125, 1, 1, 5127, 9, 5125, 5126), (126, 1, 0, 5132, 19, 5131, 14045), (127, 1, 2, 5138, 19, 5136, 5137), (128, 1, 0, 5142, 19, 5141, 14046), (129, 1, 1, 5146, 19, 5145, 14047), (130, 1, 0, 5150, 2, 5148, 5149), (131, 1, 2, 5155, 3, 5153, 5154), (132, 1, 1, 5159, 19, 5158, 14048), (133, 1, 0, 5166, 2, 5164, 5165), (134, 1, 1, 5171, 19, 5170, 14049), (135, 1, 1, 5178, 11, 5176, 5177), (136, 1, 1, 5184, 19, 5183, 14050), (137, 1, 0, 5189, 1, 5187, 5188), (138, 1, 1, 5195, 1, 5193, 5194), (139, 1, 1, 5199, 9, 5197, 5198), (140, 1, 1, 5203, 1, 5201, 5202), (141, 1, 1, 5207, 1, 5206, 14051), (142, 1, 1, 5211, 1, 5209, 5210), (143, 1, 0, 5216, 19, 5214, 5215), (144, 1, 2, 5220, 1, 5218, 5219), (145, 1, 1, 5224, 1, 5223, 14052), (146, 1, 1, 5228, 3, 5226, 5227), (147, 1, 2, 5232, 1, 5230, 5231), (148, 1, 2, 5236, 3, 5234, 5235), (149, 1, 1, 6000, 1, 5238, 5239), (150, 1, 1, 6005, 1, 6003, 6004), (151, 1, 2, 6011, 1, 6010, 14053), (152, 1, 1, 6015, 1, 6014, 14054), (153, 1, 1, 6020, 1, 6018, 6019), (154, 1, 2, 6024, 3, 6022, 6023), (155, 1, 2, 6028, 3, 6027, 14055), (156, 0, 2, 6031, 3, 6030, 0), (157, 0, 2, 6042, 3, 6041, 0), (158, 1, 2, 6047, 1, 6045, 6046), (159, 1, 0, 6052, 1, 6050, 6051)]
set_option maxRecDepth 100000 in
theorem mC120 : Cond.code mM120.1 mM120.2.1 mM120.2.2.1 mM120.2.2.2.1 ∈ gw := gw_of (ab_tl_in (pos := 5099) rfl) rfl
set_option maxRecDepth 100000 in
theorem mC121 : Cond.code mM121.1 mM121.2.1 mM121.2.2.1 mM121.2.2.2.1 ∈ gw := gw_of (ab_tl_in (pos := 5103) rfl) rfl
set_option maxRecDepth 100000 in
theorem mC122 : Cond.code mM122.1 mM122.2.1 mM122.2.2.1 mM122.2.2.2.1 ∈ gw := gw_of (ab_tl_in (pos := 5107) rfl) rfl
set_option maxRecDepth 100000 in
theorem mC123 : Cond.code mM123.1 mM123.2.1 mM123.2.2.1 mM123.2.2.2.1 ∈ gw := gw_of (ab_tl_in (pos := 5115) rfl) rfl
set_option maxRecDepth 100000 in
theorem mC124 : Cond.code mM124.1 mM124.2.1 mM124.2.2.1 mM124.2.2.2.1 ∈ gw := gw_of (ab_tl_in (pos := 5123) rfl) rfl
set_option maxRecDepth 100000 in
theorem mC125 : Cond.code mM125.1 mM125.2.1 mM125.2.2.1 mM125.2.2.2.1 ∈ gw := gw_of (ab_tl_in (pos := 5127) rfl) rfl
set_option maxRecDepth 100000 in
theorem mC126 : Cond.code mM126.1 mM126.2.1 mM126.2.2.1 mM126.2.2.2.1 ∈ gw := gw_of (ab_tl_in (pos := 5132) rfl) rfl
set_option maxRecDepth 100000 in
theorem mC127 : Cond.code mM127.1 mM127.2.1 mM127.2.2.1 mM127.2.2.2.1 ∈ gw := gw_of (ab_tl_in (pos := 5138) rfl) rfl
set_option maxRecDepth 100000 in
theorem mC128 : Cond.code mM128.1 mM128.2.1 mM128.2.2.1 mM128.2.2.2.1 ∈ gw := gw_of (ab_tl_in (pos := 5142) rfl) rfl
set_option maxRecDepth 100000 in
theorem mC129 : Cond.code mM129.1 mM129.2.1 mM129.2.2.1 mM129.2.2.2.1 ∈ gw := gw_of (ab_tl_in (pos := 5146) rfl) rfl
set_option maxRecDepth 100000 in
theorem mC130 : Cond.code mM130.1 mM130.2.1 mM130.2.2.1 mM130.2.2.2.1 ∈ gw := gw_of (ab_tl_in (pos := 5150) rfl) rfl
set_option maxRecDepth 100000 in
theorem mC131 : Cond.code mM131.1 mM131.2.1 mM131.2.2.1 mM131.2.2.2.1 ∈ gw := gw_of (ab_tl_in (pos := 5155) rfl) rfl
set_option maxRecDepth 100000 in
theorem mC132 : Cond.code mM132.1 mM132.2.1 mM132.2.2.1 mM132.2.2.2.1 ∈ gw := gw_of (ab_tl_in (pos := 5159) rfl) rfl
set_option maxRecDepth 100000 in
theorem mC133 : Cond.code mM133.1 mM133.2.1 mM133.2.2.1 mM133.2.2.2.1 ∈ gw := gw_of (ab_tl_in (pos := 5166) rfl) rfl
set_option maxRecDepth 100000 in
theorem mC134 : Cond.code mM134.1 mM134.2.1 mM134.2.2.1 mM134.2.2.2.1 ∈ gw := gw_of (ab_tl_in (pos := 5171) rfl) rfl
set_option maxRecDepth 100000 in
theorem mC135 : Cond.code mM135.1 mM135.2.1 mM135.2.2.1 mM135.2.2.2.1 ∈ gw := gw_of (ab_tl_in (pos := 5178) rfl) rfl
set_option maxRecDepth 100000 in
theorem mC136 : Cond.code mM136.1 mM136.2.1 mM136.2.2.1 mM136.2.2.2.1 ∈ gw := gw_of (ab_tl_in (pos := 5184) rfl) rfl
set_option maxRecDepth 100000 in
theorem mC137 : Cond.code mM137.1 mM137.2.1 mM137.2.2.1 mM137.2.2.2.1 ∈ gw := gw_of (ab_tl_in (pos := 5189) rfl) rfl
set_option maxRecDepth 100000 in
theorem mC138 : Cond.code mM138.1 mM138.2.1 mM138.2.2.1 mM138.2.2.2.1 ∈ gw := gw_of (ab_tl_in (pos := 5195) rfl) rfl
set_option maxRecDepth 100000 in
theorem mC139 : Cond.code mM139.1 mM139.2.1 mM139.2.2.1 mM139.2.2.2.1 ∈ gw := gw_of (ab_tl_in (pos := 5199) rfl) rfl
set_option maxRecDepth 100000 in
theorem mC140 : Cond.code mM140.1 mM140.2.1 mM140.2.2.1 mM140.2.2.2.1 ∈ gw := gw_of (ab_tl_in (pos := 5203) rfl) rfl
set_option maxRecDepth 100000 in
theorem mC141 : Cond.code mM141.1 mM141.2.1 mM141.2.2.1 mM141.2.2.2.1 ∈ gw := gw_of (ab_tl_in (pos := 5207) rfl) rfl
set_option maxRecDepth 100000 in
theorem mC142 : Cond.code mM142.1 mM142.2.1 mM142.2.2.1 mM142.2.2.2.1 ∈ gw := gw_of (ab_tl_in (pos := 5211) rfl) rfl
set_option maxRecDepth 100000 in
theorem mC143 : Cond.code mM143.1 mM143.2.1 mM143.2.2.1 mM143.2.2.2.1 ∈ gw := gw_of (ab_tl_in (pos := 5216) rfl) rfl
set_option maxRecDepth 100000 in
theorem mC144 : Cond.code mM144.1 mM144.2.1 mM144.2.2.1 mM144.2.2.2.1 ∈ gw := gw_of (ab_tl_in (pos := 5220) rfl) rfl
set_option maxRecDepth 100000 in
theorem mC145 : Cond.code mM145.1 mM145.2.1 mM145.2.2.1 mM145.2.2.2.1 ∈ gw := gw_of (ab_tl_in (pos := 5224) rfl) rfl
set_option maxRecDepth 100000 in
theorem mC146 : Cond.code mM146.1 mM146.2.1 mM146.2.2.1 mM146.2.2.2.1 ∈ gw := gw_of (ab_tl_in (pos := 5228) rfl) rfl
set_option maxRecDepth 100000 in
theorem mC147 : Cond.code mM147.1 mM147.2.1 mM147.2.2.1 mM147.2.2.2.1 ∈ gw := gw_of (ab_tl_in (pos := 5232) rfl) rfl
set_option maxRecDepth 100000 in
theorem mC148 : Cond.code mM148.1 mM148.2.1 mM148.2.2.1 mM148.2.2.2.1 ∈ gw := gw_of (ab_tl_in (pos := 5236) rfl) rfl
set_option maxRecDepth 100000 in
theorem mC149 : Cond.code mM149.1 mM149.2.1 mM149.2.2.1 mM149.2.2.2.1 ∈ gw := gw_of (ab_tl_in (pos := 6000) rfl) rfl
set_option maxRecDepth 100000 in
theorem mC150 : Cond.code mM150.1 mM150.2.1 mM150.2.2.1 mM150.2.2.2.1 ∈ gw := gw_of (ab_tl_in (pos := 6005) rfl) rfl
set_option maxRecDepth 100000 in
theorem mC151 : Cond.code mM151.1 mM151.2.1 mM151.2.2.1 mM151.2.2.2.1 ∈ gw := gw_of (ab_tl_in (pos := 6011) rfl) rfl
set_option maxRecDepth 100000 in
theorem mC152 : Cond.code mM152.1 mM152.2.1 mM152.2.2.1 mM152.2.2.2.1 ∈ gw := gw_of (ab_tl_in (pos := 6015) rfl) rfl
set_option maxRecDepth 100000 in
theorem mC153 : Cond.code mM153.1 mM153.2.1 mM153.2.2.1 mM153.2.2.2.1 ∈ gw := gw_of (ab_tl_in (pos := 6020) rfl) rfl
set_option maxRecDepth 100000 in
theorem mC154 : Cond.code mM154.1 mM154.2.1 mM154.2.2.1 mM154.2.2.2.1 ∈ gw := gw_of (ab_tl_in (pos := 6024) rfl) rfl
set_option maxRecDepth 100000 in
theorem mC155 : Cond.code mM155.1 mM155.2.1 mM155.2.2.1 mM155.2.2.2.1 ∈ gw := gw_of (ab_tl_in (pos := 6028) rfl) rfl
set_option maxRecDepth 100000 in
theorem mC156 : Cond.code mM156.1 mM156.2.1 mM156.2.2.1 mM156.2.2.2.1 ∈ gw := gw_of (ab_tl_in (pos := 6031) rfl) rfl
set_option maxRecDepth 100000 in
theorem mC157 : Cond.code mM157.1 mM157.2.1 mM157.2.2.1 mM157.2.2.2.1 ∈ gw := gw_of (ab_tl_in (pos := 6042) rfl) rfl
set_option maxRecDepth 100000 in
theorem mC158 : Cond.code mM158.1 mM158.2.1 mM158.2.2.1 mM158.2.2.2.1 ∈ gw := gw_of (ab_tl_in (pos := 6047) rfl) rfl
set_option maxRecDepth 100000 in
theorem mC159 : Cond.code mM159.1 mM159.2.1 mM159.2.2.1 mM159.2.2.2.1 ∈ gw := gw_of (ab_tl_in (pos := 6052) rfl) rfl
set_option maxRecDepth 100000 in
theorem mP3_c : ∀ z ∈ mP3, Cond.code (ab_mtT z.1).1 (ab_mtT z.1).2.1 (ab_mtT z.1).2.2.1 (ab_mtT z.1).2.2.2.1 ∈ gw := List.forall_mem_cons.mpr ⟨mC120, List.forall_mem_cons.mpr ⟨mC121, List.forall_mem_cons.mpr ⟨mC122, List.forall_mem_cons.mpr ⟨mC123, List.forall_mem_cons.mpr ⟨mC124, List.forall_mem_cons.mpr ⟨mC125, List.forall_mem_cons.mpr ⟨mC126, List.forall_mem_cons.mpr ⟨mC127, List.forall_mem_cons.mpr ⟨mC128, List.forall_mem_cons.mpr ⟨mC129, List.forall_mem_cons.mpr ⟨mC130, List.forall_mem_cons.mpr ⟨mC131, List.forall_mem_cons.mpr ⟨mC132, List.forall_mem_cons.mpr ⟨mC133, List.forall_mem_cons.mpr ⟨mC134, List.forall_mem_cons.mpr ⟨mC135, List.forall_mem_cons.mpr ⟨mC136, List.forall_mem_cons.mpr ⟨mC137, List.forall_mem_cons.mpr ⟨mC138, List.forall_mem_cons.mpr ⟨mC139, List.forall_mem_cons.mpr ⟨mC140, List.forall_mem_cons.mpr ⟨mC141, List.forall_mem_cons.mpr ⟨mC142, List.forall_mem_cons.mpr ⟨mC143, List.forall_mem_cons.mpr ⟨mC144, List.forall_mem_cons.mpr ⟨mC145, List.forall_mem_cons.mpr ⟨mC146, List.forall_mem_cons.mpr ⟨mC147, List.forall_mem_cons.mpr ⟨mC148, List.forall_mem_cons.mpr ⟨mC149, List.forall_mem_cons.mpr ⟨mC150, List.forall_mem_cons.mpr ⟨mC151, List.forall_mem_cons.mpr ⟨mC152, List.forall_mem_cons.mpr ⟨mC153, List.forall_mem_cons.mpr ⟨mC154, List.forall_mem_cons.mpr ⟨mC155, List.forall_mem_cons.mpr ⟨mC156, List.forall_mem_cons.mpr ⟨mC157, List.forall_mem_cons.mpr ⟨mC158, List.forall_mem_cons.mpr ⟨mC159, fun _ h => absurd h List.not_mem_nil⟩⟩⟩⟩⟩⟩⟩⟩⟩⟩⟩⟩⟩⟩⟩⟩⟩⟩⟩⟩⟩⟩⟩⟩⟩⟩⟩⟩⟩⟩⟩⟩⟩⟩⟩⟩⟩⟩⟩⟩
set_option maxRecDepth 100000 in
theorem mP3_ok : mP3.all (fun z => Nat.beq (ab_kb z.1).1 z.2.1 && Nat.beq (ab_kb z.1).2 z.2.2.1 && ab_kokB (ab_mtT z.1) z.2.1 z.2.2.1 z.2.2.2) = true := by decide +kernel
def mP4 : List (Nat × Nat × Nat × Nat × Nat × Nat × Nat) := [(160, 1, 4, 6056, 16, 6054, 6055), (161, 1, 4, 6060, 16, 6059, 14056), (162, 0, 3, 6066, 16, 6065, 0), (163, 1, 0, 6070, 1, 6069, 14057), (164, 1, 2, 6075, 16, 6073, 6074), (165, 1, 2, 6079, 16, 6078, 14058), (166, 0, 2, 6084, 16, 6083, 0), (167, 1, 1, 6088, 1, 6086, 6087), (168, 1, 2, 6092, 1, 6090, 6091), (169, 1, 0, 6096, 16, 6094, 6095), (170, 1, 2, 6101, 16, 6100, 14059), (171, 0, 4, 6104, 16, 6103, 0), (172, 1, 3, 6108, 16, 6107, 14060), (173, 1, 4, 6112, 16, 6111, 14061), (174, 0, 3, 6115, 16, 6114, 0), (175, 1, 4, 6120, 16, 6119, 14062), (176, 0, 4, 6123, 12, 6122, 0), (177, 0, 3, 6126, 12, 6125, 0), (178, 1, 4, 6130, 16, 6129, 14063), (179, 0, 1, 6133, 2, 6132, 0), (180, 0, 4, 6138, 16, 6137, 0), (181, 1, 1, 6151, 16, 6150, 14064), (182, 1, 2, 6155, 16, 6154, 14065), (183, 1, 2, 6160, 16, 6159, 14066), (184, 1, 0, 6164, 4, 6162, 6163), (185, 1, 1, 6168, 1, 6166, 6167), (186, 1, 1, 6172, 17, 6170, 6171), (187, 1, 2, 6176, 1, 6174, 6175), (188, 1, 0, 6180, 17, 6178, 6179), (189, 1, 1, 6185, 17, 6184, 14067), (190, 1, 2, 6189, 17, 6188, 14068), (191, 1, 2, 6193, 17, 6192, 14069), (192, 1, 3, 6198, 17, 6197, 14070), (193, 0, 1, 6202, 2, 6201, 0), (194, 1, 4, 6206, 17, 6205, 14071), (195, 0, 2, 6209, 12, 6208, 0), (196, 1, 3, 6218, 17, 6217, 14072), (197, 1, 2, 6222, 17, 6221, 14073), (198, 1, 0, 6226, 18, 6224, 6225), (199, 1, 2, 6231, 17, 6230, 14074)]
set_option maxRecDepth 100000 in
theorem mC160 : Cond.code mM160.1 mM160.2.1 mM160.2.2.1 mM160.2.2.2.1 ∈ gw := gw_of (ab_tl_in (pos := 6056) rfl) rfl
set_option maxRecDepth 100000 in
theorem mC161 : Cond.code mM161.1 mM161.2.1 mM161.2.2.1 mM161.2.2.2.1 ∈ gw := gw_of (ab_tl_in (pos := 6060) rfl) rfl
set_option maxRecDepth 100000 in
theorem mC162 : Cond.code mM162.1 mM162.2.1 mM162.2.2.1 mM162.2.2.2.1 ∈ gw := gw_of (ab_tl_in (pos := 6066) rfl) rfl
set_option maxRecDepth 100000 in
theorem mC163 : Cond.code mM163.1 mM163.2.1 mM163.2.2.1 mM163.2.2.2.1 ∈ gw := gw_of (ab_tl_in (pos := 6070) rfl) rfl
set_option maxRecDepth 100000 in
theorem mC164 : Cond.code mM164.1 mM164.2.1 mM164.2.2.1 mM164.2.2.2.1 ∈ gw := gw_of (ab_tl_in (pos := 6075) rfl) rfl
set_option maxRecDepth 100000 in
theorem mC165 : Cond.code mM165.1 mM165.2.1 mM165.2.2.1 mM165.2.2.2.1 ∈ gw := gw_of (ab_tl_in (pos := 6079) rfl) rfl
set_option maxRecDepth 100000 in
theorem mC166 : Cond.code mM166.1 mM166.2.1 mM166.2.2.1 mM166.2.2.2.1 ∈ gw := gw_of (ab_tl_in (pos := 6084) rfl) rfl
set_option maxRecDepth 100000 in
theorem mC167 : Cond.code mM167.1 mM167.2.1 mM167.2.2.1 mM167.2.2.2.1 ∈ gw := gw_of (ab_tl_in (pos := 6088) rfl) rfl
set_option maxRecDepth 100000 in
theorem mC168 : Cond.code mM168.1 mM168.2.1 mM168.2.2.1 mM168.2.2.2.1 ∈ gw := gw_of (ab_tl_in (pos := 6092) rfl) rfl
set_option maxRecDepth 100000 in
theorem mC169 : Cond.code mM169.1 mM169.2.1 mM169.2.2.1 mM169.2.2.2.1 ∈ gw := gw_of (ab_tl_in (pos := 6096) rfl) rfl
set_option maxRecDepth 100000 in
theorem mC170 : Cond.code mM170.1 mM170.2.1 mM170.2.2.1 mM170.2.2.2.1 ∈ gw := gw_of (ab_tl_in (pos := 6101) rfl) rfl
set_option maxRecDepth 100000 in
theorem mC171 : Cond.code mM171.1 mM171.2.1 mM171.2.2.1 mM171.2.2.2.1 ∈ gw := gw_of (ab_tl_in (pos := 6104) rfl) rfl
set_option maxRecDepth 100000 in
theorem mC172 : Cond.code mM172.1 mM172.2.1 mM172.2.2.1 mM172.2.2.2.1 ∈ gw := gw_of (ab_tl_in (pos := 6108) rfl) rfl
set_option maxRecDepth 100000 in
theorem mC173 : Cond.code mM173.1 mM173.2.1 mM173.2.2.1 mM173.2.2.2.1 ∈ gw := gw_of (ab_tl_in (pos := 6112) rfl) rfl
set_option maxRecDepth 100000 in
theorem mC174 : Cond.code mM174.1 mM174.2.1 mM174.2.2.1 mM174.2.2.2.1 ∈ gw := gw_of (ab_tl_in (pos := 6115) rfl) rfl
set_option maxRecDepth 100000 in
theorem mC175 : Cond.code mM175.1 mM175.2.1 mM175.2.2.1 mM175.2.2.2.1 ∈ gw := gw_of (ab_tl_in (pos := 6120) rfl) rfl
set_option maxRecDepth 100000 in
theorem mC176 : Cond.code mM176.1 mM176.2.1 mM176.2.2.1 mM176.2.2.2.1 ∈ gw := gw_of (ab_tl_in (pos := 6123) rfl) rfl
set_option maxRecDepth 100000 in
theorem mC177 : Cond.code mM177.1 mM177.2.1 mM177.2.2.1 mM177.2.2.2.1 ∈ gw := gw_of (ab_tl_in (pos := 6126) rfl) rfl
set_option maxRecDepth 100000 in
theorem mC178 : Cond.code mM178.1 mM178.2.1 mM178.2.2.1 mM178.2.2.2.1 ∈ gw := gw_of (ab_tl_in (pos := 6130) rfl) rfl
set_option maxRecDepth 100000 in
theorem mC179 : Cond.code mM179.1 mM179.2.1 mM179.2.2.1 mM179.2.2.2.1 ∈ gw := gw_of (ab_tl_in (pos := 6133) rfl) rfl
set_option maxRecDepth 100000 in
theorem mC180 : Cond.code mM180.1 mM180.2.1 mM180.2.2.1 mM180.2.2.2.1 ∈ gw := gw_of (ab_tl_in (pos := 6138) rfl) rfl
set_option maxRecDepth 100000 in
theorem mC181 : Cond.code mM181.1 mM181.2.1 mM181.2.2.1 mM181.2.2.2.1 ∈ gw := gw_of (ab_tl_in (pos := 6151) rfl) rfl
set_option maxRecDepth 100000 in
theorem mC182 : Cond.code mM182.1 mM182.2.1 mM182.2.2.1 mM182.2.2.2.1 ∈ gw := gw_of (ab_tl_in (pos := 6155) rfl) rfl
set_option maxRecDepth 100000 in
theorem mC183 : Cond.code mM183.1 mM183.2.1 mM183.2.2.1 mM183.2.2.2.1 ∈ gw := gw_of (ab_tl_in (pos := 6160) rfl) rfl
set_option maxRecDepth 100000 in
theorem mC184 : Cond.code mM184.1 mM184.2.1 mM184.2.2.1 mM184.2.2.2.1 ∈ gw := gw_of (ab_tl_in (pos := 6164) rfl) rfl
set_option maxRecDepth 100000 in
theorem mC185 : Cond.code mM185.1 mM185.2.1 mM185.2.2.1 mM185.2.2.2.1 ∈ gw := gw_of (ab_tl_in (pos := 6168) rfl) rfl
set_option maxRecDepth 100000 in
theorem mC186 : Cond.code mM186.1 mM186.2.1 mM186.2.2.1 mM186.2.2.2.1 ∈ gw := gw_of (ab_tl_in (pos := 6172) rfl) rfl
set_option maxRecDepth 100000 in
theorem mC187 : Cond.code mM187.1 mM187.2.1 mM187.2.2.1 mM187.2.2.2.1 ∈ gw := gw_of (ab_tl_in (pos := 6176) rfl) rfl
set_option maxRecDepth 100000 in
theorem mC188 : Cond.code mM188.1 mM188.2.1 mM188.2.2.1 mM188.2.2.2.1 ∈ gw := gw_of (ab_tl_in (pos := 6180) rfl) rfl
set_option maxRecDepth 100000 in
theorem mC189 : Cond.code mM189.1 mM189.2.1 mM189.2.2.1 mM189.2.2.2.1 ∈ gw := gw_of (ab_tl_in (pos := 6185) rfl) rfl
set_option maxRecDepth 100000 in
theorem mC190 : Cond.code mM190.1 mM190.2.1 mM190.2.2.1 mM190.2.2.2.1 ∈ gw := gw_of (ab_tl_in (pos := 6189) rfl) rfl
set_option maxRecDepth 100000 in
theorem mC191 : Cond.code mM191.1 mM191.2.1 mM191.2.2.1 mM191.2.2.2.1 ∈ gw := gw_of (ab_tl_in (pos := 6193) rfl) rfl
set_option maxRecDepth 100000 in
theorem mC192 : Cond.code mM192.1 mM192.2.1 mM192.2.2.1 mM192.2.2.2.1 ∈ gw := gw_of (ab_tl_in (pos := 6198) rfl) rfl
set_option maxRecDepth 100000 in
theorem mC193 : Cond.code mM193.1 mM193.2.1 mM193.2.2.1 mM193.2.2.2.1 ∈ gw := gw_of (ab_tl_in (pos := 6202) rfl) rfl
set_option maxRecDepth 100000 in
theorem mC194 : Cond.code mM194.1 mM194.2.1 mM194.2.2.1 mM194.2.2.2.1 ∈ gw := gw_of (ab_tl_in (pos := 6206) rfl) rfl
set_option maxRecDepth 100000 in
theorem mC195 : Cond.code mM195.1 mM195.2.1 mM195.2.2.1 mM195.2.2.2.1 ∈ gw := gw_of (ab_tl_in (pos := 6209) rfl) rfl
set_option maxRecDepth 100000 in
theorem mC196 : Cond.code mM196.1 mM196.2.1 mM196.2.2.1 mM196.2.2.2.1 ∈ gw := gw_of (ab_tl_in (pos := 6218) rfl) rfl
set_option maxRecDepth 100000 in
theorem mC197 : Cond.code mM197.1 mM197.2.1 mM197.2.2.1 mM197.2.2.2.1 ∈ gw := gw_of (ab_tl_in (pos := 6222) rfl) rfl
set_option maxRecDepth 100000 in
theorem mC198 : Cond.code mM198.1 mM198.2.1 mM198.2.2.1 mM198.2.2.2.1 ∈ gw := gw_of (ab_tl_in (pos := 6226) rfl) rfl
set_option maxRecDepth 100000 in
theorem mC199 : Cond.code mM199.1 mM199.2.1 mM199.2.2.1 mM199.2.2.2.1 ∈ gw := gw_of (ab_tl_in (pos := 6231) rfl) rfl
set_option maxRecDepth 100000 in
theorem mP4_c : ∀ z ∈ mP4, Cond.code (ab_mtT z.1).1 (ab_mtT z.1).2.1 (ab_mtT z.1).2.2.1 (ab_mtT z.1).2.2.2.1 ∈ gw := List.forall_mem_cons.mpr ⟨mC160, List.forall_mem_cons.mpr ⟨mC161, List.forall_mem_cons.mpr ⟨mC162, List.forall_mem_cons.mpr ⟨mC163, List.forall_mem_cons.mpr ⟨mC164, List.forall_mem_cons.mpr ⟨mC165, List.forall_mem_cons.mpr ⟨mC166, List.forall_mem_cons.mpr ⟨mC167, List.forall_mem_cons.mpr ⟨mC168, List.forall_mem_cons.mpr ⟨mC169, List.forall_mem_cons.mpr ⟨mC170, List.forall_mem_cons.mpr ⟨mC171, List.forall_mem_cons.mpr ⟨mC172, List.forall_mem_cons.mpr ⟨mC173, List.forall_mem_cons.mpr ⟨mC174, List.forall_mem_cons.mpr ⟨mC175, List.forall_mem_cons.mpr ⟨mC176, List.forall_mem_cons.mpr ⟨mC177, List.forall_mem_cons.mpr ⟨mC178, List.forall_mem_cons.mpr ⟨mC179, List.forall_mem_cons.mpr ⟨mC180, List.forall_mem_cons.mpr ⟨mC181, List.forall_mem_cons.mpr ⟨mC182, List.forall_mem_cons.mpr ⟨mC183, List.forall_mem_cons.mpr ⟨mC184, List.forall_mem_cons.mpr ⟨mC185, List.forall_mem_cons.mpr ⟨mC186, List.forall_mem_cons.mpr ⟨mC187, List.forall_mem_cons.mpr ⟨mC188, List.forall_mem_cons.mpr ⟨mC189, List.forall_mem_cons.mpr ⟨mC190, List.forall_mem_cons.mpr ⟨mC191, List.forall_mem_cons.mpr ⟨mC192, List.forall_mem_cons.mpr ⟨mC193, List.forall_mem_cons.mpr ⟨mC194, List.forall_mem_cons.mpr ⟨mC195, List.forall_mem_cons.mpr ⟨mC196, List.forall_mem_cons.mpr ⟨mC197, List.forall_mem_cons.mpr ⟨mC198, List.forall_mem_cons.mpr ⟨mC199, fun _ h => absurd h List.not_mem_nil⟩⟩⟩⟩⟩⟩⟩⟩⟩⟩⟩⟩⟩⟩⟩⟩⟩⟩⟩⟩⟩⟩⟩⟩⟩⟩⟩⟩⟩⟩⟩⟩⟩⟩⟩⟩⟩⟩⟩⟩
set_option maxRecDepth 100000 in
theorem mP4_ok : mP4.all (fun z => Nat.beq (ab_kb z.1).1 z.2.1 && Nat.beq (ab_kb z.1).2 z.2.2.1 && ab_kokB (ab_mtT z.1) z.2.1 z.2.2.1 z.2.2.2) = true := by decide +kernel
def mP5 : List (Nat × Nat × Nat × Nat × Nat × Nat × Nat) := [(200, 1, 2, 6237, 17, 6236, 14075), (201, 1, 1, 7003, 17, 7002, 14076), (202, 1, 0, 7007, 18, 7005, 7006), (203, 1, 1, 7011, 17, 7010, 14077), (204, 1, 3, 7015, 17, 7014, 14078), (205, 1, 1, 7019, 17, 7018, 14079), (206, 1, 1, 7023, 17, 7022, 14080), (207, 1, 1, 7027, 17, 7026, 14081), (208, 1, 0, 7031, 17, 7030, 14082), (209, 1, 1, 7035, 17, 7033, 7034), (210, 1, 1, 7039, 17, 7038, 14083), (211, 1, 2, 7043, 17, 7042, 14084), (212, 1, 3, 7047, 17, 7046, 14085), (213, 1, 2, 7051, 17, 7050, 14086), (214, 1, 1, 7055, 17, 7054, 14087), (215, 1, 0, 7059, 18, 7057, 7058), (216, 1, 2, 7063, 1, 7061, 7062), (217, 1, 2, 7068, 1, 7066, 7067), (218, 1, 2, 7072, 17, 7070, 7071), (219, 1, 0, 7076, 17, 7074, 7075), (220, 1, 2, 7080, 17, 7078, 7079), (221, 1, 2, 7084, 18, 7082, 7083), (222, 1, 3, 7088, 18, 7086, 7087), (223, 1, 3, 7092, 17, 7091, 14088), (224, 0, 6, 7096, 17, 7095, 0), (225, 0, 4, 7099, 17, 7098, 0), (226, 1, 3, 7104, 17, 7103, 14089), (227, 1, 3, 7108, 17, 7107, 14090), (228, 1, 2, 7112, 1, 7110, 7111), (229, 1, 2, 7116, 17, 7114, 7115), (230, 1, 2, 7122, 1, 7120, 7121), (231, 1, 2, 7126, 19, 7124, 7125), (232, 1, 1, 7130, 1, 7128, 7129), (233, 1, 0, 7135, 1, 7133, 7134), (234, 1, 1, 7141, 1, 7139, 7140), (235, 1, 1, 7145, 1, 7144, 14091), (236, 1, 1, 7149, 1, 7147, 7148), (237, 1, 1, 7153, 1, 7151, 7152), (238, 1, 1, 7158, 1, 7157, 14092), (239, 1, 0, 7162, 20, 7160, 7161)]
set_option maxRecDepth 100000 in
theorem mC200 : Cond.code mM200.1 mM200.2.1 mM200.2.2.1 mM200.2.2.2.1 ∈ gw := gw_of (ab_tl_in (pos := 6237) rfl) rfl
set_option maxRecDepth 100000 in
theorem mC201 : Cond.code mM201.1 mM201.2.1 mM201.2.2.1 mM201.2.2.2.1 ∈ gw := gw_of (ab_tl_in (pos := 7003) rfl) rfl
set_option maxRecDepth 100000 in
theorem mC202 : Cond.code mM202.1 mM202.2.1 mM202.2.2.1 mM202.2.2.2.1 ∈ gw := gw_of (ab_tl_in (pos := 7007) rfl) rfl
set_option maxRecDepth 100000 in
theorem mC203 : Cond.code mM203.1 mM203.2.1 mM203.2.2.1 mM203.2.2.2.1 ∈ gw := gw_of (ab_tl_in (pos := 7011) rfl) rfl
set_option maxRecDepth 100000 in
theorem mC204 : Cond.code mM204.1 mM204.2.1 mM204.2.2.1 mM204.2.2.2.1 ∈ gw := gw_of (ab_tl_in (pos := 7015) rfl) rfl
set_option maxRecDepth 100000 in
theorem mC205 : Cond.code mM205.1 mM205.2.1 mM205.2.2.1 mM205.2.2.2.1 ∈ gw := gw_of (ab_tl_in (pos := 7019) rfl) rfl
set_option maxRecDepth 100000 in
theorem mC206 : Cond.code mM206.1 mM206.2.1 mM206.2.2.1 mM206.2.2.2.1 ∈ gw := gw_of (ab_tl_in (pos := 7023) rfl) rfl
set_option maxRecDepth 100000 in
theorem mC207 : Cond.code mM207.1 mM207.2.1 mM207.2.2.1 mM207.2.2.2.1 ∈ gw := gw_of (ab_tl_in (pos := 7027) rfl) rfl
set_option maxRecDepth 100000 in
theorem mC208 : Cond.code mM208.1 mM208.2.1 mM208.2.2.1 mM208.2.2.2.1 ∈ gw := gw_of (ab_tl_in (pos := 7031) rfl) rfl
set_option maxRecDepth 100000 in
theorem mC209 : Cond.code mM209.1 mM209.2.1 mM209.2.2.1 mM209.2.2.2.1 ∈ gw := gw_of (ab_tl_in (pos := 7035) rfl) rfl
set_option maxRecDepth 100000 in
theorem mC210 : Cond.code mM210.1 mM210.2.1 mM210.2.2.1 mM210.2.2.2.1 ∈ gw := gw_of (ab_tl_in (pos := 7039) rfl) rfl
set_option maxRecDepth 100000 in
theorem mC211 : Cond.code mM211.1 mM211.2.1 mM211.2.2.1 mM211.2.2.2.1 ∈ gw := gw_of (ab_tl_in (pos := 7043) rfl) rfl
set_option maxRecDepth 100000 in
theorem mC212 : Cond.code mM212.1 mM212.2.1 mM212.2.2.1 mM212.2.2.2.1 ∈ gw := gw_of (ab_tl_in (pos := 7047) rfl) rfl
set_option maxRecDepth 100000 in
theorem mC213 : Cond.code mM213.1 mM213.2.1 mM213.2.2.1 mM213.2.2.2.1 ∈ gw := gw_of (ab_tl_in (pos := 7051) rfl) rfl
set_option maxRecDepth 100000 in
theorem mC214 : Cond.code mM214.1 mM214.2.1 mM214.2.2.1 mM214.2.2.2.1 ∈ gw := gw_of (ab_tl_in (pos := 7055) rfl) rfl
set_option maxRecDepth 100000 in
theorem mC215 : Cond.code mM215.1 mM215.2.1 mM215.2.2.1 mM215.2.2.2.1 ∈ gw := gw_of (ab_tl_in (pos := 7059) rfl) rfl
set_option maxRecDepth 100000 in
theorem mC216 : Cond.code mM216.1 mM216.2.1 mM216.2.2.1 mM216.2.2.2.1 ∈ gw := gw_of (ab_tl_in (pos := 7063) rfl) rfl
set_option maxRecDepth 100000 in
theorem mC217 : Cond.code mM217.1 mM217.2.1 mM217.2.2.1 mM217.2.2.2.1 ∈ gw := gw_of (ab_tl_in (pos := 7068) rfl) rfl
set_option maxRecDepth 100000 in
theorem mC218 : Cond.code mM218.1 mM218.2.1 mM218.2.2.1 mM218.2.2.2.1 ∈ gw := gw_of (ab_tl_in (pos := 7072) rfl) rfl
set_option maxRecDepth 100000 in
theorem mC219 : Cond.code mM219.1 mM219.2.1 mM219.2.2.1 mM219.2.2.2.1 ∈ gw := gw_of (ab_tl_in (pos := 7076) rfl) rfl
set_option maxRecDepth 100000 in
theorem mC220 : Cond.code mM220.1 mM220.2.1 mM220.2.2.1 mM220.2.2.2.1 ∈ gw := gw_of (ab_tl_in (pos := 7080) rfl) rfl
set_option maxRecDepth 100000 in
theorem mC221 : Cond.code mM221.1 mM221.2.1 mM221.2.2.1 mM221.2.2.2.1 ∈ gw := gw_of (ab_tl_in (pos := 7084) rfl) rfl
set_option maxRecDepth 100000 in
theorem mC222 : Cond.code mM222.1 mM222.2.1 mM222.2.2.1 mM222.2.2.2.1 ∈ gw := gw_of (ab_tl_in (pos := 7088) rfl) rfl
set_option maxRecDepth 100000 in
theorem mC223 : Cond.code mM223.1 mM223.2.1 mM223.2.2.1 mM223.2.2.2.1 ∈ gw := gw_of (ab_tl_in (pos := 7092) rfl) rfl
set_option maxRecDepth 100000 in
theorem mC224 : Cond.code mM224.1 mM224.2.1 mM224.2.2.1 mM224.2.2.2.1 ∈ gw := gw_of (ab_tl_in (pos := 7096) rfl) rfl
set_option maxRecDepth 100000 in
theorem mC225 : Cond.code mM225.1 mM225.2.1 mM225.2.2.1 mM225.2.2.2.1 ∈ gw := gw_of (ab_tl_in (pos := 7099) rfl) rfl
set_option maxRecDepth 100000 in
theorem mC226 : Cond.code mM226.1 mM226.2.1 mM226.2.2.1 mM226.2.2.2.1 ∈ gw := gw_of (ab_tl_in (pos := 7104) rfl) rfl
set_option maxRecDepth 100000 in
theorem mC227 : Cond.code mM227.1 mM227.2.1 mM227.2.2.1 mM227.2.2.2.1 ∈ gw := gw_of (ab_tl_in (pos := 7108) rfl) rfl
set_option maxRecDepth 100000 in
theorem mC228 : Cond.code mM228.1 mM228.2.1 mM228.2.2.1 mM228.2.2.2.1 ∈ gw := gw_of (ab_tl_in (pos := 7112) rfl) rfl
set_option maxRecDepth 100000 in
theorem mC229 : Cond.code mM229.1 mM229.2.1 mM229.2.2.1 mM229.2.2.2.1 ∈ gw := gw_of (ab_tl_in (pos := 7116) rfl) rfl
set_option maxRecDepth 100000 in
theorem mC230 : Cond.code mM230.1 mM230.2.1 mM230.2.2.1 mM230.2.2.2.1 ∈ gw := gw_of (ab_tl_in (pos := 7122) rfl) rfl
set_option maxRecDepth 100000 in
theorem mC231 : Cond.code mM231.1 mM231.2.1 mM231.2.2.1 mM231.2.2.2.1 ∈ gw := gw_of (ab_tl_in (pos := 7126) rfl) rfl
set_option maxRecDepth 100000 in
theorem mC232 : Cond.code mM232.1 mM232.2.1 mM232.2.2.1 mM232.2.2.2.1 ∈ gw := gw_of (ab_tl_in (pos := 7130) rfl) rfl
set_option maxRecDepth 100000 in
theorem mC233 : Cond.code mM233.1 mM233.2.1 mM233.2.2.1 mM233.2.2.2.1 ∈ gw := gw_of (ab_tl_in (pos := 7135) rfl) rfl
set_option maxRecDepth 100000 in
theorem mC234 : Cond.code mM234.1 mM234.2.1 mM234.2.2.1 mM234.2.2.2.1 ∈ gw := gw_of (ab_tl_in (pos := 7141) rfl) rfl
set_option maxRecDepth 100000 in
theorem mC235 : Cond.code mM235.1 mM235.2.1 mM235.2.2.1 mM235.2.2.2.1 ∈ gw := gw_of (ab_tl_in (pos := 7145) rfl) rfl
set_option maxRecDepth 100000 in
theorem mC236 : Cond.code mM236.1 mM236.2.1 mM236.2.2.1 mM236.2.2.2.1 ∈ gw := gw_of (ab_tl_in (pos := 7149) rfl) rfl
set_option maxRecDepth 100000 in
theorem mC237 : Cond.code mM237.1 mM237.2.1 mM237.2.2.1 mM237.2.2.2.1 ∈ gw := gw_of (ab_tl_in (pos := 7153) rfl) rfl
set_option maxRecDepth 100000 in
theorem mC238 : Cond.code mM238.1 mM238.2.1 mM238.2.2.1 mM238.2.2.2.1 ∈ gw := gw_of (ab_tl_in (pos := 7158) rfl) rfl
set_option maxRecDepth 100000 in
theorem mC239 : Cond.code mM239.1 mM239.2.1 mM239.2.2.1 mM239.2.2.2.1 ∈ gw := gw_of (ab_tl_in (pos := 7162) rfl) rfl
set_option maxRecDepth 100000 in
theorem mP5_c : ∀ z ∈ mP5, Cond.code (ab_mtT z.1).1 (ab_mtT z.1).2.1 (ab_mtT z.1).2.2.1 (ab_mtT z.1).2.2.2.1 ∈ gw := List.forall_mem_cons.mpr ⟨mC200, List.forall_mem_cons.mpr ⟨mC201, List.forall_mem_cons.mpr ⟨mC202, List.forall_mem_cons.mpr ⟨mC203, List.forall_mem_cons.mpr ⟨mC204, List.forall_mem_cons.mpr ⟨mC205, List.forall_mem_cons.mpr ⟨mC206, List.forall_mem_cons.mpr ⟨mC207, List.forall_mem_cons.mpr ⟨mC208, List.forall_mem_cons.mpr ⟨mC209, List.forall_mem_cons.mpr ⟨mC210, List.forall_mem_cons.mpr ⟨mC211, List.forall_mem_cons.mpr ⟨mC212, List.forall_mem_cons.mpr ⟨mC213, List.forall_mem_cons.mpr ⟨mC214, List.forall_mem_cons.mpr ⟨mC215, List.forall_mem_cons.mpr ⟨mC216, List.forall_mem_cons.mpr ⟨mC217, List.forall_mem_cons.mpr ⟨mC218, List.forall_mem_cons.mpr ⟨mC219, List.forall_mem_cons.mpr ⟨mC220, List.forall_mem_cons.mpr ⟨mC221, List.forall_mem_cons.mpr ⟨mC222, List.forall_mem_cons.mpr ⟨mC223, List.forall_mem_cons.mpr ⟨mC224, List.forall_mem_cons.mpr ⟨mC225, List.forall_mem_cons.mpr ⟨mC226, List.forall_mem_cons.mpr ⟨mC227, List.forall_mem_cons.mpr ⟨mC228, List.forall_mem_cons.mpr ⟨mC229, List.forall_mem_cons.mpr ⟨mC230, List.forall_mem_cons.mpr ⟨mC231, List.forall_mem_cons.mpr ⟨mC232, List.forall_mem_cons.mpr ⟨mC233, List.forall_mem_cons.mpr ⟨mC234, List.forall_mem_cons.mpr ⟨mC235, List.forall_mem_cons.mpr ⟨mC236, List.forall_mem_cons.mpr ⟨mC237, List.forall_mem_cons.mpr ⟨mC238, List.forall_mem_cons.mpr ⟨mC239, fun _ h => absurd h List.not_mem_nil⟩⟩⟩⟩⟩⟩⟩⟩⟩⟩⟩⟩⟩⟩⟩⟩⟩⟩⟩⟩⟩⟩⟩⟩⟩⟩⟩⟩⟩⟩⟩⟩⟩⟩⟩⟩⟩⟩⟩⟩
set_option maxRecDepth 100000 in
theorem mP5_ok : mP5.all (fun z => Nat.beq (ab_kb z.1).1 z.2.1 && Nat.beq (ab_kb z.1).2 z.2.2.1 && ab_kokB (ab_mtT z.1) z.2.1 z.2.2.1 z.2.2.2) = true := by decide +kernel
def mP6 : List (Nat × Nat × Nat × Nat × Nat × Nat × Nat) := [(240, 1, 0, 7167, 20, 7165, 14093), (241, 0, 1, 7170, 20, 7169, 0), (242, 1, 1, 7174, 20, 7173, 14094), (243, 0, 1, 7177, 20, 7176, 0), (244, 1, 4, 7181, 20, 7180, 14095), (245, 0, 3, 7184, 20, 7183, 0), (246, 0, 1, 7187, 20, 7186, 0), (247, 0, 1, 7190, 20, 7189, 0), (248, 1, 2, 7194, 20, 7193, 14096), (249, 1, 2, 7198, 20, 7197, 14097), (250, 1, 2, 7202, 20, 7201, 14098), (251, 0, 1, 7205, 20, 7204, 0), (252, 1, 3, 7209, 20, 7208, 14099), (253, 1, 1, 7213, 20, 7212, 14100), (254, 1, 2, 7217, 20, 7216, 14101), (255, 1, 1, 7221, 20, 7220, 14102), (256, 1, 4, 7225, 20, 7224, 14103), (257, 0, 1, 7228, 20, 7227, 0), (258, 1, 2, 7232, 20, 7231, 14104), (259, 1, 2, 7236, 20, 7235, 14105), (260, 0, 4, 8000, 20, 7239, 0), (261, 1, 2, 8008, 20, 8007, 14106), (262, 0, 5, 8011, 20, 8010, 0), (263, 1, 1, 8015, 20, 8013, 8014), (264, 1, 1, 8019, 20, 8018, 14107), (265, 1, 4, 8023, 20, 8022, 14108), (266, 1, 1, 8027, 20, 8026, 14109), (267, 1, 1, 8031, 20, 8030, 14110), (268, 1, 3, 8035, 20, 8034, 14111), (269, 1, 1, 8039, 20, 8038, 14112), (270, 0, 1, 8042, 20, 8041, 0), (271, 1, 2, 8046, 20, 8044, 8045), (272, 1, 2, 8050, 20, 8048, 8049), (273, 1, 1, 8054, 20, 8052, 8053), (274, 2, 0, 8058, 20, 8057, 0), (275, 1, 0, 8064, 20, 8063, 14113), (276, 1, 1, 8068, 20, 8067, 14114), (277, 1, 5, 10149, 20, 10147, 10148), (278, 1, 1, 10153, 20, 10152, 14115), (279, 1, 1, 10157, 20, 10155, 10156)]
set_option maxRecDepth 100000 in
theorem mC240 : Cond.code mM240.1 mM240.2.1 mM240.2.2.1 mM240.2.2.2.1 ∈ gw := gw_of (ab_tl_in (pos := 7167) rfl) rfl
set_option maxRecDepth 100000 in
theorem mC241 : Cond.code mM241.1 mM241.2.1 mM241.2.2.1 mM241.2.2.2.1 ∈ gw := gw_of (ab_tl_in (pos := 7170) rfl) rfl
set_option maxRecDepth 100000 in
theorem mC242 : Cond.code mM242.1 mM242.2.1 mM242.2.2.1 mM242.2.2.2.1 ∈ gw := gw_of (ab_tl_in (pos := 7174) rfl) rfl
set_option maxRecDepth 100000 in
theorem mC243 : Cond.code mM243.1 mM243.2.1 mM243.2.2.1 mM243.2.2.2.1 ∈ gw := gw_of (ab_tl_in (pos := 7177) rfl) rfl
set_option maxRecDepth 100000 in
theorem mC244 : Cond.code mM244.1 mM244.2.1 mM244.2.2.1 mM244.2.2.2.1 ∈ gw := gw_of (ab_tl_in (pos := 7181) rfl) rfl
set_option maxRecDepth 100000 in
theorem mC245 : Cond.code mM245.1 mM245.2.1 mM245.2.2.1 mM245.2.2.2.1 ∈ gw := gw_of (ab_tl_in (pos := 7184) rfl) rfl
set_option maxRecDepth 100000 in
theorem mC246 : Cond.code mM246.1 mM246.2.1 mM246.2.2.1 mM246.2.2.2.1 ∈ gw := gw_of (ab_tl_in (pos := 7187) rfl) rfl
set_option maxRecDepth 100000 in
theorem mC247 : Cond.code mM247.1 mM247.2.1 mM247.2.2.1 mM247.2.2.2.1 ∈ gw := gw_of (ab_tl_in (pos := 7190) rfl) rfl
set_option maxRecDepth 100000 in
theorem mC248 : Cond.code mM248.1 mM248.2.1 mM248.2.2.1 mM248.2.2.2.1 ∈ gw := gw_of (ab_tl_in (pos := 7194) rfl) rfl
set_option maxRecDepth 100000 in
theorem mC249 : Cond.code mM249.1 mM249.2.1 mM249.2.2.1 mM249.2.2.2.1 ∈ gw := gw_of (ab_tl_in (pos := 7198) rfl) rfl
set_option maxRecDepth 100000 in
theorem mC250 : Cond.code mM250.1 mM250.2.1 mM250.2.2.1 mM250.2.2.2.1 ∈ gw := gw_of (ab_tl_in (pos := 7202) rfl) rfl
set_option maxRecDepth 100000 in
theorem mC251 : Cond.code mM251.1 mM251.2.1 mM251.2.2.1 mM251.2.2.2.1 ∈ gw := gw_of (ab_tl_in (pos := 7205) rfl) rfl
set_option maxRecDepth 100000 in
theorem mC252 : Cond.code mM252.1 mM252.2.1 mM252.2.2.1 mM252.2.2.2.1 ∈ gw := gw_of (ab_tl_in (pos := 7209) rfl) rfl
set_option maxRecDepth 100000 in
theorem mC253 : Cond.code mM253.1 mM253.2.1 mM253.2.2.1 mM253.2.2.2.1 ∈ gw := gw_of (ab_tl_in (pos := 7213) rfl) rfl
set_option maxRecDepth 100000 in
theorem mC254 : Cond.code mM254.1 mM254.2.1 mM254.2.2.1 mM254.2.2.2.1 ∈ gw := gw_of (ab_tl_in (pos := 7217) rfl) rfl
set_option maxRecDepth 100000 in
theorem mC255 : Cond.code mM255.1 mM255.2.1 mM255.2.2.1 mM255.2.2.2.1 ∈ gw := gw_of (ab_tl_in (pos := 7221) rfl) rfl
set_option maxRecDepth 100000 in
theorem mC256 : Cond.code mM256.1 mM256.2.1 mM256.2.2.1 mM256.2.2.2.1 ∈ gw := gw_of (ab_tl_in (pos := 7225) rfl) rfl
set_option maxRecDepth 100000 in
theorem mC257 : Cond.code mM257.1 mM257.2.1 mM257.2.2.1 mM257.2.2.2.1 ∈ gw := gw_of (ab_tl_in (pos := 7228) rfl) rfl
set_option maxRecDepth 100000 in
theorem mC258 : Cond.code mM258.1 mM258.2.1 mM258.2.2.1 mM258.2.2.2.1 ∈ gw := gw_of (ab_tl_in (pos := 7232) rfl) rfl
set_option maxRecDepth 100000 in
theorem mC259 : Cond.code mM259.1 mM259.2.1 mM259.2.2.1 mM259.2.2.2.1 ∈ gw := gw_of (ab_tl_in (pos := 7236) rfl) rfl
set_option maxRecDepth 100000 in
theorem mC260 : Cond.code mM260.1 mM260.2.1 mM260.2.2.1 mM260.2.2.2.1 ∈ gw := gw_of (ab_tl_in (pos := 8000) rfl) rfl
set_option maxRecDepth 100000 in
theorem mC261 : Cond.code mM261.1 mM261.2.1 mM261.2.2.1 mM261.2.2.2.1 ∈ gw := gw_of (ab_tl_in (pos := 8008) rfl) rfl
set_option maxRecDepth 100000 in
theorem mC262 : Cond.code mM262.1 mM262.2.1 mM262.2.2.1 mM262.2.2.2.1 ∈ gw := gw_of (ab_tl_in (pos := 8011) rfl) rfl
set_option maxRecDepth 100000 in
theorem mC263 : Cond.code mM263.1 mM263.2.1 mM263.2.2.1 mM263.2.2.2.1 ∈ gw := gw_of (ab_tl_in (pos := 8015) rfl) rfl
set_option maxRecDepth 100000 in
theorem mC264 : Cond.code mM264.1 mM264.2.1 mM264.2.2.1 mM264.2.2.2.1 ∈ gw := gw_of (ab_tl_in (pos := 8019) rfl) rfl
set_option maxRecDepth 100000 in
theorem mC265 : Cond.code mM265.1 mM265.2.1 mM265.2.2.1 mM265.2.2.2.1 ∈ gw := gw_of (ab_tl_in (pos := 8023) rfl) rfl
set_option maxRecDepth 100000 in
theorem mC266 : Cond.code mM266.1 mM266.2.1 mM266.2.2.1 mM266.2.2.2.1 ∈ gw := gw_of (ab_tl_in (pos := 8027) rfl) rfl
set_option maxRecDepth 100000 in
theorem mC267 : Cond.code mM267.1 mM267.2.1 mM267.2.2.1 mM267.2.2.2.1 ∈ gw := gw_of (ab_tl_in (pos := 8031) rfl) rfl
set_option maxRecDepth 100000 in
theorem mC268 : Cond.code mM268.1 mM268.2.1 mM268.2.2.1 mM268.2.2.2.1 ∈ gw := gw_of (ab_tl_in (pos := 8035) rfl) rfl
set_option maxRecDepth 100000 in
theorem mC269 : Cond.code mM269.1 mM269.2.1 mM269.2.2.1 mM269.2.2.2.1 ∈ gw := gw_of (ab_tl_in (pos := 8039) rfl) rfl
set_option maxRecDepth 100000 in
theorem mC270 : Cond.code mM270.1 mM270.2.1 mM270.2.2.1 mM270.2.2.2.1 ∈ gw := gw_of (ab_tl_in (pos := 8042) rfl) rfl
set_option maxRecDepth 100000 in
theorem mC271 : Cond.code mM271.1 mM271.2.1 mM271.2.2.1 mM271.2.2.2.1 ∈ gw := gw_of (ab_tl_in (pos := 8046) rfl) rfl
set_option maxRecDepth 100000 in
theorem mC272 : Cond.code mM272.1 mM272.2.1 mM272.2.2.1 mM272.2.2.2.1 ∈ gw := gw_of (ab_tl_in (pos := 8050) rfl) rfl
set_option maxRecDepth 100000 in
theorem mC273 : Cond.code mM273.1 mM273.2.1 mM273.2.2.1 mM273.2.2.2.1 ∈ gw := gw_of (ab_tl_in (pos := 8054) rfl) rfl
set_option maxRecDepth 100000 in
theorem mC274 : Cond.code mM274.1 mM274.2.1 mM274.2.2.1 mM274.2.2.2.1 ∈ gw := gw_of (ab_tl_in (pos := 8058) rfl) rfl
set_option maxRecDepth 100000 in
theorem mC275 : Cond.code mM275.1 mM275.2.1 mM275.2.2.1 mM275.2.2.2.1 ∈ gw := gw_of (ab_tl_in (pos := 8064) rfl) rfl
set_option maxRecDepth 100000 in
theorem mC276 : Cond.code mM276.1 mM276.2.1 mM276.2.2.1 mM276.2.2.2.1 ∈ gw := gw_of (ab_tl_in (pos := 8068) rfl) rfl
set_option maxRecDepth 100000 in
theorem mC277 : Cond.code mM277.1 mM277.2.1 mM277.2.2.1 mM277.2.2.2.1 ∈ gw := gw_of (ab_tl_in (pos := 10149) rfl) rfl
set_option maxRecDepth 100000 in
theorem mC278 : Cond.code mM278.1 mM278.2.1 mM278.2.2.1 mM278.2.2.2.1 ∈ gw := gw_of (ab_tl_in (pos := 10153) rfl) rfl
set_option maxRecDepth 100000 in
theorem mC279 : Cond.code mM279.1 mM279.2.1 mM279.2.2.1 mM279.2.2.2.1 ∈ gw := gw_of (ab_tl_in (pos := 10157) rfl) rfl
set_option maxRecDepth 100000 in
theorem mP6_c : ∀ z ∈ mP6, Cond.code (ab_mtT z.1).1 (ab_mtT z.1).2.1 (ab_mtT z.1).2.2.1 (ab_mtT z.1).2.2.2.1 ∈ gw := List.forall_mem_cons.mpr ⟨mC240, List.forall_mem_cons.mpr ⟨mC241, List.forall_mem_cons.mpr ⟨mC242, List.forall_mem_cons.mpr ⟨mC243, List.forall_mem_cons.mpr ⟨mC244, List.forall_mem_cons.mpr ⟨mC245, List.forall_mem_cons.mpr ⟨mC246, List.forall_mem_cons.mpr ⟨mC247, List.forall_mem_cons.mpr ⟨mC248, List.forall_mem_cons.mpr ⟨mC249, List.forall_mem_cons.mpr ⟨mC250, List.forall_mem_cons.mpr ⟨mC251, List.forall_mem_cons.mpr ⟨mC252, List.forall_mem_cons.mpr ⟨mC253, List.forall_mem_cons.mpr ⟨mC254, List.forall_mem_cons.mpr ⟨mC255, List.forall_mem_cons.mpr ⟨mC256, List.forall_mem_cons.mpr ⟨mC257, List.forall_mem_cons.mpr ⟨mC258, List.forall_mem_cons.mpr ⟨mC259, List.forall_mem_cons.mpr ⟨mC260, List.forall_mem_cons.mpr ⟨mC261, List.forall_mem_cons.mpr ⟨mC262, List.forall_mem_cons.mpr ⟨mC263, List.forall_mem_cons.mpr ⟨mC264, List.forall_mem_cons.mpr ⟨mC265, List.forall_mem_cons.mpr ⟨mC266, List.forall_mem_cons.mpr ⟨mC267, List.forall_mem_cons.mpr ⟨mC268, List.forall_mem_cons.mpr ⟨mC269, List.forall_mem_cons.mpr ⟨mC270, List.forall_mem_cons.mpr ⟨mC271, List.forall_mem_cons.mpr ⟨mC272, List.forall_mem_cons.mpr ⟨mC273, List.forall_mem_cons.mpr ⟨mC274, List.forall_mem_cons.mpr ⟨mC275, List.forall_mem_cons.mpr ⟨mC276, List.forall_mem_cons.mpr ⟨mC277, List.forall_mem_cons.mpr ⟨mC278, List.forall_mem_cons.mpr ⟨mC279, fun _ h => absurd h List.not_mem_nil⟩⟩⟩⟩⟩⟩⟩⟩⟩⟩⟩⟩⟩⟩⟩⟩⟩⟩⟩⟩⟩⟩⟩⟩⟩⟩⟩⟩⟩⟩⟩⟩⟩⟩⟩⟩⟩⟩⟩⟩
set_option maxRecDepth 100000 in
theorem mP6_ok : mP6.all (fun z => Nat.beq (ab_kb z.1).1 z.2.1 && Nat.beq (ab_kb z.1).2 z.2.2.1 && ab_kokB (ab_mtT z.1) z.2.1 z.2.2.1 z.2.2.2) = true := by decide +kernel
def mP7 : List (Nat × Nat × Nat × Nat × Nat × Nat × Nat) := [(280, 1, 1, 10161, 20, 10159, 10160), (281, 1, 0, 10165, 20, 10163, 10164), (282, 1, 0, 10169, 20, 10168, 14116), (283, 1, 1, 10173, 20, 10172, 14117), (284, 1, 0, 10177, 20, 10175, 10176), (285, 1, 0, 10181, 20, 10180, 14118), (286, 1, 0, 10185, 20, 10184, 14119), (287, 1, 0, 10189, 20, 10188, 14120), (288, 1, 0, 10193, 20, 10192, 14121), (289, 1, 0, 10197, 20, 10196, 14122), (290, 1, 0, 10201, 20, 10200, 14123), (291, 1, 0, 10205, 20, 10204, 14124), (292, 1, 1, 10209, 20, 10208, 14125), (293, 1, 1, 10213, 20, 10212, 14126), (294, 1, 1, 10217, 20, 10216, 14127), (295, 1, 0, 10221, 20, 10220, 14128), (296, 1, 0, 10225, 20, 10224, 14129), (297, 1, 1, 10229, 20, 10228, 14130), (298, 1, 4, 10233, 20, 10232, 14131), (299, 0, 1, 10236, 20, 10235, 0), (300, 1, 2, 11015, 20, 11014, 14132), (301, 1, 1, 11019, 20, 11018, 14133), (302, 1, 1, 11023, 20, 11022, 14134), (303, 0, 1, 11026, 20, 11025, 0), (304, 1, 2, 11030, 20, 11029, 14135), (305, 1, 3, 11034, 20, 11033, 14136), (306, 1, 1, 11038, 20, 11037, 14137), (307, 1, 1, 11042, 20, 11041, 14138), (308, 0, 1, 11045, 20, 11044, 0), (309, 1, 1, 11049, 20, 11048, 14139), (310, 0, 3, 11052, 20, 11051, 0), (311, 0, 1, 11055, 20, 11054, 0), (312, 1, 2, 11059, 20, 11058, 14140), (313, 1, 3, 11063, 20, 11062, 14141), (314, 1, 2, 11067, 20, 11066, 14142), (315, 0, 1, 11070, 20, 11069, 0), (316, 1, 2, 11074, 20, 11073, 14143), (317, 1, 1, 11078, 20, 11077, 14144), (318, 1, 2, 11083, 20, 11082, 14145), (319, 1, 1, 11088, 20, 11087, 14146)]
set_option maxRecDepth 100000 in
theorem mC280 : Cond.code mM280.1 mM280.2.1 mM280.2.2.1 mM280.2.2.2.1 ∈ gw := gw_of (ab_tl_in (pos := 10161) rfl) rfl
set_option maxRecDepth 100000 in
theorem mC281 : Cond.code mM281.1 mM281.2.1 mM281.2.2.1 mM281.2.2.2.1 ∈ gw := gw_of (ab_tl_in (pos := 10165) rfl) rfl
set_option maxRecDepth 100000 in
theorem mC282 : Cond.code mM282.1 mM282.2.1 mM282.2.2.1 mM282.2.2.2.1 ∈ gw := gw_of (ab_tl_in (pos := 10169) rfl) rfl
set_option maxRecDepth 100000 in
theorem mC283 : Cond.code mM283.1 mM283.2.1 mM283.2.2.1 mM283.2.2.2.1 ∈ gw := gw_of (ab_tl_in (pos := 10173) rfl) rfl
set_option maxRecDepth 100000 in
theorem mC284 : Cond.code mM284.1 mM284.2.1 mM284.2.2.1 mM284.2.2.2.1 ∈ gw := gw_of (ab_tl_in (pos := 10177) rfl) rfl
set_option maxRecDepth 100000 in
theorem mC285 : Cond.code mM285.1 mM285.2.1 mM285.2.2.1 mM285.2.2.2.1 ∈ gw := gw_of (ab_tl_in (pos := 10181) rfl) rfl
set_option maxRecDepth 100000 in
theorem mC286 : Cond.code mM286.1 mM286.2.1 mM286.2.2.1 mM286.2.2.2.1 ∈ gw := gw_of (ab_tl_in (pos := 10185) rfl) rfl
set_option maxRecDepth 100000 in
theorem mC287 : Cond.code mM287.1 mM287.2.1 mM287.2.2.1 mM287.2.2.2.1 ∈ gw := gw_of (ab_tl_in (pos := 10189) rfl) rfl
set_option maxRecDepth 100000 in
theorem mC288 : Cond.code mM288.1 mM288.2.1 mM288.2.2.1 mM288.2.2.2.1 ∈ gw := gw_of (ab_tl_in (pos := 10193) rfl) rfl
set_option maxRecDepth 100000 in
theorem mC289 : Cond.code mM289.1 mM289.2.1 mM289.2.2.1 mM289.2.2.2.1 ∈ gw := gw_of (ab_tl_in (pos := 10197) rfl) rfl
set_option maxRecDepth 100000 in
theorem mC290 : Cond.code mM290.1 mM290.2.1 mM290.2.2.1 mM290.2.2.2.1 ∈ gw := gw_of (ab_tl_in (pos := 10201) rfl) rfl
set_option maxRecDepth 100000 in
theorem mC291 : Cond.code mM291.1 mM291.2.1 mM291.2.2.1 mM291.2.2.2.1 ∈ gw := gw_of (ab_tl_in (pos := 10205) rfl) rfl
set_option maxRecDepth 100000 in
theorem mC292 : Cond.code mM292.1 mM292.2.1 mM292.2.2.1 mM292.2.2.2.1 ∈ gw := gw_of (ab_tl_in (pos := 10209) rfl) rfl
set_option maxRecDepth 100000 in
theorem mC293 : Cond.code mM293.1 mM293.2.1 mM293.2.2.1 mM293.2.2.2.1 ∈ gw := gw_of (ab_tl_in (pos := 10213) rfl) rfl
set_option maxRecDepth 100000 in
theorem mC294 : Cond.code mM294.1 mM294.2.1 mM294.2.2.1 mM294.2.2.2.1 ∈ gw := gw_of (ab_tl_in (pos := 10217) rfl) rfl
set_option maxRecDepth 100000 in
theorem mC295 : Cond.code mM295.1 mM295.2.1 mM295.2.2.1 mM295.2.2.2.1 ∈ gw := gw_of (ab_tl_in (pos := 10221) rfl) rfl
set_option maxRecDepth 100000 in
theorem mC296 : Cond.code mM296.1 mM296.2.1 mM296.2.2.1 mM296.2.2.2.1 ∈ gw := gw_of (ab_tl_in (pos := 10225) rfl) rfl
set_option maxRecDepth 100000 in
theorem mC297 : Cond.code mM297.1 mM297.2.1 mM297.2.2.1 mM297.2.2.2.1 ∈ gw := gw_of (ab_tl_in (pos := 10229) rfl) rfl
set_option maxRecDepth 100000 in
theorem mC298 : Cond.code mM298.1 mM298.2.1 mM298.2.2.1 mM298.2.2.2.1 ∈ gw := gw_of (ab_tl_in (pos := 10233) rfl) rfl
set_option maxRecDepth 100000 in
theorem mC299 : Cond.code mM299.1 mM299.2.1 mM299.2.2.1 mM299.2.2.2.1 ∈ gw := gw_of (ab_tl_in (pos := 10236) rfl) rfl
set_option maxRecDepth 100000 in
theorem mC300 : Cond.code mM300.1 mM300.2.1 mM300.2.2.1 mM300.2.2.2.1 ∈ gw := gw_of (ab_tl_in (pos := 11015) rfl) rfl
set_option maxRecDepth 100000 in
theorem mC301 : Cond.code mM301.1 mM301.2.1 mM301.2.2.1 mM301.2.2.2.1 ∈ gw := gw_of (ab_tl_in (pos := 11019) rfl) rfl
set_option maxRecDepth 100000 in
theorem mC302 : Cond.code mM302.1 mM302.2.1 mM302.2.2.1 mM302.2.2.2.1 ∈ gw := gw_of (ab_tl_in (pos := 11023) rfl) rfl
set_option maxRecDepth 100000 in
theorem mC303 : Cond.code mM303.1 mM303.2.1 mM303.2.2.1 mM303.2.2.2.1 ∈ gw := gw_of (ab_tl_in (pos := 11026) rfl) rfl
set_option maxRecDepth 100000 in
theorem mC304 : Cond.code mM304.1 mM304.2.1 mM304.2.2.1 mM304.2.2.2.1 ∈ gw := gw_of (ab_tl_in (pos := 11030) rfl) rfl
set_option maxRecDepth 100000 in
theorem mC305 : Cond.code mM305.1 mM305.2.1 mM305.2.2.1 mM305.2.2.2.1 ∈ gw := gw_of (ab_tl_in (pos := 11034) rfl) rfl
set_option maxRecDepth 100000 in
theorem mC306 : Cond.code mM306.1 mM306.2.1 mM306.2.2.1 mM306.2.2.2.1 ∈ gw := gw_of (ab_tl_in (pos := 11038) rfl) rfl
set_option maxRecDepth 100000 in
theorem mC307 : Cond.code mM307.1 mM307.2.1 mM307.2.2.1 mM307.2.2.2.1 ∈ gw := gw_of (ab_tl_in (pos := 11042) rfl) rfl
set_option maxRecDepth 100000 in
theorem mC308 : Cond.code mM308.1 mM308.2.1 mM308.2.2.1 mM308.2.2.2.1 ∈ gw := gw_of (ab_tl_in (pos := 11045) rfl) rfl
set_option maxRecDepth 100000 in
theorem mC309 : Cond.code mM309.1 mM309.2.1 mM309.2.2.1 mM309.2.2.2.1 ∈ gw := gw_of (ab_tl_in (pos := 11049) rfl) rfl
set_option maxRecDepth 100000 in
theorem mC310 : Cond.code mM310.1 mM310.2.1 mM310.2.2.1 mM310.2.2.2.1 ∈ gw := gw_of (ab_tl_in (pos := 11052) rfl) rfl
set_option maxRecDepth 100000 in
theorem mC311 : Cond.code mM311.1 mM311.2.1 mM311.2.2.1 mM311.2.2.2.1 ∈ gw := gw_of (ab_tl_in (pos := 11055) rfl) rfl
set_option maxRecDepth 100000 in
theorem mC312 : Cond.code mM312.1 mM312.2.1 mM312.2.2.1 mM312.2.2.2.1 ∈ gw := gw_of (ab_tl_in (pos := 11059) rfl) rfl
set_option maxRecDepth 100000 in
theorem mC313 : Cond.code mM313.1 mM313.2.1 mM313.2.2.1 mM313.2.2.2.1 ∈ gw := gw_of (ab_tl_in (pos := 11063) rfl) rfl
set_option maxRecDepth 100000 in
theorem mC314 : Cond.code mM314.1 mM314.2.1 mM314.2.2.1 mM314.2.2.2.1 ∈ gw := gw_of (ab_tl_in (pos := 11067) rfl) rfl
set_option maxRecDepth 100000 in
theorem mC315 : Cond.code mM315.1 mM315.2.1 mM315.2.2.1 mM315.2.2.2.1 ∈ gw := gw_of (ab_tl_in (pos := 11070) rfl) rfl
set_option maxRecDepth 100000 in
theorem mC316 : Cond.code mM316.1 mM316.2.1 mM316.2.2.1 mM316.2.2.2.1 ∈ gw := gw_of (ab_tl_in (pos := 11074) rfl) rfl
set_option maxRecDepth 100000 in
theorem mC317 : Cond.code mM317.1 mM317.2.1 mM317.2.2.1 mM317.2.2.2.1 ∈ gw := gw_of (ab_tl_in (pos := 11078) rfl) rfl
set_option maxRecDepth 100000 in
theorem mC318 : Cond.code mM318.1 mM318.2.1 mM318.2.2.1 mM318.2.2.2.1 ∈ gw := gw_of (ab_tl_in (pos := 11083) rfl) rfl
set_option maxRecDepth 100000 in
theorem mC319 : Cond.code mM319.1 mM319.2.1 mM319.2.2.1 mM319.2.2.2.1 ∈ gw := gw_of (ab_tl_in (pos := 11088) rfl) rfl
set_option maxRecDepth 100000 in
theorem mP7_c : ∀ z ∈ mP7, Cond.code (ab_mtT z.1).1 (ab_mtT z.1).2.1 (ab_mtT z.1).2.2.1 (ab_mtT z.1).2.2.2.1 ∈ gw := List.forall_mem_cons.mpr ⟨mC280, List.forall_mem_cons.mpr ⟨mC281, List.forall_mem_cons.mpr ⟨mC282, List.forall_mem_cons.mpr ⟨mC283, List.forall_mem_cons.mpr ⟨mC284, List.forall_mem_cons.mpr ⟨mC285, List.forall_mem_cons.mpr ⟨mC286, List.forall_mem_cons.mpr ⟨mC287, List.forall_mem_cons.mpr ⟨mC288, List.forall_mem_cons.mpr ⟨mC289, List.forall_mem_cons.mpr ⟨mC290, List.forall_mem_cons.mpr ⟨mC291, List.forall_mem_cons.mpr ⟨mC292, List.forall_mem_cons.mpr ⟨mC293, List.forall_mem_cons.mpr ⟨mC294, List.forall_mem_cons.mpr ⟨mC295, List.forall_mem_cons.mpr ⟨mC296, List.forall_mem_cons.mpr ⟨mC297, List.forall_mem_cons.mpr ⟨mC298, List.forall_mem_cons.mpr ⟨mC299, List.forall_mem_cons.mpr ⟨mC300, List.forall_mem_cons.mpr ⟨mC301, List.forall_mem_cons.mpr ⟨mC302, List.forall_mem_cons.mpr ⟨mC303, List.forall_mem_cons.mpr ⟨mC304, List.forall_mem_cons.mpr ⟨mC305, List.forall_mem_cons.mpr ⟨mC306, List.forall_mem_cons.mpr ⟨mC307, List.forall_mem_cons.mpr ⟨mC308, List.forall_mem_cons.mpr ⟨mC309, List.forall_mem_cons.mpr ⟨mC310, List.forall_mem_cons.mpr ⟨mC311, List.forall_mem_cons.mpr ⟨mC312, List.forall_mem_cons.mpr ⟨mC313, List.forall_mem_cons.mpr ⟨mC314, List.forall_mem_cons.mpr ⟨mC315, List.forall_mem_cons.mpr ⟨mC316, List.forall_mem_cons.mpr ⟨mC317, List.forall_mem_cons.mpr ⟨mC318, List.forall_mem_cons.mpr ⟨mC319, fun _ h => absurd h List.not_mem_nil⟩⟩⟩⟩⟩⟩⟩⟩⟩⟩⟩⟩⟩⟩⟩⟩⟩⟩⟩⟩⟩⟩⟩⟩⟩⟩⟩⟩⟩⟩⟩⟩⟩⟩⟩⟩⟩⟩⟩⟩
set_option maxRecDepth 100000 in
theorem mP7_ok : mP7.all (fun z => Nat.beq (ab_kb z.1).1 z.2.1 && Nat.beq (ab_kb z.1).2 z.2.2.1 && ab_kokB (ab_mtT z.1) z.2.1 z.2.2.1 z.2.2.2) = true := by decide +kernel
def mP8 : List (Nat × Nat × Nat × Nat × Nat × Nat × Nat) := [(320, 1, 0, 11095, 20, 11094, 14147), (321, 1, 0, 11099, 20, 11098, 14148), (322, 1, 1, 11104, 20, 11103, 14149), (323, 1, 2, 11108, 20, 11107, 14150), (324, 1, 2, 11112, 20, 11111, 14151), (325, 1, 1, 11116, 20, 11115, 14152), (326, 1, 2, 11120, 20, 11119, 14153), (327, 1, 0, 11124, 20, 11123, 14154), (328, 1, 2, 11128, 20, 11127, 14155), (329, 1, 2, 11132, 20, 11131, 14156), (330, 0, 1, 11135, 20, 11134, 0), (331, 1, 2, 11150, 20, 11149, 14157), (332, 1, 3, 11154, 20, 11153, 14158), (333, 1, 2, 11158, 20, 11157, 14159), (334, 1, 2, 11162, 20, 11161, 14160), (335, 1, 0, 11167, 20, 11166, 14161), (336, 1, 1, 11172, 20, 11171, 14162), (337, 1, 3, 11176, 20, 11175, 14163), (338, 1, 2, 11180, 20, 11179, 14164), (339, 1, 2, 11184, 20, 11183, 14165), (340, 1, 2, 11188, 20, 11187, 14166), (341, 1, 2, 11192, 20, 11191, 14167), (342, 1, 2, 11196, 20, 11195, 14168), (343, 1, 0, 11200, 20, 11198, 11199), (344, 1, 1, 11204, 20, 11202, 11203), (345, 1, 1, 11208, 20, 11206, 11207), (346, 1, 1, 11212, 20, 11210, 11211), (347, 1, 1, 11216, 20, 11215, 14169), (348, 1, 1, 11220, 20, 11218, 11219), (349, 1, 2, 11224, 20, 11222, 11223), (350, 1, 0, 11228, 20, 11226, 11227), (351, 1, 4, 11232, 20, 11231, 14170), (352, 1, 4, 11236, 20, 11235, 14171), (353, 1, 2, 12000, 20, 11239, 14172), (354, 1, 2, 12004, 20, 12003, 14173), (355, 1, 2, 12008, 20, 12007, 14174), (356, 1, 1, 12012, 20, 12010, 12011), (357, 1, 2, 12016, 20, 12014, 12015), (358, 1, 0, 12020, 20, 12019, 14175), (359, 1, 0, 12024, 20, 12023, 14176)]
set_option maxRecDepth 100000 in
theorem mC320 : Cond.code mM320.1 mM320.2.1 mM320.2.2.1 mM320.2.2.2.1 ∈ gw := gw_of (ab_tl_in (pos := 11095) rfl) rfl
set_option maxRecDepth 100000 in
theorem mC321 : Cond.code mM321.1 mM321.2.1 mM321.2.2.1 mM321.2.2.2.1 ∈ gw := gw_of (ab_tl_in (pos := 11099) rfl) rfl
set_option maxRecDepth 100000 in
theorem mC322 : Cond.code mM322.1 mM322.2.1 mM322.2.2.1 mM322.2.2.2.1 ∈ gw := gw_of (ab_tl_in (pos := 11104) rfl) rfl
set_option maxRecDepth 100000 in
theorem mC323 : Cond.code mM323.1 mM323.2.1 mM323.2.2.1 mM323.2.2.2.1 ∈ gw := gw_of (ab_tl_in (pos := 11108) rfl) rfl
set_option maxRecDepth 100000 in
theorem mC324 : Cond.code mM324.1 mM324.2.1 mM324.2.2.1 mM324.2.2.2.1 ∈ gw := gw_of (ab_tl_in (pos := 11112) rfl) rfl
set_option maxRecDepth 100000 in
theorem mC325 : Cond.code mM325.1 mM325.2.1 mM325.2.2.1 mM325.2.2.2.1 ∈ gw := gw_of (ab_tl_in (pos := 11116) rfl) rfl
set_option maxRecDepth 100000 in
theorem mC326 : Cond.code mM326.1 mM326.2.1 mM326.2.2.1 mM326.2.2.2.1 ∈ gw := gw_of (ab_tl_in (pos := 11120) rfl) rfl
set_option maxRecDepth 100000 in
theorem mC327 : Cond.code mM327.1 mM327.2.1 mM327.2.2.1 mM327.2.2.2.1 ∈ gw := gw_of (ab_tl_in (pos := 11124) rfl) rfl
set_option maxRecDepth 100000 in
theorem mC328 : Cond.code mM328.1 mM328.2.1 mM328.2.2.1 mM328.2.2.2.1 ∈ gw := gw_of (ab_tl_in (pos := 11128) rfl) rfl
set_option maxRecDepth 100000 in
theorem mC329 : Cond.code mM329.1 mM329.2.1 mM329.2.2.1 mM329.2.2.2.1 ∈ gw := gw_of (ab_tl_in (pos := 11132) rfl) rfl
set_option maxRecDepth 100000 in
theorem mC330 : Cond.code mM330.1 mM330.2.1 mM330.2.2.1 mM330.2.2.2.1 ∈ gw := gw_of (ab_tl_in (pos := 11135) rfl) rfl
set_option maxRecDepth 100000 in
theorem mC331 : Cond.code mM331.1 mM331.2.1 mM331.2.2.1 mM331.2.2.2.1 ∈ gw := gw_of (ab_tl_in (pos := 11150) rfl) rfl
set_option maxRecDepth 100000 in
theorem mC332 : Cond.code mM332.1 mM332.2.1 mM332.2.2.1 mM332.2.2.2.1 ∈ gw := gw_of (ab_tl_in (pos := 11154) rfl) rfl
set_option maxRecDepth 100000 in
theorem mC333 : Cond.code mM333.1 mM333.2.1 mM333.2.2.1 mM333.2.2.2.1 ∈ gw := gw_of (ab_tl_in (pos := 11158) rfl) rfl
set_option maxRecDepth 100000 in
theorem mC334 : Cond.code mM334.1 mM334.2.1 mM334.2.2.1 mM334.2.2.2.1 ∈ gw := gw_of (ab_tl_in (pos := 11162) rfl) rfl
set_option maxRecDepth 100000 in
theorem mC335 : Cond.code mM335.1 mM335.2.1 mM335.2.2.1 mM335.2.2.2.1 ∈ gw := gw_of (ab_tl_in (pos := 11167) rfl) rfl
set_option maxRecDepth 100000 in
theorem mC336 : Cond.code mM336.1 mM336.2.1 mM336.2.2.1 mM336.2.2.2.1 ∈ gw := gw_of (ab_tl_in (pos := 11172) rfl) rfl
set_option maxRecDepth 100000 in
theorem mC337 : Cond.code mM337.1 mM337.2.1 mM337.2.2.1 mM337.2.2.2.1 ∈ gw := gw_of (ab_tl_in (pos := 11176) rfl) rfl
set_option maxRecDepth 100000 in
theorem mC338 : Cond.code mM338.1 mM338.2.1 mM338.2.2.1 mM338.2.2.2.1 ∈ gw := gw_of (ab_tl_in (pos := 11180) rfl) rfl
set_option maxRecDepth 100000 in
theorem mC339 : Cond.code mM339.1 mM339.2.1 mM339.2.2.1 mM339.2.2.2.1 ∈ gw := gw_of (ab_tl_in (pos := 11184) rfl) rfl
set_option maxRecDepth 100000 in
theorem mC340 : Cond.code mM340.1 mM340.2.1 mM340.2.2.1 mM340.2.2.2.1 ∈ gw := gw_of (ab_tl_in (pos := 11188) rfl) rfl
set_option maxRecDepth 100000 in
theorem mC341 : Cond.code mM341.1 mM341.2.1 mM341.2.2.1 mM341.2.2.2.1 ∈ gw := gw_of (ab_tl_in (pos := 11192) rfl) rfl
set_option maxRecDepth 100000 in
theorem mC342 : Cond.code mM342.1 mM342.2.1 mM342.2.2.1 mM342.2.2.2.1 ∈ gw := gw_of (ab_tl_in (pos := 11196) rfl) rfl
set_option maxRecDepth 100000 in
theorem mC343 : Cond.code mM343.1 mM343.2.1 mM343.2.2.1 mM343.2.2.2.1 ∈ gw := gw_of (ab_tl_in (pos := 11200) rfl) rfl
set_option maxRecDepth 100000 in
theorem mC344 : Cond.code mM344.1 mM344.2.1 mM344.2.2.1 mM344.2.2.2.1 ∈ gw := gw_of (ab_tl_in (pos := 11204) rfl) rfl
set_option maxRecDepth 100000 in
theorem mC345 : Cond.code mM345.1 mM345.2.1 mM345.2.2.1 mM345.2.2.2.1 ∈ gw := gw_of (ab_tl_in (pos := 11208) rfl) rfl
set_option maxRecDepth 100000 in
theorem mC346 : Cond.code mM346.1 mM346.2.1 mM346.2.2.1 mM346.2.2.2.1 ∈ gw := gw_of (ab_tl_in (pos := 11212) rfl) rfl
set_option maxRecDepth 100000 in
theorem mC347 : Cond.code mM347.1 mM347.2.1 mM347.2.2.1 mM347.2.2.2.1 ∈ gw := gw_of (ab_tl_in (pos := 11216) rfl) rfl
set_option maxRecDepth 100000 in
theorem mC348 : Cond.code mM348.1 mM348.2.1 mM348.2.2.1 mM348.2.2.2.1 ∈ gw := gw_of (ab_tl_in (pos := 11220) rfl) rfl
set_option maxRecDepth 100000 in
theorem mC349 : Cond.code mM349.1 mM349.2.1 mM349.2.2.1 mM349.2.2.2.1 ∈ gw := gw_of (ab_tl_in (pos := 11224) rfl) rfl
set_option maxRecDepth 100000 in
theorem mC350 : Cond.code mM350.1 mM350.2.1 mM350.2.2.1 mM350.2.2.2.1 ∈ gw := gw_of (ab_tl_in (pos := 11228) rfl) rfl
set_option maxRecDepth 100000 in
theorem mC351 : Cond.code mM351.1 mM351.2.1 mM351.2.2.1 mM351.2.2.2.1 ∈ gw := gw_of (ab_tl_in (pos := 11232) rfl) rfl
set_option maxRecDepth 100000 in
theorem mC352 : Cond.code mM352.1 mM352.2.1 mM352.2.2.1 mM352.2.2.2.1 ∈ gw := gw_of (ab_tl_in (pos := 11236) rfl) rfl
set_option maxRecDepth 100000 in
theorem mC353 : Cond.code mM353.1 mM353.2.1 mM353.2.2.1 mM353.2.2.2.1 ∈ gw := gw_of (ab_tl_in (pos := 12000) rfl) rfl
set_option maxRecDepth 100000 in
theorem mC354 : Cond.code mM354.1 mM354.2.1 mM354.2.2.1 mM354.2.2.2.1 ∈ gw := gw_of (ab_tl_in (pos := 12004) rfl) rfl
set_option maxRecDepth 100000 in
theorem mC355 : Cond.code mM355.1 mM355.2.1 mM355.2.2.1 mM355.2.2.2.1 ∈ gw := gw_of (ab_tl_in (pos := 12008) rfl) rfl
set_option maxRecDepth 100000 in
theorem mC356 : Cond.code mM356.1 mM356.2.1 mM356.2.2.1 mM356.2.2.2.1 ∈ gw := gw_of (ab_tl_in (pos := 12012) rfl) rfl
set_option maxRecDepth 100000 in
theorem mC357 : Cond.code mM357.1 mM357.2.1 mM357.2.2.1 mM357.2.2.2.1 ∈ gw := gw_of (ab_tl_in (pos := 12016) rfl) rfl
set_option maxRecDepth 100000 in
theorem mC358 : Cond.code mM358.1 mM358.2.1 mM358.2.2.1 mM358.2.2.2.1 ∈ gw := gw_of (ab_tl_in (pos := 12020) rfl) rfl
set_option maxRecDepth 100000 in
theorem mC359 : Cond.code mM359.1 mM359.2.1 mM359.2.2.1 mM359.2.2.2.1 ∈ gw := gw_of (ab_tl_in (pos := 12024) rfl) rfl
set_option maxRecDepth 100000 in
theorem mP8_c : ∀ z ∈ mP8, Cond.code (ab_mtT z.1).1 (ab_mtT z.1).2.1 (ab_mtT z.1).2.2.1 (ab_mtT z.1).2.2.2.1 ∈ gw := List.forall_mem_cons.mpr ⟨mC320, List.forall_mem_cons.mpr ⟨mC321, List.forall_mem_cons.mpr ⟨mC322, List.forall_mem_cons.mpr ⟨mC323, List.forall_mem_cons.mpr ⟨mC324, List.forall_mem_cons.mpr ⟨mC325, List.forall_mem_cons.mpr ⟨mC326, List.forall_mem_cons.mpr ⟨mC327, List.forall_mem_cons.mpr ⟨mC328, List.forall_mem_cons.mpr ⟨mC329, List.forall_mem_cons.mpr ⟨mC330, List.forall_mem_cons.mpr ⟨mC331, List.forall_mem_cons.mpr ⟨mC332, List.forall_mem_cons.mpr ⟨mC333, List.forall_mem_cons.mpr ⟨mC334, List.forall_mem_cons.mpr ⟨mC335, List.forall_mem_cons.mpr ⟨mC336, List.forall_mem_cons.mpr ⟨mC337, List.forall_mem_cons.mpr ⟨mC338, List.forall_mem_cons.mpr ⟨mC339, List.forall_mem_cons.mpr ⟨mC340, List.forall_mem_cons.mpr ⟨mC341, List.forall_mem_cons.mpr ⟨mC342, List.forall_mem_cons.mpr ⟨mC343, List.forall_mem_cons.mpr ⟨mC344, List.forall_mem_cons.mpr ⟨mC345, List.forall_mem_cons.mpr ⟨mC346, List.forall_mem_cons.mpr ⟨mC347, List.forall_mem_cons.mpr ⟨mC348, List.forall_mem_cons.mpr ⟨mC349, List.forall_mem_cons.mpr ⟨mC350, List.forall_mem_cons.mpr ⟨mC351, List.forall_mem_cons.mpr ⟨mC352, List.forall_mem_cons.mpr ⟨mC353, List.forall_mem_cons.mpr ⟨mC354, List.forall_mem_cons.mpr ⟨mC355, List.forall_mem_cons.mpr ⟨mC356, List.forall_mem_cons.mpr ⟨mC357, List.forall_mem_cons.mpr ⟨mC358, List.forall_mem_cons.mpr ⟨mC359, fun _ h => absurd h List.not_mem_nil⟩⟩⟩⟩⟩⟩⟩⟩⟩⟩⟩⟩⟩⟩⟩⟩⟩⟩⟩⟩⟩⟩⟩⟩⟩⟩⟩⟩⟩⟩⟩⟩⟩⟩⟩⟩⟩⟩⟩⟩
set_option maxRecDepth 100000 in
theorem mP8_ok : mP8.all (fun z => Nat.beq (ab_kb z.1).1 z.2.1 && Nat.beq (ab_kb z.1).2 z.2.2.1 && ab_kokB (ab_mtT z.1) z.2.1 z.2.2.1 z.2.2.2) = true := by decide +kernel
def mP9 : List (Nat × Nat × Nat × Nat × Nat × Nat × Nat) := [(360, 1, 0, 12028, 20, 12027, 14177), (361, 1, 1, 12032, 20, 12031, 14178), (362, 1, 2, 12036, 20, 12035, 14179), (363, 1, 3, 12040, 20, 12039, 14180), (364, 1, 2, 12044, 20, 12043, 14181), (365, 1, 2, 12048, 20, 12047, 14182), (366, 0, 1, 12051, 20, 12050, 0), (367, 1, 3, 12066, 20, 12065, 14183), (368, 0, 2, 12069, 20, 12068, 0), (369, 1, 2, 12080, 20, 12079, 14184), (370, 1, 2, 12084, 20, 12083, 14185), (371, 1, 1, 12088, 20, 12087, 14186), (372, 1, 1, 12092, 20, 12091, 14187), (373, 1, 1, 12096, 20, 12095, 14188), (374, 1, 1, 12100, 20, 12099, 14189), (375, 1, 1, 12104, 20, 12103, 14190), (376, 1, 1, 12108, 20, 12107, 14191), (377, 1, 2, 12113, 20, 12112, 14192), (378, 1, 1, 12117, 20, 12116, 14193), (379, 0, 1, 12120, 20, 12119, 0), (380, 1, 1, 12124, 20, 12123, 14194), (381, 1, 1, 12128, 20, 12127, 14195), (382, 1, 1, 12132, 20, 12131, 14196), (383, 1, 1, 12136, 20, 12135, 14197), (384, 1, 1, 12140, 20, 12139, 14198), (385, 1, 1, 12144, 20, 12143, 14199), (386, 1, 1, 12148, 20, 12147, 14200), (387, 1, 2, 12152, 20, 12151, 14201), (388, 1, 1, 12156, 20, 12155, 14202), (389, 1, 3, 12160, 20, 12159, 14203), (390, 1, 1, 12164, 20, 12163, 14204), (391, 1, 0, 12168, 20, 12167, 14205), (392, 1, 1, 12172, 20, 12171, 14206), (393, 1, 2, 12176, 20, 12175, 14207), (394, 1, 1, 12180, 20, 12179, 14208), (395, 1, 1, 12184, 20, 12182, 12183), (396, 1, 2, 12188, 20, 12186, 12187), (397, 1, 2, 12192, 20, 12190, 12191), (398, 1, 2, 12196, 20, 12194, 12195), (399, 1, 2, 12200, 20, 12199, 14209)]
set_option maxRecDepth 100000 in
theorem mC360 : Cond.code mM360.1 mM360.2.1 mM360.2.2.1 mM360.2.2.2.1 ∈ gw := gw_of (ab_tl_in (pos := 12028) rfl) rfl
set_option maxRecDepth 100000 in
theorem mC361 : Cond.code mM361.1 mM361.2.1 mM361.2.2.1 mM361.2.2.2.1 ∈ gw := gw_of (ab_tl_in (pos := 12032) rfl) rfl
set_option maxRecDepth 100000 in
theorem mC362 : Cond.code mM362.1 mM362.2.1 mM362.2.2.1 mM362.2.2.2.1 ∈ gw := gw_of (ab_tl_in (pos := 12036) rfl) rfl
set_option maxRecDepth 100000 in
theorem mC363 : Cond.code mM363.1 mM363.2.1 mM363.2.2.1 mM363.2.2.2.1 ∈ gw := gw_of (ab_tl_in (pos := 12040) rfl) rfl
set_option maxRecDepth 100000 in
theorem mC364 : Cond.code mM364.1 mM364.2.1 mM364.2.2.1 mM364.2.2.2.1 ∈ gw := gw_of (ab_tl_in (pos := 12044) rfl) rfl
set_option maxRecDepth 100000 in
theorem mC365 : Cond.code mM365.1 mM365.2.1 mM365.2.2.1 mM365.2.2.2.1 ∈ gw := gw_of (ab_tl_in (pos := 12048) rfl) rfl
set_option maxRecDepth 100000 in
theorem mC366 : Cond.code mM366.1 mM366.2.1 mM366.2.2.1 mM366.2.2.2.1 ∈ gw := gw_of (ab_tl_in (pos := 12051) rfl) rfl
set_option maxRecDepth 100000 in
theorem mC367 : Cond.code mM367.1 mM367.2.1 mM367.2.2.1 mM367.2.2.2.1 ∈ gw := gw_of (ab_tl_in (pos := 12066) rfl) rfl
set_option maxRecDepth 100000 in
theorem mC368 : Cond.code mM368.1 mM368.2.1 mM368.2.2.1 mM368.2.2.2.1 ∈ gw := gw_of (ab_tl_in (pos := 12069) rfl) rfl
set_option maxRecDepth 100000 in
theorem mC369 : Cond.code mM369.1 mM369.2.1 mM369.2.2.1 mM369.2.2.2.1 ∈ gw := gw_of (ab_tl_in (pos := 12080) rfl) rfl
set_option maxRecDepth 100000 in
theorem mC370 : Cond.code mM370.1 mM370.2.1 mM370.2.2.1 mM370.2.2.2.1 ∈ gw := gw_of (ab_tl_in (pos := 12084) rfl) rfl
set_option maxRecDepth 100000 in
theorem mC371 : Cond.code mM371.1 mM371.2.1 mM371.2.2.1 mM371.2.2.2.1 ∈ gw := gw_of (ab_tl_in (pos := 12088) rfl) rfl
set_option maxRecDepth 100000 in
theorem mC372 : Cond.code mM372.1 mM372.2.1 mM372.2.2.1 mM372.2.2.2.1 ∈ gw := gw_of (ab_tl_in (pos := 12092) rfl) rfl
set_option maxRecDepth 100000 in
theorem mC373 : Cond.code mM373.1 mM373.2.1 mM373.2.2.1 mM373.2.2.2.1 ∈ gw := gw_of (ab_tl_in (pos := 12096) rfl) rfl
set_option maxRecDepth 100000 in
theorem mC374 : Cond.code mM374.1 mM374.2.1 mM374.2.2.1 mM374.2.2.2.1 ∈ gw := gw_of (ab_tl_in (pos := 12100) rfl) rfl
set_option maxRecDepth 100000 in
theorem mC375 : Cond.code mM375.1 mM375.2.1 mM375.2.2.1 mM375.2.2.2.1 ∈ gw := gw_of (ab_tl_in (pos := 12104) rfl) rfl
set_option maxRecDepth 100000 in
theorem mC376 : Cond.code mM376.1 mM376.2.1 mM376.2.2.1 mM376.2.2.2.1 ∈ gw := gw_of (ab_tl_in (pos := 12108) rfl) rfl
set_option maxRecDepth 100000 in
theorem mC377 : Cond.code mM377.1 mM377.2.1 mM377.2.2.1 mM377.2.2.2.1 ∈ gw := gw_of (ab_tl_in (pos := 12113) rfl) rfl
set_option maxRecDepth 100000 in
theorem mC378 : Cond.code mM378.1 mM378.2.1 mM378.2.2.1 mM378.2.2.2.1 ∈ gw := gw_of (ab_tl_in (pos := 12117) rfl) rfl
set_option maxRecDepth 100000 in
theorem mC379 : Cond.code mM379.1 mM379.2.1 mM379.2.2.1 mM379.2.2.2.1 ∈ gw := gw_of (ab_tl_in (pos := 12120) rfl) rfl
set_option maxRecDepth 100000 in
theorem mC380 : Cond.code mM380.1 mM380.2.1 mM380.2.2.1 mM380.2.2.2.1 ∈ gw := gw_of (ab_tl_in (pos := 12124) rfl) rfl
set_option maxRecDepth 100000 in
theorem mC381 : Cond.code mM381.1 mM381.2.1 mM381.2.2.1 mM381.2.2.2.1 ∈ gw := gw_of (ab_tl_in (pos := 12128) rfl) rfl
set_option maxRecDepth 100000 in
theorem mC382 : Cond.code mM382.1 mM382.2.1 mM382.2.2.1 mM382.2.2.2.1 ∈ gw := gw_of (ab_tl_in (pos := 12132) rfl) rfl
set_option maxRecDepth 100000 in
theorem mC383 : Cond.code mM383.1 mM383.2.1 mM383.2.2.1 mM383.2.2.2.1 ∈ gw := gw_of (ab_tl_in (pos := 12136) rfl) rfl
set_option maxRecDepth 100000 in
theorem mC384 : Cond.code mM384.1 mM384.2.1 mM384.2.2.1 mM384.2.2.2.1 ∈ gw := gw_of (ab_tl_in (pos := 12140) rfl) rfl
set_option maxRecDepth 100000 in
theorem mC385 : Cond.code mM385.1 mM385.2.1 mM385.2.2.1 mM385.2.2.2.1 ∈ gw := gw_of (ab_tl_in (pos := 12144) rfl) rfl
set_option maxRecDepth 100000 in
theorem mC386 : Cond.code mM386.1 mM386.2.1 mM386.2.2.1 mM386.2.2.2.1 ∈ gw := gw_of (ab_tl_in (pos := 12148) rfl) rfl
set_option maxRecDepth 100000 in
theorem mC387 : Cond.code mM387.1 mM387.2.1 mM387.2.2.1 mM387.2.2.2.1 ∈ gw := gw_of (ab_tl_in (pos := 12152) rfl) rfl
set_option maxRecDepth 100000 in
theorem mC388 : Cond.code mM388.1 mM388.2.1 mM388.2.2.1 mM388.2.2.2.1 ∈ gw := gw_of (ab_tl_in (pos := 12156) rfl) rfl
set_option maxRecDepth 100000 in
theorem mC389 : Cond.code mM389.1 mM389.2.1 mM389.2.2.1 mM389.2.2.2.1 ∈ gw := gw_of (ab_tl_in (pos := 12160) rfl) rfl
set_option maxRecDepth 100000 in
theorem mC390 : Cond.code mM390.1 mM390.2.1 mM390.2.2.1 mM390.2.2.2.1 ∈ gw := gw_of (ab_tl_in (pos := 12164) rfl) rfl
set_option maxRecDepth 100000 in
theorem mC391 : Cond.code mM391.1 mM391.2.1 mM391.2.2.1 mM391.2.2.2.1 ∈ gw := gw_of (ab_tl_in (pos := 12168) rfl) rfl
set_option maxRecDepth 100000 in
theorem mC392 : Cond.code mM392.1 mM392.2.1 mM392.2.2.1 mM392.2.2.2.1 ∈ gw := gw_of (ab_tl_in (pos := 12172) rfl) rfl
set_option maxRecDepth 100000 in
theorem mC393 : Cond.code mM393.1 mM393.2.1 mM393.2.2.1 mM393.2.2.2.1 ∈ gw := gw_of (ab_tl_in (pos := 12176) rfl) rfl
set_option maxRecDepth 100000 in
theorem mC394 : Cond.code mM394.1 mM394.2.1 mM394.2.2.1 mM394.2.2.2.1 ∈ gw := gw_of (ab_tl_in (pos := 12180) rfl) rfl
set_option maxRecDepth 100000 in
theorem mC395 : Cond.code mM395.1 mM395.2.1 mM395.2.2.1 mM395.2.2.2.1 ∈ gw := gw_of (ab_tl_in (pos := 12184) rfl) rfl
set_option maxRecDepth 100000 in
theorem mC396 : Cond.code mM396.1 mM396.2.1 mM396.2.2.1 mM396.2.2.2.1 ∈ gw := gw_of (ab_tl_in (pos := 12188) rfl) rfl
set_option maxRecDepth 100000 in
theorem mC397 : Cond.code mM397.1 mM397.2.1 mM397.2.2.1 mM397.2.2.2.1 ∈ gw := gw_of (ab_tl_in (pos := 12192) rfl) rfl
set_option maxRecDepth 100000 in
theorem mC398 : Cond.code mM398.1 mM398.2.1 mM398.2.2.1 mM398.2.2.2.1 ∈ gw := gw_of (ab_tl_in (pos := 12196) rfl) rfl
set_option maxRecDepth 100000 in
theorem mC399 : Cond.code mM399.1 mM399.2.1 mM399.2.2.1 mM399.2.2.2.1 ∈ gw := gw_of (ab_tl_in (pos := 12200) rfl) rfl
set_option maxRecDepth 100000 in
theorem mP9_c : ∀ z ∈ mP9, Cond.code (ab_mtT z.1).1 (ab_mtT z.1).2.1 (ab_mtT z.1).2.2.1 (ab_mtT z.1).2.2.2.1 ∈ gw := List.forall_mem_cons.mpr ⟨mC360, List.forall_mem_cons.mpr ⟨mC361, List.forall_mem_cons.mpr ⟨mC362, List.forall_mem_cons.mpr ⟨mC363, List.forall_mem_cons.mpr ⟨mC364, List.forall_mem_cons.mpr ⟨mC365, List.forall_mem_cons.mpr ⟨mC366, List.forall_mem_cons.mpr ⟨mC367, List.forall_mem_cons.mpr ⟨mC368, List.forall_mem_cons.mpr ⟨mC369, List.forall_mem_cons.mpr ⟨mC370, List.forall_mem_cons.mpr ⟨mC371, List.forall_mem_cons.mpr ⟨mC372, List.forall_mem_cons.mpr ⟨mC373, List.forall_mem_cons.mpr ⟨mC374, List.forall_mem_cons.mpr ⟨mC375, List.forall_mem_cons.mpr ⟨mC376, List.forall_mem_cons.mpr ⟨mC377, List.forall_mem_cons.mpr ⟨mC378, List.forall_mem_cons.mpr ⟨mC379, List.forall_mem_cons.mpr ⟨mC380, List.forall_mem_cons.mpr ⟨mC381, List.forall_mem_cons.mpr ⟨mC382, List.forall_mem_cons.mpr ⟨mC383, List.forall_mem_cons.mpr ⟨mC384, List.forall_mem_cons.mpr ⟨mC385, List.forall_mem_cons.mpr ⟨mC386, List.forall_mem_cons.mpr ⟨mC387, List.forall_mem_cons.mpr ⟨mC388, List.forall_mem_cons.mpr ⟨mC389, List.forall_mem_cons.mpr ⟨mC390, List.forall_mem_cons.mpr ⟨mC391, List.forall_mem_cons.mpr ⟨mC392, List.forall_mem_cons.mpr ⟨mC393, List.forall_mem_cons.mpr ⟨mC394, List.forall_mem_cons.mpr ⟨mC395, List.forall_mem_cons.mpr ⟨mC396, List.forall_mem_cons.mpr ⟨mC397, List.forall_mem_cons.mpr ⟨mC398, List.forall_mem_cons.mpr ⟨mC399, fun _ h => absurd h List.not_mem_nil⟩⟩⟩⟩⟩⟩⟩⟩⟩⟩⟩⟩⟩⟩⟩⟩⟩⟩⟩⟩⟩⟩⟩⟩⟩⟩⟩⟩⟩⟩⟩⟩⟩⟩⟩⟩⟩⟩⟩⟩
set_option maxRecDepth 100000 in
theorem mP9_ok : mP9.all (fun z => Nat.beq (ab_kb z.1).1 z.2.1 && Nat.beq (ab_kb z.1).2 z.2.2.1 && ab_kokB (ab_mtT z.1) z.2.1 z.2.2.1 z.2.2.2) = true := by decide +kernel
def mP10 : List (Nat × Nat × Nat × Nat × Nat × Nat × Nat) := [(400, 1, 0, 12204, 20, 12203, 14210), (401, 1, 4, 12208, 20, 12207, 14211), (402, 1, 6, 12212, 20, 12211, 14212), (403, 1, 7, 12216, 20, 12215, 14213), (404, 0, 6, 12219, 20, 12218, 0), (405, 0, 3, 12222, 20, 12221, 0), (406, 1, 3, 12227, 20, 12226, 14214), (407, 1, 3, 12231, 20, 12230, 14215), (408, 1, 3, 12235, 20, 12234, 14216), (409, 1, 2, 12239, 20, 12237, 12238), (410, 1, 2, 13003, 20, 13001, 13002), (411, 1, 1, 13007, 20, 13006, 14217), (412, 1, 1, 13012, 20, 13011, 14218), (413, 1, 0, 13016, 20, 13015, 14219), (414, 1, 1, 13021, 20, 13020, 14220), (415, 1, 1, 13025, 20, 13024, 14221), (416, 1, 1, 13030, 20, 13029, 14222), (417, 1, 1, 13035, 20, 13033, 13034), (418, 1, 0, 13039, 20, 13038, 14223), (419, 1, 1, 13044, 20, 13043, 14224), (420, 1, 0, 13048, 20, 13046, 13047), (421, 1, 1, 13052, 20, 13050, 13051), (422, 1, 1, 13056, 20, 13054, 13055), (423, 1, 1, 13060, 20, 13058, 13059)]
set_option maxRecDepth 100000 in
theorem mC400 : Cond.code mM400.1 mM400.2.1 mM400.2.2.1 mM400.2.2.2.1 ∈ gw := gw_of (ab_tl_in (pos := 12204) rfl) rfl
set_option maxRecDepth 100000 in
theorem mC401 : Cond.code mM401.1 mM401.2.1 mM401.2.2.1 mM401.2.2.2.1 ∈ gw := gw_of (ab_tl_in (pos := 12208) rfl) rfl
set_option maxRecDepth 100000 in
theorem mC402 : Cond.code mM402.1 mM402.2.1 mM402.2.2.1 mM402.2.2.2.1 ∈ gw := gw_of (ab_tl_in (pos := 12212) rfl) rfl
set_option maxRecDepth 100000 in
theorem mC403 : Cond.code mM403.1 mM403.2.1 mM403.2.2.1 mM403.2.2.2.1 ∈ gw := gw_of (ab_tl_in (pos := 12216) rfl) rfl
set_option maxRecDepth 100000 in
theorem mC404 : Cond.code mM404.1 mM404.2.1 mM404.2.2.1 mM404.2.2.2.1 ∈ gw := gw_of (ab_tl_in (pos := 12219) rfl) rfl
set_option maxRecDepth 100000 in
theorem mC405 : Cond.code mM405.1 mM405.2.1 mM405.2.2.1 mM405.2.2.2.1 ∈ gw := gw_of (ab_tl_in (pos := 12222) rfl) rfl
set_option maxRecDepth 100000 in
theorem mC406 : Cond.code mM406.1 mM406.2.1 mM406.2.2.1 mM406.2.2.2.1 ∈ gw := gw_of (ab_tl_in (pos := 12227) rfl) rfl
set_option maxRecDepth 100000 in
theorem mC407 : Cond.code mM407.1 mM407.2.1 mM407.2.2.1 mM407.2.2.2.1 ∈ gw := gw_of (ab_tl_in (pos := 12231) rfl) rfl
set_option maxRecDepth 100000 in
theorem mC408 : Cond.code mM408.1 mM408.2.1 mM408.2.2.1 mM408.2.2.2.1 ∈ gw := gw_of (ab_tl_in (pos := 12235) rfl) rfl
set_option maxRecDepth 100000 in
theorem mC409 : Cond.code mM409.1 mM409.2.1 mM409.2.2.1 mM409.2.2.2.1 ∈ gw := gw_of (ab_tl_in (pos := 12239) rfl) rfl
set_option maxRecDepth 100000 in
theorem mC410 : Cond.code mM410.1 mM410.2.1 mM410.2.2.1 mM410.2.2.2.1 ∈ gw := gw_of (ab_tl_in (pos := 13003) rfl) rfl
set_option maxRecDepth 100000 in
theorem mC411 : Cond.code mM411.1 mM411.2.1 mM411.2.2.1 mM411.2.2.2.1 ∈ gw := gw_of (ab_tl_in (pos := 13007) rfl) rfl
set_option maxRecDepth 100000 in
theorem mC412 : Cond.code mM412.1 mM412.2.1 mM412.2.2.1 mM412.2.2.2.1 ∈ gw := gw_of (ab_tl_in (pos := 13012) rfl) rfl
set_option maxRecDepth 100000 in
theorem mC413 : Cond.code mM413.1 mM413.2.1 mM413.2.2.1 mM413.2.2.2.1 ∈ gw := gw_of (ab_tl_in (pos := 13016) rfl) rfl
set_option maxRecDepth 100000 in
theorem mC414 : Cond.code mM414.1 mM414.2.1 mM414.2.2.1 mM414.2.2.2.1 ∈ gw := gw_of (ab_tl_in (pos := 13021) rfl) rfl
set_option maxRecDepth 100000 in
theorem mC415 : Cond.code mM415.1 mM415.2.1 mM415.2.2.1 mM415.2.2.2.1 ∈ gw := gw_of (ab_tl_in (pos := 13025) rfl) rfl
set_option maxRecDepth 100000 in
theorem mC416 : Cond.code mM416.1 mM416.2.1 mM416.2.2.1 mM416.2.2.2.1 ∈ gw := gw_of (ab_tl_in (pos := 13030) rfl) rfl
set_option maxRecDepth 100000 in
theorem mC417 : Cond.code mM417.1 mM417.2.1 mM417.2.2.1 mM417.2.2.2.1 ∈ gw := gw_of (ab_tl_in (pos := 13035) rfl) rfl
set_option maxRecDepth 100000 in
theorem mC418 : Cond.code mM418.1 mM418.2.1 mM418.2.2.1 mM418.2.2.2.1 ∈ gw := gw_of (ab_tl_in (pos := 13039) rfl) rfl
set_option maxRecDepth 100000 in
theorem mC419 : Cond.code mM419.1 mM419.2.1 mM419.2.2.1 mM419.2.2.2.1 ∈ gw := gw_of (ab_tl_in (pos := 13044) rfl) rfl
set_option maxRecDepth 100000 in
theorem mC420 : Cond.code mM420.1 mM420.2.1 mM420.2.2.1 mM420.2.2.2.1 ∈ gw := gw_of (ab_tl_in (pos := 13048) rfl) rfl
set_option maxRecDepth 100000 in
theorem mC421 : Cond.code mM421.1 mM421.2.1 mM421.2.2.1 mM421.2.2.2.1 ∈ gw := gw_of (ab_tl_in (pos := 13052) rfl) rfl
set_option maxRecDepth 100000 in
theorem mC422 : Cond.code mM422.1 mM422.2.1 mM422.2.2.1 mM422.2.2.2.1 ∈ gw := gw_of (ab_tl_in (pos := 13056) rfl) rfl
set_option maxRecDepth 100000 in
theorem mC423 : Cond.code mM423.1 mM423.2.1 mM423.2.2.1 mM423.2.2.2.1 ∈ gw := gw_of (ab_tl_in (pos := 13060) rfl) rfl
set_option maxRecDepth 100000 in
theorem mP10_c : ∀ z ∈ mP10, Cond.code (ab_mtT z.1).1 (ab_mtT z.1).2.1 (ab_mtT z.1).2.2.1 (ab_mtT z.1).2.2.2.1 ∈ gw := List.forall_mem_cons.mpr ⟨mC400, List.forall_mem_cons.mpr ⟨mC401, List.forall_mem_cons.mpr ⟨mC402, List.forall_mem_cons.mpr ⟨mC403, List.forall_mem_cons.mpr ⟨mC404, List.forall_mem_cons.mpr ⟨mC405, List.forall_mem_cons.mpr ⟨mC406, List.forall_mem_cons.mpr ⟨mC407, List.forall_mem_cons.mpr ⟨mC408, List.forall_mem_cons.mpr ⟨mC409, List.forall_mem_cons.mpr ⟨mC410, List.forall_mem_cons.mpr ⟨mC411, List.forall_mem_cons.mpr ⟨mC412, List.forall_mem_cons.mpr ⟨mC413, List.forall_mem_cons.mpr ⟨mC414, List.forall_mem_cons.mpr ⟨mC415, List.forall_mem_cons.mpr ⟨mC416, List.forall_mem_cons.mpr ⟨mC417, List.forall_mem_cons.mpr ⟨mC418, List.forall_mem_cons.mpr ⟨mC419, List.forall_mem_cons.mpr ⟨mC420, List.forall_mem_cons.mpr ⟨mC421, List.forall_mem_cons.mpr ⟨mC422, List.forall_mem_cons.mpr ⟨mC423, fun _ h => absurd h List.not_mem_nil⟩⟩⟩⟩⟩⟩⟩⟩⟩⟩⟩⟩⟩⟩⟩⟩⟩⟩⟩⟩⟩⟩⟩⟩
set_option maxRecDepth 100000 in
theorem mP10_ok : mP10.all (fun z => Nat.beq (ab_kb z.1).1 z.2.1 && Nat.beq (ab_kb z.1).2 z.2.2.1 && ab_kokB (ab_mtT z.1) z.2.1 z.2.2.1 z.2.2.2) = true := by decide +kernel
set_option maxRecDepth 100000 in
theorem ab_mt_keys : (mP0 ++ mP1 ++ mP2 ++ mP3 ++ mP4 ++ mP5 ++ mP6 ++ mP7 ++ mP8 ++ mP9 ++ mP10).map (fun z => z.1) = List.range 424 := by decide +kernel
theorem ab_mt_ok : ∀ a, a ≤ 999 → ab_kok (ab_mt a) (ab_kb a).1 (ab_kb a).2 := by
  intro a ha
  have hlt : (bif Nat.ble a 423 then a else 423) < 424 := by
    cases hc : Nat.ble a 423 with
    | true => exact Nat.lt_succ_of_le (Nat.le_of_ble_eq_true hc)
    | false => exact Nat.lt_succ_self _
  have hm : ab_mt a = ab_mtT (bif Nat.ble a 423 then a else 423) := by unfold ab_mt; rw [Nat.ble_eq_true_of_le ha]; rfl
  have hk : ab_kb a = ab_kb (bif Nat.ble a 423 then a else 423) := by
    cases hc : Nat.ble a 423 with
    | true => rfl
    | false => unfold ab_kb; rw [hc]; rfl
  rw [hm, hk]
  generalize (bif Nat.ble a 423 then a else 423) = b at hlt
  have hmem : b ∈ (mP0 ++ mP1 ++ mP2 ++ mP3 ++ mP4 ++ mP5 ++ mP6 ++ mP7 ++ mP8 ++ mP9 ++ mP10).map (fun z => z.1) := by rw [ab_mt_keys]; exact List.mem_range.mpr hlt
  obtain ⟨z, hz, rfl⟩ := List.mem_map.mp hmem
  have h1 : (Nat.beq (ab_kb z.1).1 z.2.1 && Nat.beq (ab_kb z.1).2 z.2.2.1 && ab_kokB (ab_mtT z.1) z.2.1 z.2.2.1 z.2.2.2) = true ∧ Cond.code (ab_mtT z.1).1 (ab_mtT z.1).2.1 (ab_mtT z.1).2.2.1 (ab_mtT z.1).2.2.2.1 ∈ gw := by
    simp only [List.mem_append] at hz
    rcases hz with (((((((((hz | hz) | hz) | hz) | hz) | hz) | hz) | hz) | hz) | hz) | hz
    · exact ⟨List.all_eq_true.mp mP0_ok z hz, mP0_c z hz⟩
    · exact ⟨List.all_eq_true.mp mP1_ok z hz, mP1_c z hz⟩
    · exact ⟨List.all_eq_true.mp mP2_ok z hz, mP2_c z hz⟩
    · exact ⟨List.all_eq_true.mp mP3_ok z hz, mP3_c z hz⟩
    · exact ⟨List.all_eq_true.mp mP4_ok z hz, mP4_c z hz⟩
    · exact ⟨List.all_eq_true.mp mP5_ok z hz, mP5_c z hz⟩
    · exact ⟨List.all_eq_true.mp mP6_ok z hz, mP6_c z hz⟩
    · exact ⟨List.all_eq_true.mp mP7_ok z hz, mP7_c z hz⟩
    · exact ⟨List.all_eq_true.mp mP8_ok z hz, mP8_c z hz⟩
    · exact ⟨List.all_eq_true.mp mP9_ok z hz, mP9_c z hz⟩
    · exact ⟨List.all_eq_true.mp mP10_ok z hz, mP10_c z hz⟩
  obtain ⟨h1, h2⟩ := h1
  simp only [Bool.and_eq_true] at h1
  rw [Nat.eq_of_beq_eq_true h1.1.1, Nat.eq_of_beq_eq_true h1.1.2]
  exact ab_kokB_ok h2 h1.2
