/-! ===== printed by wip/gen/emit_check.py: the tables that resolve the code, and their check against the claim's words ===== -/
def sm_OW : List String := ["ValleyMass$Choir", "ValleyMass$Chronicle", "ValleyMass$Counting", "ValleyMass$Reader", "ValleyMass$Rules", "ValleyMass$State", "ValleyMass$Tape", "ValleyMass$Valley", "ValleyMass$War", "ValleyMass", "ValleyMassModel", "java/lang/Integer", "java/lang/Math", "ValleyMassLaw"]
/-- fields: own, entry, class, slot, kind, final, word -/
def sm_FT : List (Nat × Nat × Nat × Nat × Nat × Bool × Nat) := [(0, 9, 5, 8, 3, true, 316), (0, 25, 5, 5, 3, true, 303), (0, 28, 5, 6, 3, true, 307), (0, 50, 5, 9, 3, true, 320), (0, 53, 5, 10, 3, true, 324), (0, 64, 5, 13, 3, true, 332), (0, 73, 3, 1, 0, false, 203), (0, 79, 3, 0, 0, false, 200), (0, 90, 5, 7, 3, true, 313), (0, 99, 5, 11, 3, true, 328), (0, 102, 5, 12, 3, true, 330), (1, 12, 0, 0, 3, true, 224), (1, 35, 0, 2, 0, false, 227), (1, 39, 0, 6, 0, false, 235), (1, 18, 0, 1, 3, true, 226), (1, 22, 0, 3, 3, true, 229), (1, 25, 0, 4, 3, true, 231), (1, 28, 0, 5, 3, true, 233), (3, 12, 1, 0, 3, true, 159), (3, 22, 1, 1, 0, false, 161), (3, 30, 1, 2, 0, false, 162), (3, 33, 1, 4, 1, false, 164), (3, 37, 1, 7, 0, false, 167), (3, 75, 5, 16, 3, true, 338), (3, 98, 1, 3, 0, false, 163), (3, 101, 5, 0, 0, false, 288), (3, 104, 5, 3, 3, true, 297), (3, 108, 5, 4, 3, true, 301), (3, 115, 5, 5, 3, true, 305), (3, 118, 5, 6, 3, true, 309), (3, 121, 5, 7, 3, true, 314), (3, 124, 5, 1, 0, false, 291), (3, 127, 5, 8, 3, true, 318), (3, 130, 5, 10, 3, true, 326), (3, 133, 5, 9, 3, true, 322), (3, 136, 5, 2, 0, false, 294), (3, 142, 1, 5, 0, false, 165), (3, 145, 1, 6, 0, false, 166), (4, 27, 2, 1, 0, false, 267), (4, 15, 2, 2, 3, true, 268), (4, 18, 2, 3, 3, true, 269), (4, 9, 2, 0, 3, true, 266), (4, 24, 2, 5, 3, true, 272), (4, 21, 2, 4, 3, true, 270), (5, 7, 3, 0, 0, false, 197), (5, 13, 3, 1, 0, false, 201), (5, 16, 3, 2, 0, false, 204), (5, 19, 3, 3, 0, false, 207), (5, 22, 3, 4, 0, false, 210), (6, 21, 4, 1, 0, false, 139), (6, 9, 4, 0, 3, true, 138), (6, 25, 4, 4, 0, false, 143), (6, 15, 4, 2, 3, true, 141), (6, 18, 4, 3, 3, true, 142), (6, 28, 4, 5, 0, false, 144), (7, 62, 5, 0, 0, false, 286), (7, 65, 5, 1, 0, false, 289), (7, 9, 5, 2, 0, false, 292), (7, 31, 5, 8, 3, true, 315), (7, 34, 5, 9, 3, true, 319), (7, 46, 5, 13, 3, true, 331), (7, 58, 5, 16, 3, true, 336), (7, 49, 5, 14, 3, true, 334), (7, 15, 5, 3, 3, true, 295), (7, 52, 5, 15, 3, true, 335), (7, 19, 5, 4, 3, true, 298), (7, 40, 5, 11, 3, true, 327), (7, 43, 5, 12, 3, true, 329), (7, 37, 5, 10, 3, true, 323), (7, 22, 5, 5, 3, true, 302), (7, 25, 5, 6, 3, true, 306), (7, 28, 5, 7, 3, true, 310), (8, 9, 5, 16, 3, true, 337), (8, 25, 2, 4, 3, true, 271), (8, 29, 3, 3, 0, false, 208), (8, 35, 3, 4, 0, false, 211), (8, 38, 3, 0, 0, false, 198), (8, 46, 3, 2, 0, false, 205), (8, 61, 5, 7, 3, true, 311), (8, 64, 5, 4, 3, true, 299), (9, 19, 6, 2, 3, true, 376), (9, 54, 1, 0, 3, true, 160), (9, 58, 4, 1, 0, false, 140), (9, 47, 6, 7, 3, false, 381), (9, 50, 6, 8, 0, false, 382), (9, 9, 6, 0, 3, true, 374), (9, 43, 6, 6, 3, false, 380), (9, 82, 6, 9, 1, false, 383), (9, 26, 6, 3, 3, true, 377), (9, 86, 5, 0, 0, false, 287), (9, 92, 0, 0, 3, true, 225), (9, 95, 5, 1, 0, false, 290), (9, 98, 5, 2, 0, false, 293), (9, 101, 3, 3, 0, false, 209), (9, 104, 3, 4, 0, false, 212), (9, 107, 3, 0, 0, false, 199), (9, 110, 3, 1, 0, false, 202), (9, 113, 3, 2, 0, false, 206), (9, 120, 0, 2, 0, false, 228), (9, 123, 0, 6, 0, false, 236), (9, 134, 5, 3, 3, true, 296), (9, 137, 5, 4, 3, true, 300), (9, 140, 5, 5, 3, true, 304), (9, 143, 5, 6, 3, true, 308), (9, 146, 5, 7, 3, true, 312), (9, 158, 5, 8, 3, true, 317), (9, 161, 5, 9, 3, true, 321), (9, 166, 5, 10, 3, true, 325), (9, 169, 5, 13, 3, true, 333), (9, 30, 6, 4, 3, true, 378), (9, 13, 6, 1, 3, true, 375), (9, 323, 0, 3, 3, true, 230), (9, 326, 0, 4, 3, true, 232), (9, 329, 0, 5, 3, true, 234), (9, 36, 6, 5, 3, true, 379), (10, 120, 7, 0, 0, false, 1305), (10, 123, 7, 15, 0, false, 1320), (10, 44, 7, 14, 3, true, 1319), (10, 130, 7, 19, 0, false, 1324), (10, 133, 7, 20, 0, false, 1325), (10, 140, 7, 22, 0, false, 1327), (10, 143, 7, 26, 2, false, 1331), (10, 147, 7, 24, 0, false, 1329), (10, 150, 7, 25, 0, false, 1330), (10, 153, 7, 21, 0, false, 1326), (10, 163, 7, 23, 0, false, 1328), (10, 176, 7, 16, 0, false, 1321), (10, 47, 7, 17, 0, false, 1322), (10, 80, 7, 44, 3, true, 1349), (10, 189, 7, 30, 0, false, 1335), (10, 192, 7, 33, 0, false, 1338), (10, 83, 7, 45, 3, true, 1350), (10, 208, 7, 31, 0, false, 1336), (10, 211, 7, 32, 0, false, 1337), (10, 214, 7, 34, 0, false, 1339), (10, 86, 7, 46, 3, true, 1351), (10, 241, 7, 27, 0, false, 1332), (10, 53, 7, 35, 3, true, 1340), (10, 56, 7, 36, 3, true, 1341), (10, 59, 7, 37, 3, true, 1342), (10, 62, 7, 38, 3, true, 1343), (10, 65, 7, 39, 3, true, 1344), (10, 248, 7, 28, 0, false, 1333), (10, 68, 7, 40, 3, true, 1345), (10, 71, 7, 41, 3, true, 1346), (10, 74, 7, 42, 3, true, 1347), (10, 77, 7, 43, 3, true, 1348), (10, 261, 7, 29, 0, false, 1334), (10, 50, 7, 18, 3, true, 1323), (10, 277, 7, 1, 0, false, 1306), (10, 280, 7, 2, 0, false, 1307), (10, 7, 7, 3, 0, false, 1308), (10, 13, 7, 4, 3, true, 1309), (10, 17, 7, 5, 3, true, 1310), (10, 20, 7, 6, 3, true, 1311), (10, 23, 7, 7, 3, true, 1312), (10, 26, 7, 8, 3, true, 1313), (10, 29, 7, 9, 3, true, 1314), (10, 32, 7, 10, 3, true, 1315), (10, 35, 7, 11, 3, true, 1316), (10, 38, 7, 12, 3, true, 1317), (10, 41, 7, 13, 3, true, 1318), (10, 90, 7, 47, 3, true, 1352), (10, 287, 7, 50, 0, false, 1355), (10, 290, 7, 53, 0, false, 1358), (10, 293, 7, 57, 1, false, 1362), (10, 96, 7, 49, 3, true, 1354), (10, 102, 7, 52, 3, true, 1357), (10, 99, 7, 51, 3, true, 1356), (10, 93, 7, 48, 3, true, 1353), (10, 105, 7, 54, 3, true, 1359), (10, 108, 7, 55, 3, true, 1360), (10, 407, 7, 56, 0, false, 1361), (10, 414, 7, 58, 0, false, 1363), (10, 417, 7, 59, 0, false, 1364), (10, 111, 7, 60, 3, true, 1365), (10, 114, 7, 61, 3, true, 1366), (10, 117, 7, 62, 3, true, 1367)]
/-- methods by their numbers -/
noncomputable def sm_N : List sm_In := [(⟨"ValleyMass$Choir", "fewestMoves", "(LValleyMass$Valley;II)I"⟩, prog_2_method_2_code, some .int, []),
  (⟨"ValleyMass$Choir", "rowMoves", "(LValleyMass$Valley;II)I"⟩, prog_2_method_3_code, some .int, []),
  (⟨"ValleyMass$Choir", "movesInto", "(LValleyMass$Valley;III)I"⟩, prog_2_method_4_code, some .int, []),
  (⟨"ValleyMass$Choir", "within", "(III)Z"⟩, prog_2_method_5_code, some .boolean, []),
  (⟨"ValleyMass$Choir", "sparable", "(LValleyMass$Valley;II)I"⟩, prog_2_method_6_code, some .int, []),
  (⟨"ValleyMass$Choir", "keySingers", "(LValleyMass$Valley;I)I"⟩, prog_2_method_7_code, some .int, []),
  (⟨"ValleyMass$Choir", "ransomed", "(LValleyMass$Valley;LValleyMass$State;I)I"⟩, prog_2_method_8_code, some .int, []),
  (⟨"ValleyMass$Choir", "bestExchange", "(LValleyMass$Valley;LValleyMass$State;)I"⟩, prog_2_method_9_code, some .int, []),
  (⟨"ValleyMass$Choir", "together", "(LValleyMass$Valley;II)Z"⟩, prog_2_method_10_code, some .boolean, []),
  (⟨"ValleyMass$Choir", "enoughFor", "(LValleyMass$Valley;II)Z"⟩, prog_2_method_11_code, some .boolean, []),
  (⟨"ValleyMass$Choir", "bestCast", "(LValleyMass$Valley;II)I"⟩, prog_2_method_12_code, some .int, []),
  (⟨"ValleyMass$Choir", "mostSkilled", "(LValleyMass$Valley;I)I"⟩, prog_2_method_13_code, some .int, []),
  (⟨"ValleyMass$Choir", "countCasts", "(LValleyMass$Valley;II)J"⟩, prog_2_method_14_code, some .long, []),
  (⟨"ValleyMass$Choir", "canBeSungAt", "(LValleyMass$Valley;III)Z"⟩, prog_2_method_15_code, some .boolean, []),
  (⟨"ValleyMass$Choir", "rowLackingOne", "(LValleyMass$Valley;II)I"⟩, prog_2_method_16_code, some .int, []),
  (⟨"ValleyMass$Choir", "easiestToWiden", "(LValleyMass$Valley;II)I"⟩, prog_2_method_17_code, some .int, []),
  (⟨"ValleyMass$Choir", "setsOutlived", "(LValleyMass$Valley;III[I)J"⟩, prog_2_method_18_code, some .long, []),
  (⟨"ValleyMass$Choir", "multiply", "([III)V"⟩, prog_2_method_19_code, none, []),
  (⟨"ValleyMass$Chronicle", "begin", "(I)V"⟩, prog_3_method_2_code, none, []),
  (⟨"ValleyMass$Chronicle", "copyFrom", "(LValleyMass$Chronicle;)V"⟩, prog_3_method_3_code, none, []),
  (⟨"ValleyMass$Chronicle", "keepAct", "()V"⟩, prog_3_method_4_code, none, []),
  (⟨"ValleyMass$Chronicle", "takeBack", "()V"⟩, prog_3_method_5_code, none, []),
  (⟨"ValleyMass$Chronicle", "addHeard", "(III)V"⟩, prog_3_method_6_code, none, []),
  (⟨"ValleyMass$Counting", "choose", "(II)J"⟩, prog_4_method_2_code, some .long, []),
  (⟨"ValleyMass$Counting", "slipWays", "(II)J"⟩, prog_4_method_3_code, some .long, []),
  (⟨"ValleyMass$Counting", "commonDivisor", "(JJ)J"⟩, prog_4_method_4_code, some .long, []),
  (⟨"ValleyMass$Reader", "read", "(ILValleyMass$Valley;)I"⟩, prog_5_method_2_code, some .int, []),
  (⟨"ValleyMass$Reader", "place", "()I"⟩, prog_5_method_3_code, some .int, []),
  (⟨"ValleyMass$Reader", "fail", "(I)Z"⟩, prog_5_method_4_code, some .boolean, []),
  (⟨"ValleyMass$Reader", "step", "()V"⟩, prog_5_method_5_code, none, []),
  (⟨"ValleyMass$Reader", "atSign", "(C)Z"⟩, prog_5_method_6_code, some .boolean, []),
  (⟨"ValleyMass$Reader", "atNumber", "()Z"⟩, prog_5_method_7_code, some .boolean, []),
  (⟨"ValleyMass$Reader", "atWord", "()Z"⟩, prog_5_method_8_code, some .boolean, []),
  (⟨"ValleyMass$Reader", "atPart", "()Z"⟩, prog_5_method_9_code, some .boolean, []),
  (⟨"ValleyMass$Reader", "readLine", "(LValleyMass$Valley;)Z"⟩, prog_5_method_10_code, some .boolean, []),
  (⟨"ValleyMass$Reader", "readSign", "(C)Z"⟩, prog_5_method_11_code, some .boolean, []),
  (⟨"ValleyMass$Reader", "readNumber", "(II)Z"⟩, prog_5_method_12_code, some .boolean, []),
  (⟨"ValleyMass$Reader", "readSinger", "(LValleyMass$Valley;)Z"⟩, prog_5_method_13_code, some .boolean, []),
  (⟨"ValleyMass$Reader", "readPiece", "(LValleyMass$Valley;)Z"⟩, prog_5_method_14_code, some .boolean, []),
  (⟨"ValleyMass$Reader", "readRow", "(LValleyMass$Valley;)Z"⟩, prog_5_method_15_code, some .boolean, []),
  (⟨"ValleyMass$Reader", "readEvery", "(LValleyMass$Valley;)Z"⟩, prog_5_method_16_code, some .boolean, []),
  (⟨"ValleyMass$Reader", "readRule", "(LValleyMass$Rules;I)Z"⟩, prog_5_method_17_code, some .boolean, []),
  (⟨"ValleyMass$Reader", "readExpr", "(LValleyMass$Rules;I)Z"⟩, prog_5_method_18_code, some .boolean, []),
  (⟨"ValleyMass$Reader", "readAnd", "(LValleyMass$Rules;I)Z"⟩, prog_5_method_19_code, some .boolean, []),
  (⟨"ValleyMass$Reader", "readNot", "(LValleyMass$Rules;I)Z"⟩, prog_5_method_20_code, some .boolean, []),
  (⟨"ValleyMass$Reader", "readTest", "(LValleyMass$Rules;I)Z"⟩, prog_5_method_21_code, some .boolean, []),
  (⟨"ValleyMass$Reader", "readSum", "(LValleyMass$Rules;I)Z"⟩, prog_5_method_22_code, some .boolean, []),
  (⟨"ValleyMass$Reader", "readProduct", "(LValleyMass$Rules;I)Z"⟩, prog_5_method_23_code, some .boolean, []),
  (⟨"ValleyMass$Reader", "readTerm", "(LValleyMass$Rules;I)Z"⟩, prog_5_method_24_code, some .boolean, []),
  (⟨"ValleyMass$Rules", "clear", "()V"⟩, prog_6_method_2_code, none, []),
  (⟨"ValleyMass$Rules", "open", "(I)V"⟩, prog_6_method_3_code, none, []),
  (⟨"ValleyMass$Rules", "close", "(I)V"⟩, prog_6_method_4_code, none, []),
  (⟨"ValleyMass$Rules", "add", "(I)V"⟩, prog_6_method_5_code, none, []),
  (⟨"ValleyMass$Rules", "has", "(I)Z"⟩, prog_6_method_6_code, some .boolean, []),
  (⟨"ValleyMass$Rules", "result", "(I)I"⟩, prog_6_method_7_code, some .int, []),
  (⟨"ValleyMass$Rules", "operand", "(I)I"⟩, prog_6_method_8_code, some .int, []),
  (⟨"ValleyMass$Rules", "apply", "(III)I"⟩, prog_6_method_9_code, some .int, []),
  (⟨"ValleyMass$State", "begin", "(I)V"⟩, prog_7_method_2_code, none, []),
  (⟨"ValleyMass$State", "copyFrom", "(LValleyMass$State;)V"⟩, prog_7_method_3_code, none, []),
  (⟨"ValleyMass$State", "writeTo", "([II)V"⟩, prog_7_method_4_code, none, []),
  (⟨"ValleyMass$State", "readFrom", "([II)V"⟩, prog_7_method_5_code, none, []),
  (⟨"ValleyMass$State", "howIs", "(I)I"⟩, prog_7_method_6_code, some .int, []),
  (⟨"ValleyMass$State", "fell", "(I)V"⟩, prog_7_method_7_code, none, []),
  (⟨"ValleyMass$State", "seize", "(I)V"⟩, prog_7_method_8_code, none, []),
  (⟨"ValleyMass$State", "letGo", "(I)V"⟩, prog_7_method_9_code, none, []),
  (⟨"ValleyMass$State", "turn", "(I)V"⟩, prog_7_method_10_code, none, []),
  (⟨"ValleyMass$Tape", "put", "(I)V"⟩, prog_8_method_2_code, none, []),
  (⟨"ValleyMass$Tape", "kindOf", "(I)I"⟩, prog_8_method_3_code, some .int, []),
  (⟨"ValleyMass$Tape", "placeOf", "(I)I"⟩, prog_8_method_4_code, some .int, []),
  (⟨"ValleyMass$Tape", "scan", "(I)V"⟩, prog_8_method_5_code, none, []),
  (⟨"ValleyMass$Tape", "keep", "(II)V"⟩, prog_8_method_6_code, none, []),
  (⟨"ValleyMass$Tape", "byteAt", "(I)I"⟩, prog_8_method_7_code, some .int, []),
  (⟨"ValleyMass$Tape", "isLetter", "(I)Z"⟩, prog_8_method_8_code, some .boolean, []),
  (⟨"ValleyMass$Tape", "isDigit", "(I)Z"⟩, prog_8_method_9_code, some .boolean, []),
  (⟨"ValleyMass$Tape", "endOfToken", "(I)I"⟩, prog_8_method_10_code, some .int, []),
  (⟨"ValleyMass$Tape", "kindBetween", "(II)I"⟩, prog_8_method_11_code, some .int, []),
  (⟨"ValleyMass$Tape", "numberBetween", "(II)I"⟩, prog_8_method_12_code, some .int, []),
  (⟨"ValleyMass$Tape", "wordBetween", "(II)I"⟩, prog_8_method_13_code, some .int, []),
  (⟨"ValleyMass$Tape", "sameLetters", "(III)Z"⟩, prog_8_method_14_code, some .boolean, []),
  (⟨"ValleyMass$Valley", "clear", "()V"⟩, prog_9_method_2_code, none, []),
  (⟨"ValleyMass$Valley", "settle", "()V"⟩, prog_9_method_3_code, none, []),
  (⟨"ValleyMass$Valley", "withValue", "([II)I"⟩, prog_9_method_4_code, some .int, []),
  (⟨"ValleyMass$Valley", "spanRow", "(I)V"⟩, prog_9_method_5_code, none, []),
  (⟨"ValleyMass$Valley", "ofSide", "(I)I"⟩, prog_9_method_6_code, some .int, []),
  (⟨"ValleyMass$Valley", "ofPart", "(I)I"⟩, prog_9_method_7_code, some .int, []),
  (⟨"ValleyMass$Valley", "reaching", "(III)I"⟩, prog_9_method_8_code, some .int, []),
  (⟨"ValleyMass$Valley", "skillsOf", "(I)I"⟩, prog_9_method_9_code, some .int, []),
  (⟨"ValleyMass$Valley", "notesIn", "(I)I"⟩, prog_9_method_10_code, some .int, []),
  (⟨"ValleyMass$Valley", "canBeSung", "(II)Z"⟩, prog_9_method_11_code, some .boolean, []),
  (⟨"ValleyMass$Valley", "singable", "(I)I"⟩, prog_9_method_12_code, some .int, []),
  (⟨"ValleyMass$Valley", "lackingIn", "(II)I"⟩, prog_9_method_13_code, some .int, []),
  (⟨"ValleyMass$Valley", "stretch", "(II)I"⟩, prog_9_method_14_code, some .int, []),
  (⟨"ValleyMass$Valley", "isEvening", "(I)Z"⟩, prog_9_method_15_code, some .boolean, []),
  (⟨"ValleyMass$War", "holdsFire", "(LValleyMass$Valley;LValleyMass$State;I)Z"⟩, prog_10_method_2_code, some .boolean, []),
  (⟨"ValleyMass$War", "target", "(LValleyMass$Valley;LValleyMass$State;I)I"⟩, prog_10_method_3_code, some .int, []),
  (⟨"ValleyMass$War", "worthOf", "(LValleyMass$Valley;LValleyMass$State;II)I"⟩, prog_10_method_4_code, some .int, []),
  (⟨"ValleyMass$War", "bitOf", "(I)I"⟩, prog_10_method_5_code, some .int, []),
  (⟨"ValleyMass$War", "shot", "(LValleyMass$Valley;LValleyMass$State;I)I"⟩, prog_10_method_6_code, some .int, []),
  (⟨"ValleyMass$War", "passDay", "(LValleyMass$Valley;LValleyMass$State;)I"⟩, prog_10_method_7_code, some .int, []),
  (⟨"ValleyMass$War", "coupleRests", "(LValleyMass$Valley;LValleyMass$State;III)Z"⟩, prog_10_method_8_code, some .boolean, []),
  (⟨"ValleyMass$War", "leftFree", "(LValleyMass$Valley;LValleyMass$State;II)I"⟩, prog_10_method_9_code, some .int, []),
  (⟨"ValleyMass$War", "lead", "(LValleyMass$Valley;I)I"⟩, prog_10_method_10_code, some .int, []),
  (⟨"ValleyMass$War", "bonus", "(LValleyMass$Valley;III)I"⟩, prog_10_method_11_code, some .int, []),
  (⟨"ValleyMass", "feed", "(IIIII)I"⟩, prog_1_method_2_code, some .int, []),
  (⟨"ValleyMass", "valley", "(I)I"⟩, prog_1_method_3_code, some .int, []),
  (⟨"ValleyMass", "fault", "()I"⟩, prog_1_method_4_code, some .int, []),
  (⟨"ValleyMass", "count", "(I)I"⟩, prog_1_method_5_code, some .int, []),
  (⟨"ValleyMass", "singer", "(II)I"⟩, prog_1_method_6_code, some .int, []),
  (⟨"ValleyMass", "row", "(III)I"⟩, prog_1_method_7_code, some .int, []),
  (⟨"ValleyMass", "able", "(II)I"⟩, prog_1_method_8_code, some .int, []),
  (⟨"ValleyMass", "standIns", "(I)I"⟩, prog_1_method_9_code, some .int, []),
  (⟨"ValleyMass", "voices", "(II)I"⟩, prog_1_method_10_code, some .int, []),
  (⟨"ValleyMass", "rows", "(I)I"⟩, prog_1_method_11_code, some .int, []),
  (⟨"ValleyMass", "days", "(I)I"⟩, prog_1_method_12_code, some .int, []),
  (⟨"ValleyMass", "fall", "(I)Z"⟩, prog_1_method_13_code, some .boolean, []),
  (⟨"ValleyMass", "catches", "(I)Z"⟩, prog_1_method_14_code, some .boolean, []),
  (⟨"ValleyMass", "release", "(I)Z"⟩, prog_1_method_15_code, some .boolean, []),
  (⟨"ValleyMass", "exchange", "(II)Z"⟩, prog_1_method_16_code, some .boolean, []),
  (⟨"ValleyMass", "mayAct", "(Z)Z"⟩, prog_1_method_17_code, some .boolean, []),
  (⟨"ValleyMass", "undo", "()I"⟩, prog_1_method_18_code, some .int, []),
  (⟨"ValleyMass", "image", "()V"⟩, prog_1_method_19_code, none, []),
  (⟨"ValleyMass", "restore", "()Z"⟩, prog_1_method_20_code, some .boolean, []),
  (⟨"ValleyMass", "moved", "(I)I"⟩, prog_1_method_21_code, some .int, []),
  (⟨"ValleyMass", "spare", "(I)I"⟩, prog_1_method_22_code, some .int, []),
  (⟨"ValleyMass", "keys", "()I"⟩, prog_1_method_23_code, some .int, []),
  (⟨"ValleyMass", "ransom", "(I)I"⟩, prog_1_method_24_code, some .int, []),
  (⟨"ValleyMass", "bargain", "()I"⟩, prog_1_method_25_code, some .int, []),
  (⟨"ValleyMass", "duet", "()I"⟩, prog_1_method_26_code, some .int, []),
  (⟨"ValleyMass", "evening", "()I"⟩, prog_1_method_27_code, some .int, []),
  (⟨"ValleyMass", "cast", "(II)I"⟩, prog_1_method_28_code, some .int, []),
  (⟨"ValleyMass", "casts", "(I)J"⟩, prog_1_method_29_code, some .long, []),
  (⟨"ValleyMass", "transposed", "(I)I"⟩, prog_1_method_30_code, some .int, []),
  (⟨"ValleyMass", "lacking", "(II)I"⟩, prog_1_method_31_code, some .int, []),
  (⟨"ValleyMass", "widen", "(II)I"⟩, prog_1_method_32_code, some .int, []),
  (⟨"ValleyMass", "luck", "(III)I"⟩, prog_1_method_33_code, some .int, []),
  (⟨"ValleyMass", "codes", "(II)J"⟩, prog_1_method_34_code, some .long, []),
  (⟨"ValleyMass", "slips", "(II)I"⟩, prog_1_method_35_code, some .int, []),
  (⟨"ValleyMass", "hear", "(IIII)I"⟩, prog_1_method_36_code, some .int, []),
  (⟨"ValleyMass", "flat", "(I)I"⟩, prog_1_method_37_code, some .int, []),
  (⟨"ValleyMass", "allHeardIsSo", "(II)Z"⟩, prog_1_method_38_code, some .boolean, []),
  (⟨"ValleyMass", "forget", "()V"⟩, prog_1_method_39_code, none, []),
  (⟨"ValleyMass", "holds", "(I)Z"⟩, prog_1_method_40_code, some .boolean, []),
  (⟨"ValleyMass", "aimed", "(I)I"⟩, prog_1_method_41_code, some .int, []),
  (⟨"ValleyMass", "peace", "()I"⟩, prog_1_method_42_code, some .int, []),
  (⟨"ValleyMass", "silent", "()I"⟩, prog_1_method_43_code, some .int, []),
  (⟨"ValleyMass", "falls", "(I)I"⟩, prog_1_method_44_code, some .int, []),
  (⟨"ValleyMass", "held", "(II)I"⟩, prog_1_method_45_code, some .int, []),
  (⟨"ValleyMass", "lost", "(I)I"⟩, prog_1_method_46_code, some .int, []),
  (⟨"ValleyMass", "gone", "(I)I"⟩, prog_1_method_47_code, some .int, []),
  (⟨"ValleyMass", "game", "(II)I"⟩, prog_1_method_48_code, some .int, []),
  (⟨"ValleyMass", "wars", "(III)I"⟩, prog_1_method_49_code, some .int, []),
  (⟨"ValleyMass", "checkSinger", "(I)V"⟩, prog_1_method_50_code, none, []),
  (⟨"ValleyMass", "checkPiece", "(I)V"⟩, prog_1_method_51_code, none, []),
  (⟨"ValleyMass", "checkPart", "(I)V"⟩, prog_1_method_52_code, none, []),
  (⟨"ValleyMass", "checkRow", "(II)V"⟩, prog_1_method_53_code, none, []),
  (⟨"ValleyMass", "checkWarring", "(I)V"⟩, prog_1_method_54_code, none, []),
  (⟨"ValleyMass", "checkDays", "(I)V"⟩, prog_1_method_55_code, none, []),
  (⟨"ValleyMassModel", "thrown", "()I"⟩, prog_12_method_2_code, some .int, []),
  (⟨"ValleyMassModel", "right", "(ZI)Z"⟩, prog_12_method_3_code, some .boolean, []),
  (⟨"ValleyMassModel", "within", "(III)Z"⟩, prog_12_method_4_code, some .boolean, []),
  (⟨"ValleyMassModel", "copies", "([I[I)V"⟩, prog_12_method_5_code, none, []),
  (⟨"ValleyMassModel", "bits", "(I)I"⟩, prog_12_method_6_code, some .int, []),
  (⟨"ValleyMassModel", "feed", "(IIIII)I"⟩, prog_12_method_7_code, some .int, []),
  (⟨"ValleyMassModel", "lays", "(I)V"⟩, prog_12_method_8_code, none, []),
  (⟨"ValleyMassModel", "byteAt", "(I)I"⟩, prog_12_method_9_code, some .int, []),
  (⟨"ValleyMassModel", "isLetter", "(I)Z"⟩, prog_12_method_10_code, some .boolean, []),
  (⟨"ValleyMassModel", "isDigit", "(I)Z"⟩, prog_12_method_11_code, some .boolean, []),
  (⟨"ValleyMassModel", "goes", "()V"⟩, prog_12_method_12_code, none, []),
  (⟨"ValleyMassModel", "spelled", "(IIIIIII)J"⟩, prog_12_method_13_code, some .long, []),
  (⟨"ValleyMassModel", "letters", "(I)J"⟩, prog_12_method_14_code, some .long, []),
  (⟨"ValleyMassModel", "knownWord", "()I"⟩, prog_12_method_15_code, some .int, []),
  (⟨"ValleyMassModel", "wrong", "(I)V"⟩, prog_12_method_16_code, none, []),
  (⟨"ValleyMassModel", "isGood", "()Z"⟩, prog_12_method_17_code, some .boolean, []),
  (⟨"ValleyMassModel", "isSign", "(I)Z"⟩, prog_12_method_18_code, some .boolean, []),
  (⟨"ValleyMassModel", "need", "(Z)V"⟩, prog_12_method_19_code, none, []),
  (⟨"ValleyMassModel", "number", "(II)I"⟩, prog_12_method_20_code, some .int, []),
  (⟨"ValleyMassModel", "puts", "(I)V"⟩, prog_12_method_21_code, none, []),
  (⟨"ValleyMassModel", "isOpen", "(I)Z"⟩, prog_12_method_22_code, some .boolean, []),
  (⟨"ValleyMassModel", "strength", "(I)I"⟩, prog_12_method_23_code, some .int, []),
  (⟨"ValleyMassModel", "drops", "(I)V"⟩, prog_12_method_24_code, none, []),
  (⟨"ValleyMassModel", "waitsFor", "(I)V"⟩, prog_12_method_25_code, none, []),
  (⟨"ValleyMassModel", "part", "()V"⟩, prog_12_method_26_code, none, []),
  (⟨"ValleyMassModel", "deeper", "()V"⟩, prog_12_method_27_code, none, []),
  (⟨"ValleyMassModel", "operand", "(Z)V"⟩, prog_12_method_28_code, none, []),
  (⟨"ValleyMassModel", "isOpened", "()Z"⟩, prog_12_method_29_code, some .boolean, []),
  (⟨"ValleyMassModel", "closes", "()V"⟩, prog_12_method_30_code, none, []),
  (⟨"ValleyMassModel", "expression", "(II)V"⟩, prog_12_method_31_code, none, []),
  (⟨"ValleyMassModel", "readsSinger", "(I)V"⟩, prog_12_method_32_code, none, []),
  (⟨"ValleyMassModel", "readsRow", "(I)V"⟩, prog_12_method_33_code, none, []),
  (⟨"ValleyMassModel", "readsRule", "(I)V"⟩, prog_12_method_34_code, none, []),
  (⟨"ValleyMassModel", "line", "()V"⟩, prog_12_method_35_code, none, []),
  (⟨"ValleyMassModel", "valley", "(I)I"⟩, prog_12_method_36_code, some .int, []),
  (⟨"ValleyMassModel", "fault", "()I"⟩, prog_12_method_37_code, some .int, []),
  (⟨"ValleyMassModel", "keeps", "()V"⟩, prog_12_method_38_code, none, []),
  (⟨"ValleyMassModel", "refuses", "(I)I"⟩, prog_12_method_39_code, some .int, []),
  (⟨"ValleyMassModel", "undo", "()I"⟩, prog_12_method_40_code, some .int, []),
  (⟨"ValleyMassModel", "areSo", "([II)I"⟩, prog_12_method_41_code, some .int, []),
  (⟨"ValleyMassModel", "ofSide", "(I)I"⟩, prog_12_method_42_code, some .int, []),
  (⟨"ValleyMassModel", "hasAll", "(III)Z"⟩, prog_12_method_43_code, some .boolean, []),
  (⟨"ValleyMassModel", "ableOf", "(III)I"⟩, prog_12_method_44_code, some .int, []),
  (⟨"ValleyMassModel", "hasRows", "(I)Z"⟩, prog_12_method_45_code, some .boolean, []),
  (⟨"ValleyMassModel", "canBeSung", "(III)Z"⟩, prog_12_method_46_code, some .boolean, []),
  (⟨"ValleyMassModel", "sungBy", "(I)I"⟩, prog_12_method_47_code, some .int, []),
  (⟨"ValleyMassModel", "count", "(I)I"⟩, prog_12_method_48_code, some .int, []),
  (⟨"ValleyMassModel", "isSinger", "(I)Z"⟩, prog_12_method_49_code, some .boolean, []),
  (⟨"ValleyMassModel", "isPiece", "(I)Z"⟩, prog_12_method_50_code, some .boolean, []),
  (⟨"ValleyMassModel", "isWhat", "(II)Z"⟩, prog_12_method_51_code, some .boolean, []),
  (⟨"ValleyMassModel", "singer", "(II)I"⟩, prog_12_method_52_code, some .int, []),
  (⟨"ValleyMassModel", "notesOf", "(I)I"⟩, prog_12_method_53_code, some .int, []),
  (⟨"ValleyMassModel", "row", "(III)I"⟩, prog_12_method_54_code, some .int, []),
  (⟨"ValleyMassModel", "able", "(II)I"⟩, prog_12_method_55_code, some .int, []),
  (⟨"ValleyMassModel", "works", "(III)I"⟩, prog_12_method_56_code, some .int, []),
  (⟨"ValleyMassModel", "reckons", "(I)I"⟩, prog_12_method_57_code, some .int, []),
  (⟨"ValleyMassModel", "isHolding", "([II)Z"⟩, prog_12_method_58_code, some .boolean, []),
  (⟨"ValleyMassModel", "aimsFor", "([III)I"⟩, prog_12_method_59_code, some .int, []),
  (⟨"ValleyMassModel", "aims", "([II)I"⟩, prog_12_method_60_code, some .int, []),
  (⟨"ValleyMassModel", "dayGoes", "([I)I"⟩, prog_12_method_61_code, some .int, []),
  (⟨"ValleyMassModel", "days", "(I)I"⟩, prog_12_method_62_code, some .int, []),
  (⟨"ValleyMassModel", "becomes", "(III)Z"⟩, prog_12_method_63_code, some .boolean, []),
  (⟨"ValleyMassModel", "fall", "(I)Z"⟩, prog_12_method_64_code, some .boolean, []),
  (⟨"ValleyMassModel", "catches", "(I)Z"⟩, prog_12_method_65_code, some .boolean, []),
  (⟨"ValleyMassModel", "release", "(I)Z"⟩, prog_12_method_66_code, some .boolean, []),
  (⟨"ValleyMassModel", "exchange", "(II)Z"⟩, prog_12_method_67_code, some .boolean, []),
  (⟨"ValleyMassModel", "movedFor", "(III)I"⟩, prog_12_method_68_code, some .int, []),
  (⟨"ValleyMassModel", "movedIn", "(I)I"⟩, prog_12_method_69_code, some .int, []),
  (⟨"ValleyMassModel", "moved", "(I)I"⟩, prog_12_method_70_code, some .int, []),
  (⟨"ValleyMassModel", "spare", "(I)I"⟩, prog_12_method_71_code, some .int, []),
  (⟨"ValleyMassModel", "keys", "()I"⟩, prog_12_method_72_code, some .int, []),
  (⟨"ValleyMassModel", "ransom", "(I)I"⟩, prog_12_method_73_code, some .int, []),
  (⟨"ValleyMassModel", "peace", "()I"⟩, prog_12_method_74_code, some .int, []),
  (⟨"ValleyMassModel", "silent", "()I"⟩, prog_12_method_75_code, some .int, []),
  (⟨"ValleyMassModel", "falls", "(I)I"⟩, prog_12_method_76_code, some .int, []),
  (⟨"ValleyMassModel", "areAtOnce", "(I)Z"⟩, prog_12_method_77_code, some .boolean, []),
  (⟨"ValleyMassModel", "duet", "()I"⟩, prog_12_method_78_code, some .int, []),
  (⟨"ValleyMassModel", "evening", "()I"⟩, prog_12_method_79_code, some .int, []),
  (⟨"ValleyMassModel", "cast", "(II)I"⟩, prog_12_method_80_code, some .int, []),
  (⟨"ValleyMassModel", "isOnScale", "(II)Z"⟩, prog_12_method_81_code, some .boolean, []),
  (⟨"ValleyMassModel", "transposed", "(I)I"⟩, prog_12_method_82_code, some .int, []),
  (⟨"ValleyMassModel", "standIns", "(I)I"⟩, prog_12_method_83_code, some .int, []),
  (⟨"ValleyMassModel", "voices", "(II)I"⟩, prog_12_method_84_code, some .int, []),
  (⟨"ValleyMassModel", "lackingIn", "(I)I"⟩, prog_12_method_85_code, some .int, []),
  (⟨"ValleyMassModel", "lacking", "(II)I"⟩, prog_12_method_86_code, some .int, []),
  (⟨"ValleyMassModel", "widerFor", "(II)I"⟩, prog_12_method_87_code, some .int, []),
  (⟨"ValleyMassModel", "widen", "(II)I"⟩, prog_12_method_88_code, some .int, []),
  (⟨"ValleyMassModel", "bargain", "()I"⟩, prog_12_method_89_code, some .int, []),
  (⟨"ValleyMassModel", "casts", "(I)J"⟩, prog_12_method_90_code, some .long, []),
  (⟨"ValleyMassModel", "holds", "(I)Z"⟩, prog_12_method_91_code, some .boolean, []),
  (⟨"ValleyMassModel", "aimed", "(I)I"⟩, prog_12_method_92_code, some .int, []),
  (⟨"ValleyMassModel", "held", "(II)I"⟩, prog_12_method_93_code, some .int, []),
  (⟨"ValleyMassModel", "lost", "(I)I"⟩, prog_12_method_94_code, some .int, []),
  (⟨"ValleyMassModel", "gone", "(I)I"⟩, prog_12_method_95_code, some .int, []),
  (⟨"ValleyMassModel", "rows", "(I)I"⟩, prog_12_method_96_code, some .int, []),
  (⟨"ValleyMassModel", "portion", "(III)I"⟩, prog_12_method_97_code, some .int, []),
  (⟨"ValleyMassModel", "luck", "(III)I"⟩, prog_12_method_98_code, some .int, []),
  (⟨"ValleyMassModel", "notesIn", "(I)I"⟩, prog_12_method_99_code, some .int, []),
  (⟨"ValleyMassModel", "codesOf", "(II)J"⟩, prog_12_method_100_code, some .long, []),
  (⟨"ValleyMassModel", "codes", "(II)J"⟩, prog_12_method_101_code, some .long, []),
  (⟨"ValleyMassModel", "slips", "(II)I"⟩, prog_12_method_102_code, some .int, []),
  (⟨"ValleyMassModel", "hear", "(IIII)I"⟩, prog_12_method_103_code, some .int, []),
  (⟨"ValleyMassModel", "forget", "()V"⟩, prog_12_method_104_code, none, []),
  (⟨"ValleyMassModel", "isHeard", "(II)Z"⟩, prog_12_method_105_code, some .boolean, []),
  (⟨"ValleyMassModel", "flat", "(I)I"⟩, prog_12_method_106_code, some .int, []),
  (⟨"ValleyMassModel", "lays4", "(I)V"⟩, prog_12_method_107_code, none, []),
  (⟨"ValleyMassModel", "game", "(II)I"⟩, prog_12_method_108_code, some .int, []),
  (⟨"ValleyMassModel", "draw", "(I)I"⟩, prog_12_method_109_code, some .int, []),
  (⟨"ValleyMassModel", "wars", "(III)I"⟩, prog_12_method_110_code, some .int, []),
  (⟨"ValleyMassModel", "image", "()V"⟩, prog_12_method_111_code, none, []),
  (⟨"ValleyMassModel", "restore", "()Z"⟩, prog_12_method_112_code, some .boolean, []),
  (⟨"java/lang/Integer", "bitCount", "(I)I"⟩, prog_18_method_49_code, some .int, []),
  (⟨"java/lang/Math", "max", "(II)I"⟩, prog_19_method_65_code, some .int, []),
  (⟨"java/lang/Math", "min", "(II)I"⟩, prog_19_method_69_code, some .int, []),
  (⟨"ValleyMassLaw", "valley", "(LValleyMass;I[J)I"⟩, method_3_code, some .int, [(0, 9, 12, 13)]),
  (⟨"ValleyMassLaw", "count", "(LValleyMass;I[J)I"⟩, method_4_code, some .int, [(0, 9, 12, 18)]),
  (⟨"ValleyMassLaw", "singer", "(LValleyMass;II[J)I"⟩, method_5_code, some .int, [(0, 10, 13, 18)]),
  (⟨"ValleyMassLaw", "row", "(LValleyMass;III[J)I"⟩, method_6_code, some .int, [(0, 12, 15, 18)]),
  (⟨"ValleyMassLaw", "able", "(LValleyMass;II[J)I"⟩, method_7_code, some .int, [(0, 10, 13, 18)]),
  (⟨"ValleyMassLaw", "fall", "(LValleyMass;I[J)I"⟩, method_8_code, some .int, [(0, 16, 19, 18)]),
  (⟨"ValleyMassLaw", "catches", "(LValleyMass;I[J)I"⟩, method_9_code, some .int, [(0, 16, 19, 18)]),
  (⟨"ValleyMassLaw", "release", "(LValleyMass;I[J)I"⟩, method_10_code, some .int, [(0, 16, 19, 18)]),
  (⟨"ValleyMassLaw", "exchange", "(LValleyMass;II[J)I"⟩, method_11_code, some .int, [(0, 17, 20, 18)]),
  (⟨"ValleyMassLaw", "moved", "(LValleyMass;I[J)I"⟩, method_12_code, some .int, [(0, 9, 12, 18)]),
  (⟨"ValleyMassLaw", "spare", "(LValleyMass;I[J)I"⟩, method_13_code, some .int, [(0, 9, 12, 18)]),
  (⟨"ValleyMassLaw", "ransom", "(LValleyMass;I[J)I"⟩, method_14_code, some .int, [(0, 9, 12, 18)]),
  (⟨"ValleyMassLaw", "luck", "(LValleyMass;III[J)I"⟩, method_15_code, some .int, [(0, 12, 15, 18), (0, 12, 19, 13)]),
  (⟨"ValleyMassLaw", "codes", "(LValleyMass;II[J)I"⟩, method_16_code, some .int, [(0, 9, 12, 18), (0, 9, 16, 13)]),
  (⟨"ValleyMassLaw", "slips", "(LValleyMass;II[J)I"⟩, method_17_code, some .int, [(0, 10, 13, 18), (0, 10, 17, 13)]),
  (⟨"ValleyMassLaw", "hear", "(LValleyMass;IIII[J)I"⟩, method_18_code, some .int, [(0, 14, 17, 18)]),
  (⟨"ValleyMassLaw", "flat", "(LValleyMass;I[J)I"⟩, method_19_code, some .int, [(0, 9, 12, 18)]),
  (⟨"ValleyMassLaw", "game", "(LValleyMass;II[J)I"⟩, method_20_code, some .int, [(0, 10, 13, 18), (0, 10, 17, 13)]),
  (⟨"ValleyMassLaw", "wars", "(LValleyMass;III[J)I"⟩, method_21_code, some .int, [(0, 12, 15, 18), (0, 12, 19, 13)]),
  (⟨"ValleyMassLaw", "cast", "(LValleyMass;II[J)I"⟩, method_22_code, some .int, [(0, 10, 13, 18)]),
  (⟨"ValleyMassLaw", "transposed", "(LValleyMass;I[J)I"⟩, method_23_code, some .int, [(0, 9, 12, 18)]),
  (⟨"ValleyMassLaw", "standIns", "(LValleyMass;I[J)I"⟩, method_24_code, some .int, [(0, 9, 12, 18)]),
  (⟨"ValleyMassLaw", "falls", "(LValleyMass;I[J)I"⟩, method_25_code, some .int, [(0, 9, 12, 13)]),
  (⟨"ValleyMassLaw", "voices", "(LValleyMass;II[J)I"⟩, method_26_code, some .int, [(0, 10, 13, 18)]),
  (⟨"ValleyMassLaw", "lacking", "(LValleyMass;II[J)I"⟩, method_27_code, some .int, [(0, 10, 13, 18)]),
  (⟨"ValleyMassLaw", "widen", "(LValleyMass;II[J)I"⟩, method_28_code, some .int, [(0, 10, 13, 18)]),
  (⟨"ValleyMassLaw", "casts", "(LValleyMass;I[J)I"⟩, method_29_code, some .int, [(0, 8, 11, 18)]),
  (⟨"ValleyMassLaw", "holds", "(LValleyMass;I[J)I"⟩, method_30_code, some .int, [(0, 16, 19, 18)]),
  (⟨"ValleyMassLaw", "aimed", "(LValleyMass;I[J)I"⟩, method_31_code, some .int, [(0, 9, 12, 18)]),
  (⟨"ValleyMassLaw", "held", "(LValleyMass;II[J)I"⟩, method_32_code, some .int, [(0, 10, 13, 18), (0, 10, 17, 13)]),
  (⟨"ValleyMassLaw", "lost", "(LValleyMass;I[J)I"⟩, method_33_code, some .int, [(0, 9, 12, 18)]),
  (⟨"ValleyMassLaw", "gone", "(LValleyMass;I[J)I"⟩, method_34_code, some .int, [(0, 9, 12, 18)]),
  (⟨"ValleyMassLaw", "rows", "(LValleyMass;I[J)I"⟩, method_35_code, some .int, [(0, 9, 12, 18)]),
  (⟨"ValleyMassLaw", "law", "([I)Z"⟩, code, some .boolean, [])]
/-- where their words stand: code, initialized, instanceMethod or static, selects -/
def sm_NW : List (Nat × Nat × Nat × Nat) := [(1008, 116, 1007, 0), (1012, 116, 1011, 0), (1016, 116, 1015, 0), (1019, 116, 1018, 0), (1030, 116, 1029, 0), (531, 116, 530, 0), (1041, 116, 1040, 0), (539, 116, 538, 0), (548, 116, 547, 0), (551, 116, 550, 0), (1165, 116, 1164, 0), (1168, 116, 1167, 0), (1249, 116, 1248, 0), (1179, 116, 1178, 0), (1230, 116, 1229, 0), (1234, 116, 1233, 0), (1053, 116, 1052, 0), (1056, 116, 1055, 0), (882, 98, 880, 881), (516, 98, 514, 515), (424, 98, 422, 423), (504, 98, 502, 503), (1099, 98, 1097, 1098), (1059, 117, 1058, 0), (1078, 117, 1077, 0), (1063, 117, 1062, 0), (650, 96, 648, 649), (874, 96, 872, 873), (767, 96, 766, 11), (771, 96, 770, 12), (791, 96, 790, 17), (783, 96, 782, 15), (820, 96, 819, 23), (775, 96, 774, 13), (759, 96, 758, 9), (787, 96, 786, 16), (779, 96, 778, 14), (763, 96, 762, 10), (799, 96, 798, 19), (795, 96, 794, 18), (803, 96, 802, 20), (807, 96, 806, 21), (816, 96, 815, 22), (824, 96, 823, 24), (828, 96, 827, 25), (832, 96, 831, 26), (836, 96, 835, 27), (840, 96, 839, 28), (844, 96, 843, 29), (755, 101, 753, 754), (812, 101, 810, 811), (852, 101, 850, 851), (848, 101, 846, 847), (462, 101, 460, 461), (471, 101, 469, 470), (476, 101, 475, 0), (479, 101, 478, 0), (886, 99, 884, 885), (520, 99, 518, 519), (431, 99, 429, 430), (508, 99, 506, 507), (926, 99, 924, 925), (496, 99, 494, 495), (979, 99, 977, 978), (990, 99, 988, 989), (1150, 99, 1148, 1149), (412, 97, 410, 411), (747, 97, 745, 746), (878, 97, 876, 877), (654, 97, 652, 653), (743, 97, 742, 8), (661, 97, 660, 2), (668, 97, 667, 0), (671, 97, 670, 0), (665, 97, 664, 3), (678, 97, 677, 4), (739, 97, 738, 7), (682, 97, 681, 5), (735, 97, 734, 6), (751, 100, 749, 750), (856, 100, 854, 855), (860, 100, 859, 30), (864, 100, 863, 31), (466, 100, 464, 465), (489, 100, 487, 488), (870, 100, 868, 869), (1133, 100, 1131, 1132), (1075, 100, 1073, 1074), (446, 100, 444, 445), (442, 100, 440, 441), (1219, 100, 1217, 1218), (1238, 100, 1236, 1237), (438, 100, 436, 437), (458, 115, 457, 0), (482, 115, 481, 0), (485, 115, 484, 0), (492, 115, 491, 0), (455, 115, 454, 0), (434, 115, 433, 0), (1123, 115, 1122, 0), (1126, 115, 1125, 0), (1129, 115, 1128, 0), (1136, 115, 1135, 0), (408, 95, 406, 407), (579, 95, 577, 578), (416, 95, 414, 415), (894, 95, 892, 893), (917, 95, 915, 916), (934, 95, 932, 933), (956, 95, 954, 955), (1186, 95, 1184, 1185), (1206, 95, 1204, 1205), (1298, 95, 1296, 1297), (420, 95, 418, 419), (963, 95, 961, 962), (975, 95, 973, 974), (986, 95, 984, 985), (997, 95, 995, 996), (967, 95, 966, 36), (500, 95, 498, 499), (512, 95, 510, 511), (524, 95, 522, 523), (1005, 95, 1003, 1004), (1027, 95, 1025, 1026), (528, 95, 526, 527), (1038, 95, 1036, 1037), (536, 95, 534, 535), (545, 95, 543, 544), (555, 95, 553, 554), (1160, 95, 1158, 1159), (1246, 95, 1244, 1245), (1176, 95, 1174, 1175), (1214, 95, 1212, 1213), (1226, 95, 1224, 1225), (1048, 95, 1046, 1047), (1070, 95, 1068, 1069), (1086, 95, 1084, 1085), (1095, 95, 1093, 1094), (1106, 95, 1104, 1105), (1111, 95, 1110, 37), (560, 95, 558, 559), (1256, 95, 1254, 1255), (1269, 95, 1267, 1268), (564, 95, 562, 563), (569, 95, 567, 568), (1195, 95, 1193, 1194), (1277, 95, 1275, 1276), (1284, 95, 1282, 1283), (1291, 95, 1289, 1290), (1118, 95, 1116, 1117), (1143, 95, 1141, 1142), (921, 95, 920, 32), (942, 95, 941, 34), (947, 95, 946, 35), (938, 95, 937, 33), (1260, 95, 1259, 39), (1199, 95, 1198, 38), (1499, 102, 1497, 1498), (1515, 102, 1514, 41), (1637, 102, 1636, 0), (1622, 102, 1621, 63), (1664, 102, 1663, 0), (1503, 102, 1501, 1502), (1507, 102, 1506, 40), (1523, 102, 1522, 43), (1526, 102, 1525, 0), (1529, 102, 1528, 0), (1519, 102, 1518, 42), (1547, 102, 1546, 0), (1544, 102, 1543, 0), (1541, 102, 1540, 46), (1556, 102, 1555, 48), (1533, 102, 1532, 44), (1580, 102, 1579, 54), (1618, 102, 1617, 62), (1560, 102, 1559, 49), (1596, 102, 1595, 58), (1603, 102, 1602, 0), (1606, 102, 1605, 0), (1600, 102, 1599, 59), (1588, 102, 1587, 56), (1592, 102, 1591, 57), (1576, 102, 1575, 53), (1584, 102, 1583, 55), (1610, 102, 1609, 60), (1614, 102, 1613, 61), (1572, 102, 1571, 52), (1552, 102, 1551, 47), (1564, 102, 1563, 50), (1568, 102, 1567, 51), (1537, 102, 1536, 45), (1511, 102, 1509, 1510), (1626, 102, 1624, 1625), (1704, 102, 1703, 75), (1700, 102, 1699, 74), (1630, 102, 1628, 1629), (1641, 102, 1640, 64), (1716, 102, 1715, 78), (1661, 102, 1660, 69), (1657, 102, 1656, 68), (1653, 102, 1652, 67), (1649, 102, 1648, 66), (1645, 102, 1644, 65), (1634, 102, 1632, 1633), (1672, 102, 1671, 70), (1684, 102, 1683, 72), (1676, 102, 1675, 71), (1668, 102, 1666, 1667), (1688, 102, 1687, 73), (1680, 102, 1678, 1679), (1692, 102, 1690, 1691), (1723, 102, 1722, 0), (1720, 102, 1719, 79), (1712, 102, 1711, 77), (1731, 102, 1730, 81), (1727, 102, 1726, 80), (1708, 102, 1707, 76), (1696, 102, 1694, 1695), (1739, 102, 1738, 82), (1735, 102, 1733, 1734), (1743, 102, 1741, 1742), (1747, 102, 1745, 1746), (1751, 102, 1749, 1750), (1763, 102, 1762, 84), (1759, 102, 1758, 83), (1755, 102, 1753, 1754), (1767, 102, 1765, 1766), (1771, 102, 1769, 1770), (1775, 102, 1773, 1774), (1779, 102, 1777, 1778), (1783, 102, 1781, 1782), (1787, 102, 1785, 1786), (1795, 102, 1794, 85), (1791, 102, 1789, 1790), (1799, 102, 1797, 1798), (1803, 102, 1801, 1802), (1811, 102, 1810, 86), (1807, 102, 1805, 1806), (1815, 102, 1813, 1814), (1819, 102, 1817, 1818), (1827, 102, 1826, 87), (1823, 102, 1821, 1822), (1835, 102, 1834, 88), (1831, 102, 1829, 1830), (1839, 102, 1837, 1838), (1843, 102, 1841, 1842), (1847, 102, 1845, 1846), (1851, 102, 1849, 1850), (1855, 102, 1853, 1854), (1859, 102, 1857, 1858), (1863, 102, 1861, 1862), (1867, 102, 1865, 1866), (1874, 102, 1873, 0), (1871, 102, 1869, 1870), (1886, 102, 1885, 90), (1882, 102, 1881, 89), (1878, 102, 1876, 1877), (1891, 102, 1889, 1890), (1896, 102, 1894, 1895), (1900, 102, 1898, 1899), (1908, 102, 1907, 91), (1904, 102, 1902, 1903), (1916, 102, 1915, 92), (1912, 102, 1910, 1911), (1924, 102, 1923, 93), (1920, 102, 1918, 1919), (1929, 102, 1927, 1928), (1933, 102, 1931, 1932), (449, 112, 448, 0), (674, 107, 673, 0), (657, 107, 656, 0), (574, 94, 573, 0), (889, 94, 888, 0), (913, 94, 912, 0), (930, 94, 929, 0), (952, 94, 951, 0), (959, 94, 958, 0), (971, 94, 970, 0), (982, 94, 981, 0), (993, 94, 992, 0), (1001, 94, 1000, 0), (1023, 94, 1022, 0), (1034, 94, 1033, 0), (1044, 94, 1043, 0), (1066, 94, 1065, 0), (1082, 94, 1081, 0), (1091, 94, 1090, 0), (1102, 94, 1101, 0), (1114, 94, 1113, 0), (1139, 94, 1138, 0), (1156, 94, 1155, 0), (1172, 94, 1171, 0), (1182, 94, 1181, 0), (1191, 94, 1190, 0), (1202, 94, 1201, 0), (1210, 94, 1209, 0), (1222, 94, 1221, 0), (1242, 94, 1241, 0), (1252, 94, 1251, 0), (1265, 94, 1264, 0), (1273, 94, 1272, 0), (1280, 94, 1279, 0), (1287, 94, 1286, 0), (1294, 94, 1293, 0), (0, 94, 0, 0)]
/-- calls: own, entry, whom, operands, kind, virtual, word -/
def sm_MT : List (Nat × Nat × Nat × Nat × Nat × Bool × Nat) := [(0, 15, 84, 2, 15, true, 1009), (0, 19, 1, 3, 0, false, 1010), (0, 31, 85, 4, 15, true, 1013), (0, 35, 268, 1, 0, false, 541), (0, 40, 2, 4, 0, false, 1014), (0, 44, 270, 2, 0, false, 1020), (0, 56, 3, 3, 0, false, 1017), (0, 60, 88, 3, 15, true, 1031), (0, 67, 89, 2, 15, true, 532), (0, 70, 83, 2, 15, true, 540), (0, 82, 9, 3, 0, false, 549), (0, 86, 11, 2, 0, false, 1166), (0, 93, 23, 2, 0, false, 1057), (0, 105, 90, 3, 15, true, 1231), (0, 108, 91, 3, 15, true, 1235), (0, 111, 17, 3, 0, false, 1054), (1, 31, 57, 2, 13, true, 883), (1, 42, 58, 2, 13, true, 517), (1, 52, 59, 3, 13, true, 428), (1, 56, 60, 3, 13, true, 505), (2, 9, 23, 2, 0, false, 1079), (3, 18, 69, 2, 14, true, 651), (3, 26, 67, 2, 14, true, 744), (3, 40, 79, 1, 15, true, 748), (3, 45, 34, 2, 11, true, 756), (3, 49, 80, 1, 15, true, 853), (3, 52, 68, 2, 14, true, 875), (3, 55, 37, 2, 11, true, 760), (3, 58, 35, 2, 11, true, 784), (3, 62, 33, 1, 11, true, 772), (3, 66, 39, 2, 11, true, 792), (3, 69, 38, 2, 11, true, 796), (3, 72, 40, 2, 11, true, 800), (3, 79, 41, 3, 11, true, 804), (3, 85, 28, 2, 11, true, 764), (3, 89, 30, 2, 11, true, 788), (3, 92, 29, 1, 11, true, 768), (3, 95, 31, 1, 11, true, 780), (3, 111, 36, 3, 11, true, 776), (3, 139, 53, 2, 12, true, 808), (3, 148, 50, 2, 12, true, 809), (3, 151, 42, 3, 11, true, 813), (3, 154, 51, 2, 12, true, 849), (3, 157, 32, 1, 11, true, 817), (3, 160, 43, 3, 11, true, 821), (3, 163, 52, 2, 12, true, 845), (3, 166, 44, 3, 11, true, 825), (3, 169, 45, 3, 11, true, 829), (3, 172, 46, 3, 11, true, 833), (3, 175, 47, 3, 11, true, 837), (3, 178, 48, 3, 11, true, 841), (4, 31, 53, 2, 12, true, 472), (4, 35, 55, 2, 12, true, 473), (4, 39, 56, 3, 0, false, 477), (5, 25, 61, 2, 13, true, 1151), (5, 29, 63, 2, 13, true, 1152), (5, 33, 64, 2, 13, true, 1153), (6, 31, 270, 2, 0, false, 655), (6, 37, 71, 2, 14, true, 658), (6, 41, 74, 2, 14, true, 662), (6, 44, 269, 2, 0, false, 672), (6, 47, 75, 3, 14, true, 675), (6, 50, 70, 3, 14, true, 740), (6, 54, 72, 1, 0, false, 666), (6, 58, 73, 1, 0, false, 669), (6, 61, 77, 3, 14, true, 679), (6, 64, 76, 3, 14, true, 736), (6, 79, 78, 4, 14, true, 732), (7, 68, 49, 1, 12, true, 752), (7, 71, 81, 3, 15, true, 857), (7, 75, 82, 2, 15, true, 861), (7, 79, 85, 4, 15, true, 867), (7, 83, 270, 2, 0, false, 865), (7, 89, 269, 2, 0, false, 866), (7, 92, 268, 1, 0, false, 447), (7, 98, 88, 3, 15, true, 443), (8, 15, 53, 2, 12, true, 459), (8, 21, 83, 2, 15, true, 463), (8, 41, 268, 1, 0, false, 467), (8, 49, 89, 2, 15, true, 439), (8, 52, 54, 2, 12, true, 468), (8, 55, 95, 4, 0, false, 483), (8, 67, 84, 2, 15, true, 486), (8, 70, 93, 3, 0, false, 456), (8, 74, 94, 3, 0, false, 480), (8, 78, 96, 1, 0, false, 490), (8, 81, 92, 2, 15, true, 435), (8, 84, 97, 3, 0, false, 453), (8, 87, 62, 2, 13, true, 493), (8, 91, 100, 4, 0, false, 1124), (8, 94, 101, 2, 0, false, 1127), (8, 98, 102, 4, 0, false, 1134), (8, 102, 86, 2, 15, true, 1130), (9, 63, 66, 2, 14, true, 409), (9, 74, 26, 3, 11, true, 647), (9, 78, 27, 1, 11, true, 871), (9, 89, 18, 2, 10, true, 879), (9, 116, 89, 2, 15, true, 571), (9, 131, 151, 2, 16, true, 918), (9, 149, 61, 2, 13, true, 923), (9, 154, 154, 3, 16, true, 935), (9, 172, 84, 2, 15, true, 1187), (9, 175, 85, 4, 15, true, 1188), (9, 181, 153, 2, 16, true, 944), (9, 184, 83, 2, 15, true, 998), (9, 187, 268, 1, 0, false, 556), (9, 192, 20, 1, 10, true, 421), (9, 195, 98, 2, 0, false, 432), (9, 201, 118, 2, 16, true, 964), (9, 205, 62, 2, 13, true, 968), (9, 208, 63, 2, 13, true, 976), (9, 211, 64, 2, 13, true, 987), (9, 214, 21, 1, 10, true, 501), (9, 217, 19, 2, 10, true, 513), (9, 221, 152, 2, 16, true, 939), (9, 224, 0, 3, 0, false, 1006), (9, 230, 4, 3, 0, false, 1028), (9, 233, 5, 2, 0, false, 529), (9, 237, 6, 3, 0, false, 1039), (9, 241, 7, 2, 0, false, 537), (9, 244, 8, 3, 0, false, 546), (9, 250, 88, 3, 15, true, 1162), (9, 254, 10, 3, 0, false, 1163), (9, 257, 86, 2, 15, true, 1169), (9, 260, 12, 3, 0, false, 1247), (9, 264, 13, 4, 0, false, 1177), (9, 270, 90, 3, 15, true, 1216), (9, 276, 14, 3, 0, false, 1228), (9, 279, 15, 3, 0, false, 1232), (9, 282, 91, 3, 15, true, 1239), (9, 289, 16, 5, 0, false, 1051), (9, 293, 23, 2, 0, false, 1060), (9, 299, 25, 2, 0, false, 1061), (9, 305, 87, 2, 15, true, 1072), (9, 308, 24, 2, 0, false, 1076), (9, 314, 22, 4, 10, true, 1096), (9, 320, 139, 3, 16, true, 1108), (9, 332, 155, 2, 16, true, 1257), (9, 335, 93, 3, 0, false, 1262), (9, 339, 94, 3, 0, false, 1270), (9, 342, 58, 2, 13, true, 565), (9, 345, 92, 2, 15, true, 570), (9, 349, 156, 2, 16, true, 1196), (9, 356, 99, 5, 0, false, 1121), (9, 365, 65, 2, 13, true, 1147), (10, 126, 163, 2, 17, true, 1504), (10, 136, 164, 2, 17, true, 1520), (10, 156, 165, 1, 0, false, 1524), (10, 160, 166, 1, 0, false, 1527), (10, 168, 168, 7, 0, false, 1545), (10, 172, 169, 1, 0, false, 1542), (10, 179, 172, 1, 17, true, 1530), (10, 183, 167, 1, 17, true, 1516), (10, 186, 171, 2, 17, true, 1553), (10, 195, 177, 1, 0, false, 1601), (10, 198, 178, 1, 0, false, 1604), (10, 201, 176, 2, 17, true, 1593), (10, 204, 170, 1, 17, true, 1538), (10, 217, 173, 2, 17, true, 1577), (10, 220, 180, 2, 17, true, 1585), (10, 223, 182, 1, 17, true, 1573), (10, 226, 181, 1, 17, true, 1589), (10, 228, 179, 2, 17, true, 1597), (10, 231, 183, 2, 17, true, 1581), (10, 235, 184, 1, 17, true, 1607), (10, 238, 185, 1, 17, true, 1611), (10, 244, 175, 3, 17, true, 1557), (10, 251, 186, 3, 17, true, 1569), (10, 255, 187, 2, 17, true, 1549), (10, 258, 188, 2, 17, true, 1561), (10, 264, 189, 2, 17, true, 1565), (10, 267, 174, 2, 17, true, 1615), (10, 270, 158, 3, 17, true, 1512), (10, 274, 190, 1, 17, true, 1534), (10, 283, 160, 3, 17, true, 1619), (10, 297, 159, 3, 0, false, 1635), (10, 301, 198, 4, 17, true, 1658), (10, 304, 200, 2, 17, true, 1650), (10, 307, 199, 4, 17, true, 1654), (10, 311, 161, 1, 0, false, 1662), (10, 314, 201, 4, 17, true, 1646), (10, 317, 196, 3, 17, true, 1638), (10, 321, 202, 2, 17, true, 1642), (10, 324, 204, 2, 17, true, 1669), (10, 327, 206, 3, 17, true, 1673), (10, 331, 205, 2, 17, true, 1681), (10, 334, 208, 2, 17, true, 1685), (10, 337, 211, 3, 0, false, 1721), (10, 340, 197, 2, 17, true, 1713), (10, 343, 212, 2, 17, true, 1717), (10, 346, 214, 4, 17, true, 1728), (10, 350, 213, 3, 17, true, 1709), (10, 354, 215, 3, 17, true, 1724), (10, 357, 194, 2, 17, true, 1697), (10, 360, 193, 1, 17, true, 1701), (10, 363, 216, 2, 17, true, 1705), (10, 367, 218, 4, 17, true, 1736), (10, 370, 223, 4, 17, true, 1760), (10, 373, 224, 2, 17, true, 1756), (10, 376, 232, 2, 17, true, 1792), (10, 379, 236, 3, 17, true, 1808), (10, 382, 240, 2, 17, true, 1824), (10, 385, 242, 3, 17, true, 1832), (10, 388, 252, 3, 0, false, 1872), (10, 391, 254, 2, 17, true, 1883), (10, 396, 255, 3, 17, true, 1879), (10, 401, 260, 3, 17, true, 1905), (10, 404, 262, 2, 17, true, 1913), (10, 411, 264, 2, 17, true, 1921), (13, 7, 104, 2, 16, true, 576), (13, 15, 106, 2, 16, true, 891), (13, 20, 107, 3, 16, true, 914), (13, 24, 108, 4, 16, true, 931), (13, 28, 109, 3, 16, true, 953), (13, 31, 114, 2, 16, true, 960), (13, 35, 115, 2, 16, true, 972), (13, 38, 116, 2, 16, true, 983), (13, 41, 117, 3, 16, true, 994), (13, 45, 122, 2, 16, true, 1002), (13, 48, 123, 2, 16, true, 1024), (13, 51, 125, 2, 16, true, 1035), (13, 54, 134, 4, 16, true, 1045), (13, 57, 135, 3, 16, true, 1067), (13, 61, 136, 3, 16, true, 1083), (13, 64, 137, 5, 16, true, 1092), (13, 68, 138, 2, 16, true, 1103), (13, 71, 149, 3, 16, true, 1115), (13, 74, 150, 4, 16, true, 1140), (13, 77, 129, 3, 16, true, 1157), (13, 80, 131, 2, 16, true, 1173), (13, 83, 110, 2, 16, true, 1183), (13, 86, 145, 2, 16, true, 1192), (13, 89, 111, 3, 16, true, 1203), (13, 92, 132, 3, 16, true, 1211), (13, 95, 133, 3, 16, true, 1223), (13, 98, 130, 2, 16, true, 1243), (13, 102, 141, 2, 16, true, 1253), (13, 105, 142, 2, 16, true, 1266), (13, 108, 146, 3, 16, true, 1274), (13, 111, 147, 2, 16, true, 1281), (13, 114, 148, 2, 16, true, 1288), (13, 117, 112, 2, 16, true, 1295), (13, 124, 103, 6, 16, true, 405), (13, 128, 162, 6, 17, true, 1500), (13, 129, 271, 3, 0, false, 572), (13, 134, 191, 2, 17, true, 1508), (13, 135, 157, 1, 17, true, 1496), (13, 139, 105, 1, 16, true, 413), (13, 142, 192, 1, 17, true, 1623), (13, 143, 272, 3, 0, false, 887), (13, 145, 203, 2, 17, true, 1631), (13, 146, 273, 4, 0, false, 911), (13, 149, 207, 3, 17, true, 1665), (13, 150, 274, 5, 0, false, 928), (13, 153, 209, 4, 17, true, 1677), (13, 154, 275, 4, 0, false, 950), (13, 156, 210, 3, 17, true, 1689), (13, 157, 113, 2, 16, true, 417), (13, 160, 217, 2, 17, true, 1693), (13, 161, 276, 3, 0, false, 957), (13, 163, 219, 2, 17, true, 1732), (13, 164, 277, 3, 0, false, 969), (13, 166, 220, 2, 17, true, 1740), (13, 167, 278, 3, 0, false, 980), (13, 169, 221, 2, 17, true, 1744), (13, 170, 279, 4, 0, false, 991), (13, 172, 222, 3, 17, true, 1748), (13, 173, 119, 1, 16, true, 497), (13, 176, 195, 1, 17, true, 1627), (13, 177, 280, 3, 0, false, 999), (13, 179, 225, 2, 17, true, 1752), (13, 180, 281, 3, 0, false, 1021), (13, 182, 226, 2, 17, true, 1764), (13, 183, 124, 1, 16, true, 525), (13, 186, 227, 1, 17, true, 1768), (13, 187, 282, 3, 0, false, 1032), (13, 189, 228, 2, 17, true, 1772), (13, 190, 143, 1, 16, true, 561), (13, 193, 229, 1, 17, true, 1776), (13, 194, 144, 1, 16, true, 566), (13, 197, 230, 1, 17, true, 1780), (13, 198, 127, 1, 16, true, 542), (13, 201, 233, 1, 17, true, 1788), (13, 202, 283, 5, 0, false, 1042), (13, 204, 253, 4, 17, true, 1868), (13, 205, 284, 4, 0, false, 1064), (13, 207, 256, 3, 17, true, 1875), (13, 208, 285, 4, 0, false, 1080), (13, 210, 257, 3, 17, true, 1888), (13, 211, 286, 6, 0, false, 1089), (13, 214, 258, 5, 17, true, 1893), (13, 215, 287, 3, 0, false, 1100), (13, 217, 261, 2, 17, true, 1901), (13, 218, 140, 1, 16, true, 557), (13, 221, 259, 1, 17, true, 1897), (13, 222, 288, 4, 0, false, 1112), (13, 224, 263, 3, 17, true, 1909), (13, 225, 289, 5, 0, false, 1137), (13, 227, 265, 4, 17, true, 1917), (13, 228, 290, 4, 0, false, 1154), (13, 230, 235, 3, 17, true, 1800), (13, 231, 291, 3, 0, false, 1170), (13, 233, 237, 2, 17, true, 1804), (13, 234, 128, 1, 16, true, 552), (13, 237, 234, 1, 17, true, 1796), (13, 238, 292, 3, 0, false, 1180), (13, 240, 238, 2, 17, true, 1812), (13, 241, 293, 3, 0, false, 1189), (13, 243, 231, 2, 17, true, 1784), (13, 244, 294, 4, 0, false, 1200), (13, 246, 239, 3, 17, true, 1816), (13, 247, 295, 4, 0, false, 1208), (13, 249, 241, 3, 17, true, 1820), (13, 250, 296, 4, 0, false, 1220), (13, 252, 243, 3, 17, true, 1828), (13, 253, 126, 1, 16, true, 533), (13, 256, 244, 1, 17, true, 1836), (13, 257, 297, 3, 0, false, 1240), (13, 259, 245, 2, 17, true, 1840), (13, 260, 298, 3, 0, false, 1250), (13, 262, 246, 2, 17, true, 1844), (13, 263, 299, 3, 0, false, 1263), (13, 265, 247, 2, 17, true, 1848), (13, 266, 300, 4, 0, false, 1271), (13, 268, 248, 3, 17, true, 1852), (13, 269, 301, 3, 0, false, 1278), (13, 271, 249, 2, 17, true, 1856), (13, 272, 302, 3, 0, false, 1285), (13, 274, 250, 2, 17, true, 1860), (13, 275, 303, 3, 0, false, 1292), (13, 277, 251, 2, 17, true, 1864), (13, 278, 120, 1, 16, true, 509), (13, 281, 266, 1, 17, true, 1926), (13, 282, 121, 1, 16, true, 521), (13, 286, 267, 1, 17, true, 1930)]
/-- constants and the JDK's members: kind, own, entry, value, word -/
def sm_CT : List (Nat × Nat × Nat × Nat × Nat) := [(2, 1, 46, 3, 425), (2, 6, 69, 1, 684), (2, 6, 75, 2, 694), (0, 9, 311, 1000000000, 1087), (0, 9, 364, 1103515245, 1146), (1, 10, 166, 96, 1548), (1, 10, 394, 2, 1887), (0, 10, 400, 1000000000, 1892), (0, 10, 410, 1103515245, 1925), (0, 11, 265, 1431655765, 450), (0, 11, 266, 858993459, 451), (0, 11, 267, 252645135, 452)]
/-- throws: own, class entry, text entry, constructor entry, what, wide, two words, which text -/
def sm_TT : List (Nat × Nat × Nat × Nat × Nat × Bool × Nat × Nat × Nat) := [(9, 67, 69, 71, 0, false, 580, 621, 0), (9, 126, 128, 130, 1, false, 895, 905, 1), (9, 126, 152, 130, 1, false, 895, 905, 3), (9, 126, 164, 130, 1, false, 895, 905, 6), (9, 126, 179, 130, 1, false, 895, 905, 17), (9, 126, 248, 130, 1, false, 895, 905, 16), (9, 126, 268, 130, 1, true, 895, 905, 18), (9, 126, 274, 130, 1, true, 895, 905, 19), (9, 126, 285, 130, 1, true, 895, 905, 7), (9, 67, 287, 71, 0, true, 580, 621, 8), (9, 67, 303, 71, 0, true, 580, 621, 9), (9, 67, 312, 71, 0, true, 580, 621, 10), (9, 126, 318, 130, 1, true, 895, 905, 11), (9, 126, 179, 130, 1, false, 895, 905, 17), (9, 126, 352, 130, 1, true, 895, 905, 12), (9, 67, 354, 71, 0, true, 580, 621, 13), (9, 126, 360, 130, 1, true, 895, 905, 14), (9, 67, 362, 71, 0, true, 580, 621, 15), (9, 126, 368, 130, 1, true, 895, 905, 2), (9, 126, 370, 130, 1, true, 895, 905, 4), (9, 126, 372, 130, 1, true, 895, 905, 5), (9, 126, 374, 130, 1, true, 895, 905, 20), (9, 67, 362, 71, 0, true, 580, 621, 15)]
def sm_CW : List (List Nat) := [[237, 239, 241, 243, 245, 247, 249], [168, 170, 172, 174, 176, 178, 180, 182], [273, 275, 277, 279, 281, 283], [213, 215, 217, 219, 221], [145, 147, 149, 151, 153, 155], [339, 341, 343, 345, 347, 349, 351, 353, 355, 357, 359, 361, 363, 365, 367, 369, 371], [384, 386, 388, 390, 392, 394, 396, 398, 400, 402], [1368, 1370, 1372, 1374, 1376, 1378, 1380, 1382, 1384, 1386, 1388, 1390, 1392, 1394, 1396, 1398, 1400, 1402, 1404, 1406, 1408, 1410, 1412, 1414, 1416, 1418, 1420, 1422, 1424, 1426, 1428, 1430, 1432, 1434, 1436, 1438, 1440, 1442, 1444, 1446, 1448, 1450, 1452, 1454, 1456, 1458, 1460, 1462, 1464, 1466, 1468, 1470, 1472, 1474, 1476, 1478, 1480, 1482, 1484, 1486, 1488, 1490, 1492]]
def sm_SW : List Nat := [427, 426, 114]
def sm_XW : List Nat := [106, 113]
def sm_JI : List Nat := [687, 697, 691, 701, 707, 704, 712, 692, 1949, 1948, 708, 688, 689, 690, 698, 699, 700, 702, 703, 705, 706, 710, 711, 108, 109, 110, 685, 686, 695, 696]
noncomputable def sm_Ts : List Cond := lw_tbl.filter goodWord
theorem sm_Tg : sm_Ts.all goodWord = true := by simp [sm_Ts, List.all_filter]
theorem sm_Tm {i : Nat} {w : Cond} (h : lw_tbl[i]? = some w) (hg : goodWord w = true) : w ∈ sm_Ts := List.mem_filter.mpr ⟨List.mem_of_getElem? h, hg⟩
/-- the word at a place -/
def sm_wd (i : Nat) (w : Cond) : Bool := (match lw_tbl[i]? with | some v => decide (v = w) | none => false) && goodWord w
theorem sm_wd_in {i : Nat} {w : Cond} (h : sm_wd i w = true) : w ∈ sm_Ts := by
  simp only [sm_wd, Bool.and_eq_true] at h
  obtain ⟨h1, h2⟩ := h
  cases hv : lw_tbl[i]? with
  | none => rw [hv] at h1; cases h1
  | some v =>
    rw [hv] at h1
    have e := of_decide_eq_true h1
    subst e
    exact sm_Tm hv h2
def sm_wds : List Nat → List Cond → Bool
  | [], [] => true
  | i :: is, w :: ws => sm_wd i w && sm_wds is ws
  | _, _ => false
theorem sm_wds_in : ∀ {is : List Nat} {ws : List Cond}, sm_wds is ws = true → ∀ w ∈ ws, w ∈ sm_Ts
  | [], [], _, w, h => by cases h
  | i :: is, v :: ws, hs, w, h => by
    simp only [sm_wds, Bool.and_eq_true] at hs
    rcases List.mem_cons.mp h with rfl | h
    · exact sm_wd_in hs.1
    · exact sm_wds_in hs.2 w h
  | [], _ :: _, hs, _, _ => by cases hs
  | _ :: _, [], hs, _, _ => by cases hs
/-- of the classes -/
def sm_cwB (n : Nat) : Bool := match sm_cls[n]? with
  | some (C, T, N) => sm_wds (sm_CW.getD n []) (u_ws C T N) && (List.range N).all (fun a => (List.range N).all fun b => Nat.beq a b || decide ((T a).2.1 ≠ (T b).2.1)) && (List.range N).all (fun k => (parseFieldDescriptor (T k).2.2.1).isSome)
  | none => true
/-- of a field's row -/
def sm_fkB (r : Nat × Nat × Nat × Nat × Nat × Bool × Nat) : Bool := match r with
  | (own, idx, ci, a, b, fin, w) => Nat.blt ci 8 && (match sm_cls[ci]? with
    | some (C, T, N) => Nat.blt a N && decide ((sm_fk.getD ci [])[a]? = some b) && sm_wd w (.fieldLink (sm_OW.getD own "") idx C (T a).2.1 (T a).2.2.1) && decide ((T a).1 = C) && ((T a).2.2.2 == fin) && (match parseFieldDescriptor (T a).2.2.1 with
      | some .int => Nat.beq b 0
      | some .boolean => Nat.beq b 1
      | some .long => Nat.beq b 2
      | some (.object _) => Nat.beq b 3
      | some (.array _) => Nat.beq b 3
      | _ => false)
    | none => false)
theorem sm_fk_ok {own idx ci a b w : Nat} {fin : Bool} (hc : sm_cwB ci = true) (h : sm_fkB (own, idx, ci, a, b, fin, w) = true) : sm_fok sm_Ts (sm_OW.getD own "") idx ci a b fin := by
  simp only [sm_fkB, Bool.and_eq_true] at h
  obtain ⟨h8, h⟩ := h
  unfold sm_cwB at hc
  cases hcl : sm_cls[ci]? with
  | none => rw [hcl] at h; cases h
  | some q =>
    obtain ⟨C, T, N⟩ := q
    rw [hcl] at h hc
    simp only [Bool.and_eq_true] at h hc
    obtain ⟨⟨⟨⟨⟨k1, k2⟩, k3⟩, k4⟩, k5⟩, k6⟩ := h
    obtain ⟨⟨c1, c2⟩, c3⟩ := hc
    refine ⟨sm_blt h8, C, T, N, hcl, sm_blt k1, of_decide_eq_true k2, sm_wd_in k3, of_decide_eq_true k4, by simpa using k5, sm_wds_in c1, fun x hx y hy hxy => ?_, fun k hk => ?_, ?_⟩
    · have z1 := List.all_eq_true.mp c2 x (List.mem_range.mpr hx)
      have z2 := List.all_eq_true.mp z1 y (List.mem_range.mpr hy)
      simp only [Bool.or_eq_true, decide_eq_true_eq] at z2
      rcases z2 with z2 | z2
      · exact absurd (Nat.eq_of_beq_eq_true z2) hxy
      · exact z2
    · have z1 := List.all_eq_true.mp c3 k (List.mem_range.mpr hk)
      exact Option.isSome_iff_exists.mp z1
    · cases hp : parseFieldDescriptor (T a).2.2.1 with
      | none => rw [hp] at k6; cases k6
      | some ty =>
        rw [hp] at k6
        refine ⟨ty, rfl, ?_⟩
        cases ty with
        | int => exact Or.inl ⟨Nat.eq_of_beq_eq_true k6, rfl⟩
        | boolean => exact Or.inr (Or.inl ⟨Nat.eq_of_beq_eq_true k6, rfl⟩)
        | long => exact Or.inr (Or.inr (Or.inl ⟨Nat.eq_of_beq_eq_true k6, rfl⟩))
        | object n => exact Or.inr (Or.inr (Or.inr ⟨Nat.eq_of_beq_eq_true k6, Or.inl ⟨n, rfl⟩⟩))
        | array t => exact Or.inr (Or.inr (Or.inr ⟨Nat.eq_of_beq_eq_true k6, Or.inr ⟨t, rfl⟩⟩))
        | _ => cases k6
set_option maxRecDepth 100000 in
theorem sm_cw_all : (List.range 8).all sm_cwB = true := by decide +kernel
set_option maxRecDepth 100000 in
theorem sm_ft_all : sm_FT.all sm_fkB = true := by decide +kernel
theorem sm_ft_ok {k own idx ci a b w : Nat} {fin : Bool} (h : sm_FT[k]? = some (own, idx, ci, a, b, fin, w)) : sm_fok sm_Ts (sm_OW.getD own "") idx ci a b fin := by
  have h1 := List.all_eq_true.mp sm_ft_all _ (List.mem_of_getElem? h)
  have h8 : ci < 8 := by
    simp only [sm_fkB, Bool.and_eq_true] at h1
    exact sm_blt h1.1
  exact sm_fk_ok (List.all_eq_true.mp sm_cw_all ci (List.mem_range.mpr h8)) h1
set_option maxRecDepth 100000 in
theorem sm_j_all : sm_wds sm_JI sm_jw = true := by decide +kernel
theorem sm_j_ok : ∀ w ∈ sm_jw, w ∈ sm_Ts := sm_wds_in sm_j_all
set_option maxRecDepth 100000 in
theorem sm_s_all : sm_wds sm_SW [.native arraycopyName, .static arraycopyName, .initialized "java/lang/System"] = true := by decide +kernel
theorem sm_sh_ok : ∀ k ci N : Nat, sm_sh[k]? = some (ci, N) → ci < 11 := by
  intro k ci N h
  have h1 : sm_sh.all (fun q => Nat.blt q.1 11) = true := by decide +kernel
  exact sm_blt (List.all_eq_true.mp h1 _ (List.mem_of_getElem? h))
