/-! ===== the check of every method ===== -/
theorem sm_ike {r : Nat × Nat × Nat × Nat × Nat × Bool × Nat} (h : sm_ikB r = true) : r.2.2.1 < 304 := by
  obtain ⟨own, idx, y, b, c, virt, w⟩ := r
  unfold sm_ikB at h
  dsimp only at h
  split at h
  · simp only [Bool.and_eq_true] at h
    exact sm_blt h.2
  · cases h
set_option maxRecDepth 100000 in
theorem sm_mt_0 : ((sm_MT.drop 0).take 38).all sm_ikB = true := by decide +kernel
set_option maxRecDepth 100000 in
theorem sm_mt_38 : ((sm_MT.drop 38).take 38).all sm_ikB = true := by decide +kernel
set_option maxRecDepth 100000 in
theorem sm_mt_76 : ((sm_MT.drop 76).take 38).all sm_ikB = true := by decide +kernel
set_option maxRecDepth 100000 in
theorem sm_mt_114 : ((sm_MT.drop 114).take 38).all sm_ikB = true := by decide +kernel
set_option maxRecDepth 100000 in
theorem sm_mt_152 : ((sm_MT.drop 152).take 38).all sm_ikB = true := by decide +kernel
set_option maxRecDepth 100000 in
theorem sm_mt_190 : ((sm_MT.drop 190).take 38).all sm_ikB = true := by decide +kernel
set_option maxRecDepth 100000 in
theorem sm_mt_228 : ((sm_MT.drop 228).take 38).all sm_ikB = true := by decide +kernel
set_option maxRecDepth 100000 in
theorem sm_mt_266 : ((sm_MT.drop 266).take 38).all sm_ikB = true := by decide +kernel
set_option maxRecDepth 100000 in
theorem sm_mt_304 : ((sm_MT.drop 304).take 38).all sm_ikB = true := by decide +kernel
theorem sm_mt_all : ∀ r ∈ sm_MT, sm_ikB r = true := by
  intro r hr
  obtain ⟨n, hn, rfl⟩ := List.getElem_of_mem hr
  have hl : sm_MT.length = 335 := by decide +kernel
  have key : ∀ a, ((sm_MT.drop a).take 38).all sm_ikB = true → a ≤ n → n < a + 38 → sm_ikB sm_MT[n] = true := by
    intro a h h1 h2
    refine List.all_eq_true.mp h _ (List.mem_of_getElem? (i := n - a) ?_)
    rw [List.getElem?_take_of_lt (by omega), List.getElem?_drop, show a + (n - a) = n by omega, List.getElem?_eq_getElem hn]
  rcases (show (0 ≤ n ∧ n < 38) ∨ (38 ≤ n ∧ n < 76) ∨ (76 ≤ n ∧ n < 114) ∨ (114 ≤ n ∧ n < 152) ∨ (152 ≤ n ∧ n < 190) ∨ (190 ≤ n ∧ n < 228) ∨ (228 ≤ n ∧ n < 266) ∨ (266 ≤ n ∧ n < 304) ∨ (304 ≤ n ∧ n < 342) by omega) with h | h | h | h | h | h | h | h | h
  · exact key 0 sm_mt_0 h.1 h.2
  · exact key 38 sm_mt_38 h.1 h.2
  · exact key 76 sm_mt_76 h.1 h.2
  · exact key 114 sm_mt_114 h.1 h.2
  · exact key 152 sm_mt_152 h.1 h.2
  · exact key 190 sm_mt_190 h.1 h.2
  · exact key 228 sm_mt_228 h.1 h.2
  · exact key 266 sm_mt_266 h.1 h.2
  · exact key 304 sm_mt_304 h.1 h.2
set_option maxRecDepth 100000 in
theorem sm_y_0 : ((List.range' 0 20)).all (fun y => Nat.beq (sm_YT.getD y (false, 999, 999)).2.1 999 || sm_yB y) = true := by decide +kernel
set_option maxRecDepth 100000 in
theorem sm_y_20 : ((List.range' 20 20)).all (fun y => Nat.beq (sm_YT.getD y (false, 999, 999)).2.1 999 || sm_yB y) = true := by decide +kernel
set_option maxRecDepth 100000 in
theorem sm_y_40 : ((List.range' 40 20)).all (fun y => Nat.beq (sm_YT.getD y (false, 999, 999)).2.1 999 || sm_yB y) = true := by decide +kernel
set_option maxRecDepth 100000 in
theorem sm_y_60 : ((List.range' 60 20)).all (fun y => Nat.beq (sm_YT.getD y (false, 999, 999)).2.1 999 || sm_yB y) = true := by decide +kernel
set_option maxRecDepth 100000 in
theorem sm_y_80 : ((List.range' 80 20)).all (fun y => Nat.beq (sm_YT.getD y (false, 999, 999)).2.1 999 || sm_yB y) = true := by decide +kernel
set_option maxRecDepth 100000 in
theorem sm_y_100 : ((List.range' 100 20)).all (fun y => Nat.beq (sm_YT.getD y (false, 999, 999)).2.1 999 || sm_yB y) = true := by decide +kernel
set_option maxRecDepth 100000 in
theorem sm_y_120 : ((List.range' 120 20)).all (fun y => Nat.beq (sm_YT.getD y (false, 999, 999)).2.1 999 || sm_yB y) = true := by decide +kernel
set_option maxRecDepth 100000 in
theorem sm_y_140 : ((List.range' 140 20)).all (fun y => Nat.beq (sm_YT.getD y (false, 999, 999)).2.1 999 || sm_yB y) = true := by decide +kernel
set_option maxRecDepth 100000 in
theorem sm_y_160 : ((List.range' 160 20)).all (fun y => Nat.beq (sm_YT.getD y (false, 999, 999)).2.1 999 || sm_yB y) = true := by decide +kernel
set_option maxRecDepth 100000 in
theorem sm_y_180 : ((List.range' 180 20)).all (fun y => Nat.beq (sm_YT.getD y (false, 999, 999)).2.1 999 || sm_yB y) = true := by decide +kernel
set_option maxRecDepth 100000 in
theorem sm_y_200 : ((List.range' 200 20)).all (fun y => Nat.beq (sm_YT.getD y (false, 999, 999)).2.1 999 || sm_yB y) = true := by decide +kernel
set_option maxRecDepth 100000 in
theorem sm_y_220 : ((List.range' 220 20)).all (fun y => Nat.beq (sm_YT.getD y (false, 999, 999)).2.1 999 || sm_yB y) = true := by decide +kernel
set_option maxRecDepth 100000 in
theorem sm_y_240 : ((List.range' 240 20)).all (fun y => Nat.beq (sm_YT.getD y (false, 999, 999)).2.1 999 || sm_yB y) = true := by decide +kernel
set_option maxRecDepth 100000 in
theorem sm_y_260 : ((List.range' 260 20)).all (fun y => Nat.beq (sm_YT.getD y (false, 999, 999)).2.1 999 || sm_yB y) = true := by decide +kernel
set_option maxRecDepth 100000 in
theorem sm_y_280 : ((List.range' 280 20)).all (fun y => Nat.beq (sm_YT.getD y (false, 999, 999)).2.1 999 || sm_yB y) = true := by decide +kernel
set_option maxRecDepth 100000 in
theorem sm_y_300 : ((List.range' 300 4)).all (fun y => Nat.beq (sm_YT.getD y (false, 999, 999)).2.1 999 || sm_yB y) = true := by decide +kernel
theorem sm_y_all {y b c : Nat} {virt : Bool} (hy : y < 304) (h : sm_YT[y]? = some (virt, b, c)) (hb : b ≠ 999) : sm_yB y = true := by
  have key : ∀ a k, (List.range' a k).all (fun y => Nat.beq (sm_YT.getD y (false, 999, 999)).2.1 999 || sm_yB y) = true → a ≤ y → y < a + k → sm_yB y = true := by
    intro a k h2 h3 h4
    have h5 := List.all_eq_true.mp h2 y (by rw [List.mem_range'_1]; omega)
    simp only [List.getD_eq_getElem?_getD, h, Option.getD_some, Bool.or_eq_true] at h5
    rcases h5 with h5 | h5
    · exact absurd (Nat.eq_of_beq_eq_true h5) hb
    · exact h5
  rcases (show (0 ≤ y ∧ y < 20) ∨ (20 ≤ y ∧ y < 40) ∨ (40 ≤ y ∧ y < 60) ∨ (60 ≤ y ∧ y < 80) ∨ (80 ≤ y ∧ y < 100) ∨ (100 ≤ y ∧ y < 120) ∨ (120 ≤ y ∧ y < 140) ∨ (140 ≤ y ∧ y < 160) ∨ (160 ≤ y ∧ y < 180) ∨ (180 ≤ y ∧ y < 200) ∨ (200 ≤ y ∧ y < 220) ∨ (220 ≤ y ∧ y < 240) ∨ (240 ≤ y ∧ y < 260) ∨ (260 ≤ y ∧ y < 280) ∨ (280 ≤ y ∧ y < 300) ∨ (300 ≤ y ∧ y < 304) by omega) with h | h | h | h | h | h | h | h | h | h | h | h | h | h | h | h
  · exact key 0 20 sm_y_0 h.1 h.2
  · exact key 20 20 sm_y_20 h.1 h.2
  · exact key 40 20 sm_y_40 h.1 h.2
  · exact key 60 20 sm_y_60 h.1 h.2
  · exact key 80 20 sm_y_80 h.1 h.2
  · exact key 100 20 sm_y_100 h.1 h.2
  · exact key 120 20 sm_y_120 h.1 h.2
  · exact key 140 20 sm_y_140 h.1 h.2
  · exact key 160 20 sm_y_160 h.1 h.2
  · exact key 180 20 sm_y_180 h.1 h.2
  · exact key 200 20 sm_y_200 h.1 h.2
  · exact key 220 20 sm_y_220 h.1 h.2
  · exact key 240 20 sm_y_240 h.1 h.2
  · exact key 260 20 sm_y_260 h.1 h.2
  · exact key 280 20 sm_y_280 h.1 h.2
  · exact key 300 4 sm_y_300 h.1 h.2
/-- a method's code is a word -/
def sm_cwp (w : Nat) (q : sm_In) (me : sm_Me) : Prop := lw_tbl[w]? = some (sm_cw q.1 q.2.1 me.2.2.2 q.2.2.1 q.2.2.2) ∧ goodWord (sm_cw q.1 q.2.1 me.2.2.2 q.2.2.1 q.2.2.2) = true
set_option maxRecDepth 20000 in
theorem sm_cw_0 : sm_cwp 1008 (⟨"ValleyMass$Choir", "fewestMoves", "(LValleyMass$Valley;II)I"⟩, prog_2_method_2_code, some .int, []) me_0 := ⟨rfl, rfl⟩
set_option maxRecDepth 20000 in
theorem sm_cw_1 : sm_cwp 1012 (⟨"ValleyMass$Choir", "rowMoves", "(LValleyMass$Valley;II)I"⟩, prog_2_method_3_code, some .int, []) me_1 := ⟨rfl, rfl⟩
set_option maxRecDepth 20000 in
theorem sm_cw_2 : sm_cwp 1016 (⟨"ValleyMass$Choir", "movesInto", "(LValleyMass$Valley;III)I"⟩, prog_2_method_4_code, some .int, []) me_2 := ⟨rfl, rfl⟩
set_option maxRecDepth 20000 in
theorem sm_cw_3 : sm_cwp 1019 (⟨"ValleyMass$Choir", "within", "(III)Z"⟩, prog_2_method_5_code, some .boolean, []) me_3 := ⟨rfl, rfl⟩
set_option maxRecDepth 20000 in
theorem sm_cw_4 : sm_cwp 1030 (⟨"ValleyMass$Choir", "sparable", "(LValleyMass$Valley;II)I"⟩, prog_2_method_6_code, some .int, []) me_4 := ⟨rfl, rfl⟩
set_option maxRecDepth 20000 in
theorem sm_cw_5 : sm_cwp 531 (⟨"ValleyMass$Choir", "keySingers", "(LValleyMass$Valley;I)I"⟩, prog_2_method_7_code, some .int, []) me_5 := ⟨rfl, rfl⟩
set_option maxRecDepth 20000 in
theorem sm_cw_6 : sm_cwp 1041 (⟨"ValleyMass$Choir", "ransomed", "(LValleyMass$Valley;LValleyMass$State;I)I"⟩, prog_2_method_8_code, some .int, []) me_6 := ⟨rfl, rfl⟩
set_option maxRecDepth 20000 in
theorem sm_cw_7 : sm_cwp 539 (⟨"ValleyMass$Choir", "bestExchange", "(LValleyMass$Valley;LValleyMass$State;)I"⟩, prog_2_method_9_code, some .int, []) me_7 := ⟨rfl, rfl⟩
set_option maxRecDepth 20000 in
theorem sm_cw_8 : sm_cwp 548 (⟨"ValleyMass$Choir", "together", "(LValleyMass$Valley;II)Z"⟩, prog_2_method_10_code, some .boolean, []) me_8 := ⟨rfl, rfl⟩
set_option maxRecDepth 20000 in
theorem sm_cw_9 : sm_cwp 551 (⟨"ValleyMass$Choir", "enoughFor", "(LValleyMass$Valley;II)Z"⟩, prog_2_method_11_code, some .boolean, []) me_9 := ⟨rfl, rfl⟩
set_option maxRecDepth 20000 in
theorem sm_cw_10 : sm_cwp 1165 (⟨"ValleyMass$Choir", "bestCast", "(LValleyMass$Valley;II)I"⟩, prog_2_method_12_code, some .int, []) me_10 := ⟨rfl, rfl⟩
set_option maxRecDepth 20000 in
theorem sm_cw_11 : sm_cwp 1168 (⟨"ValleyMass$Choir", "mostSkilled", "(LValleyMass$Valley;I)I"⟩, prog_2_method_13_code, some .int, []) me_11 := ⟨rfl, rfl⟩
set_option maxRecDepth 20000 in
theorem sm_cw_12 : sm_cwp 1249 (⟨"ValleyMass$Choir", "countCasts", "(LValleyMass$Valley;II)J"⟩, prog_2_method_14_code, some .long, []) me_12 := ⟨rfl, rfl⟩
set_option maxRecDepth 20000 in
theorem sm_cw_13 : sm_cwp 1179 (⟨"ValleyMass$Choir", "canBeSungAt", "(LValleyMass$Valley;III)Z"⟩, prog_2_method_15_code, some .boolean, []) me_13 := ⟨rfl, rfl⟩
set_option maxRecDepth 20000 in
theorem sm_cw_14 : sm_cwp 1230 (⟨"ValleyMass$Choir", "rowLackingOne", "(LValleyMass$Valley;II)I"⟩, prog_2_method_16_code, some .int, []) me_14 := ⟨rfl, rfl⟩
set_option maxRecDepth 20000 in
theorem sm_cw_15 : sm_cwp 1234 (⟨"ValleyMass$Choir", "easiestToWiden", "(LValleyMass$Valley;II)I"⟩, prog_2_method_17_code, some .int, []) me_15 := ⟨rfl, rfl⟩
set_option maxRecDepth 20000 in
theorem sm_cw_16 : sm_cwp 1053 (⟨"ValleyMass$Choir", "setsOutlived", "(LValleyMass$Valley;III[I)J"⟩, prog_2_method_18_code, some .long, []) me_16 := ⟨rfl, rfl⟩
set_option maxRecDepth 20000 in
theorem sm_cw_17 : sm_cwp 1056 (⟨"ValleyMass$Choir", "multiply", "([III)V"⟩, prog_2_method_19_code, none, []) me_17 := ⟨rfl, rfl⟩
set_option maxRecDepth 20000 in
theorem sm_cw_18 : sm_cwp 882 (⟨"ValleyMass$Chronicle", "begin", "(I)V"⟩, prog_3_method_2_code, none, []) me_18 := ⟨rfl, rfl⟩
set_option maxRecDepth 20000 in
theorem sm_cw_19 : sm_cwp 516 (⟨"ValleyMass$Chronicle", "copyFrom", "(LValleyMass$Chronicle;)V"⟩, prog_3_method_3_code, none, []) me_19 := ⟨rfl, rfl⟩
set_option maxRecDepth 20000 in
theorem sm_cw_20 : sm_cwp 424 (⟨"ValleyMass$Chronicle", "keepAct", "()V"⟩, prog_3_method_4_code, none, []) me_20 := ⟨rfl, rfl⟩
set_option maxRecDepth 20000 in
theorem sm_cw_21 : sm_cwp 504 (⟨"ValleyMass$Chronicle", "takeBack", "()V"⟩, prog_3_method_5_code, none, []) me_21 := ⟨rfl, rfl⟩
set_option maxRecDepth 20000 in
theorem sm_cw_22 : sm_cwp 1099 (⟨"ValleyMass$Chronicle", "addHeard", "(III)V"⟩, prog_3_method_6_code, none, []) me_22 := ⟨rfl, rfl⟩
set_option maxRecDepth 20000 in
theorem sm_cw_23 : sm_cwp 1059 (⟨"ValleyMass$Counting", "choose", "(II)J"⟩, prog_4_method_2_code, some .long, []) me_23 := ⟨rfl, rfl⟩
set_option maxRecDepth 20000 in
theorem sm_cw_24 : sm_cwp 1078 (⟨"ValleyMass$Counting", "slipWays", "(II)J"⟩, prog_4_method_3_code, some .long, []) me_24 := ⟨rfl, rfl⟩
set_option maxRecDepth 20000 in
theorem sm_cw_25 : sm_cwp 1063 (⟨"ValleyMass$Counting", "commonDivisor", "(JJ)J"⟩, prog_4_method_4_code, some .long, []) me_25 := ⟨rfl, rfl⟩
set_option maxRecDepth 20000 in
theorem sm_cw_26 : sm_cwp 650 (⟨"ValleyMass$Reader", "read", "(ILValleyMass$Valley;)I"⟩, prog_5_method_2_code, some .int, []) me_26 := ⟨rfl, rfl⟩
set_option maxRecDepth 20000 in
theorem sm_cw_27 : sm_cwp 874 (⟨"ValleyMass$Reader", "place", "()I"⟩, prog_5_method_3_code, some .int, []) me_27 := ⟨rfl, rfl⟩
set_option maxRecDepth 20000 in
theorem sm_cw_28 : sm_cwp 767 (⟨"ValleyMass$Reader", "fail", "(I)Z"⟩, prog_5_method_4_code, some .boolean, []) me_28 := ⟨rfl, rfl⟩
set_option maxRecDepth 20000 in
theorem sm_cw_29 : sm_cwp 771 (⟨"ValleyMass$Reader", "step", "()V"⟩, prog_5_method_5_code, none, []) me_29 := ⟨rfl, rfl⟩
set_option maxRecDepth 20000 in
theorem sm_cw_30 : sm_cwp 791 (⟨"ValleyMass$Reader", "atSign", "(C)Z"⟩, prog_5_method_6_code, some .boolean, []) me_30 := ⟨rfl, rfl⟩
set_option maxRecDepth 20000 in
theorem sm_cw_31 : sm_cwp 783 (⟨"ValleyMass$Reader", "atNumber", "()Z"⟩, prog_5_method_7_code, some .boolean, []) me_31 := ⟨rfl, rfl⟩
set_option maxRecDepth 20000 in
theorem sm_cw_32 : sm_cwp 820 (⟨"ValleyMass$Reader", "atWord", "()Z"⟩, prog_5_method_8_code, some .boolean, []) me_32 := ⟨rfl, rfl⟩
set_option maxRecDepth 20000 in
theorem sm_cw_33 : sm_cwp 775 (⟨"ValleyMass$Reader", "atPart", "()Z"⟩, prog_5_method_9_code, some .boolean, []) me_33 := ⟨rfl, rfl⟩
set_option maxRecDepth 20000 in
theorem sm_cw_34 : sm_cwp 759 (⟨"ValleyMass$Reader", "readLine", "(LValleyMass$Valley;)Z"⟩, prog_5_method_10_code, some .boolean, []) me_34 := ⟨rfl, rfl⟩
set_option maxRecDepth 20000 in
theorem sm_cw_35 : sm_cwp 787 (⟨"ValleyMass$Reader", "readSign", "(C)Z"⟩, prog_5_method_11_code, some .boolean, []) me_35 := ⟨rfl, rfl⟩
set_option maxRecDepth 20000 in
theorem sm_cw_36 : sm_cwp 779 (⟨"ValleyMass$Reader", "readNumber", "(II)Z"⟩, prog_5_method_12_code, some .boolean, []) me_36 := ⟨rfl, rfl⟩
set_option maxRecDepth 20000 in
theorem sm_cw_37 : sm_cwp 763 (⟨"ValleyMass$Reader", "readSinger", "(LValleyMass$Valley;)Z"⟩, prog_5_method_13_code, some .boolean, []) me_37 := ⟨rfl, rfl⟩
set_option maxRecDepth 20000 in
theorem sm_cw_38 : sm_cwp 799 (⟨"ValleyMass$Reader", "readPiece", "(LValleyMass$Valley;)Z"⟩, prog_5_method_14_code, some .boolean, []) me_38 := ⟨rfl, rfl⟩
set_option maxRecDepth 20000 in
theorem sm_cw_39 : sm_cwp 795 (⟨"ValleyMass$Reader", "readRow", "(LValleyMass$Valley;)Z"⟩, prog_5_method_15_code, some .boolean, []) me_39 := ⟨rfl, rfl⟩
set_option maxRecDepth 20000 in
theorem sm_cw_40 : sm_cwp 803 (⟨"ValleyMass$Reader", "readEvery", "(LValleyMass$Valley;)Z"⟩, prog_5_method_16_code, some .boolean, []) me_40 := ⟨rfl, rfl⟩
set_option maxRecDepth 20000 in
theorem sm_cw_41 : sm_cwp 807 (⟨"ValleyMass$Reader", "readRule", "(LValleyMass$Rules;I)Z"⟩, prog_5_method_17_code, some .boolean, []) me_41 := ⟨rfl, rfl⟩
set_option maxRecDepth 20000 in
theorem sm_cw_42 : sm_cwp 816 (⟨"ValleyMass$Reader", "readExpr", "(LValleyMass$Rules;I)Z"⟩, prog_5_method_18_code, some .boolean, []) me_42 := ⟨rfl, rfl⟩
set_option maxRecDepth 20000 in
theorem sm_cw_43 : sm_cwp 824 (⟨"ValleyMass$Reader", "readAnd", "(LValleyMass$Rules;I)Z"⟩, prog_5_method_19_code, some .boolean, []) me_43 := ⟨rfl, rfl⟩
set_option maxRecDepth 20000 in
theorem sm_cw_44 : sm_cwp 828 (⟨"ValleyMass$Reader", "readNot", "(LValleyMass$Rules;I)Z"⟩, prog_5_method_20_code, some .boolean, []) me_44 := ⟨rfl, rfl⟩
set_option maxRecDepth 20000 in
theorem sm_cw_45 : sm_cwp 832 (⟨"ValleyMass$Reader", "readTest", "(LValleyMass$Rules;I)Z"⟩, prog_5_method_21_code, some .boolean, []) me_45 := ⟨rfl, rfl⟩
set_option maxRecDepth 20000 in
theorem sm_cw_46 : sm_cwp 836 (⟨"ValleyMass$Reader", "readSum", "(LValleyMass$Rules;I)Z"⟩, prog_5_method_22_code, some .boolean, []) me_46 := ⟨rfl, rfl⟩
set_option maxRecDepth 20000 in
theorem sm_cw_47 : sm_cwp 840 (⟨"ValleyMass$Reader", "readProduct", "(LValleyMass$Rules;I)Z"⟩, prog_5_method_23_code, some .boolean, []) me_47 := ⟨rfl, rfl⟩
set_option maxRecDepth 20000 in
theorem sm_cw_48 : sm_cwp 844 (⟨"ValleyMass$Reader", "readTerm", "(LValleyMass$Rules;I)Z"⟩, prog_5_method_24_code, some .boolean, []) me_48 := ⟨rfl, rfl⟩
set_option maxRecDepth 20000 in
theorem sm_cw_49 : sm_cwp 755 (⟨"ValleyMass$Rules", "clear", "()V"⟩, prog_6_method_2_code, none, []) me_49 := ⟨rfl, rfl⟩
set_option maxRecDepth 20000 in
theorem sm_cw_50 : sm_cwp 812 (⟨"ValleyMass$Rules", "open", "(I)V"⟩, prog_6_method_3_code, none, []) me_50 := ⟨rfl, rfl⟩
set_option maxRecDepth 20000 in
theorem sm_cw_51 : sm_cwp 852 (⟨"ValleyMass$Rules", "close", "(I)V"⟩, prog_6_method_4_code, none, []) me_51 := ⟨rfl, rfl⟩
set_option maxRecDepth 20000 in
theorem sm_cw_52 : sm_cwp 848 (⟨"ValleyMass$Rules", "add", "(I)V"⟩, prog_6_method_5_code, none, []) me_52 := ⟨rfl, rfl⟩
set_option maxRecDepth 20000 in
theorem sm_cw_53 : sm_cwp 462 (⟨"ValleyMass$Rules", "has", "(I)Z"⟩, prog_6_method_6_code, some .boolean, []) me_53 := ⟨rfl, rfl⟩
set_option maxRecDepth 20000 in
theorem sm_cw_54 : sm_cwp 471 (⟨"ValleyMass$Rules", "result", "(I)I"⟩, prog_6_method_7_code, some .int, []) me_54 := ⟨rfl, rfl⟩
set_option maxRecDepth 20000 in
theorem sm_cw_55 : sm_cwp 476 (⟨"ValleyMass$Rules", "operand", "(I)I"⟩, prog_6_method_8_code, some .int, []) me_55 := ⟨rfl, rfl⟩
set_option maxRecDepth 20000 in
theorem sm_cw_56 : sm_cwp 479 (⟨"ValleyMass$Rules", "apply", "(III)I"⟩, prog_6_method_9_code, some .int, []) me_56 := ⟨rfl, rfl⟩
set_option maxRecDepth 20000 in
theorem sm_cw_57 : sm_cwp 886 (⟨"ValleyMass$State", "begin", "(I)V"⟩, prog_7_method_2_code, none, []) me_57 := ⟨rfl, rfl⟩
set_option maxRecDepth 20000 in
theorem sm_cw_58 : sm_cwp 520 (⟨"ValleyMass$State", "copyFrom", "(LValleyMass$State;)V"⟩, prog_7_method_3_code, none, []) me_58 := ⟨rfl, rfl⟩
set_option maxRecDepth 20000 in
theorem sm_cw_59 : sm_cwp 431 (⟨"ValleyMass$State", "writeTo", "([II)V"⟩, prog_7_method_4_code, none, []) me_59 := ⟨rfl, rfl⟩
set_option maxRecDepth 20000 in
theorem sm_cw_60 : sm_cwp 508 (⟨"ValleyMass$State", "readFrom", "([II)V"⟩, prog_7_method_5_code, none, []) me_60 := ⟨rfl, rfl⟩
set_option maxRecDepth 20000 in
theorem sm_cw_61 : sm_cwp 926 (⟨"ValleyMass$State", "howIs", "(I)I"⟩, prog_7_method_6_code, some .int, []) me_61 := ⟨rfl, rfl⟩
set_option maxRecDepth 20000 in
theorem sm_cw_62 : sm_cwp 496 (⟨"ValleyMass$State", "fell", "(I)V"⟩, prog_7_method_7_code, none, []) me_62 := ⟨rfl, rfl⟩
set_option maxRecDepth 20000 in
theorem sm_cw_63 : sm_cwp 979 (⟨"ValleyMass$State", "seize", "(I)V"⟩, prog_7_method_8_code, none, []) me_63 := ⟨rfl, rfl⟩
set_option maxRecDepth 20000 in
theorem sm_cw_64 : sm_cwp 990 (⟨"ValleyMass$State", "letGo", "(I)V"⟩, prog_7_method_9_code, none, []) me_64 := ⟨rfl, rfl⟩
set_option maxRecDepth 20000 in
theorem sm_cw_65 : sm_cwp 1150 (⟨"ValleyMass$State", "turn", "(I)V"⟩, prog_7_method_10_code, none, []) me_65 := ⟨rfl, rfl⟩
set_option maxRecDepth 20000 in
theorem sm_cw_66 : sm_cwp 412 (⟨"ValleyMass$Tape", "put", "(I)V"⟩, prog_8_method_2_code, none, []) me_66 := ⟨rfl, rfl⟩
set_option maxRecDepth 20000 in
theorem sm_cw_67 : sm_cwp 747 (⟨"ValleyMass$Tape", "kindOf", "(I)I"⟩, prog_8_method_3_code, some .int, []) me_67 := ⟨rfl, rfl⟩
set_option maxRecDepth 20000 in
theorem sm_cw_68 : sm_cwp 878 (⟨"ValleyMass$Tape", "placeOf", "(I)I"⟩, prog_8_method_4_code, some .int, []) me_68 := ⟨rfl, rfl⟩
set_option maxRecDepth 20000 in
theorem sm_cw_69 : sm_cwp 654 (⟨"ValleyMass$Tape", "scan", "(I)V"⟩, prog_8_method_5_code, none, []) me_69 := ⟨rfl, rfl⟩
set_option maxRecDepth 20000 in
theorem sm_cw_70 : sm_cwp 743 (⟨"ValleyMass$Tape", "keep", "(II)V"⟩, prog_8_method_6_code, none, []) me_70 := ⟨rfl, rfl⟩
set_option maxRecDepth 20000 in
theorem sm_cw_71 : sm_cwp 661 (⟨"ValleyMass$Tape", "byteAt", "(I)I"⟩, prog_8_method_7_code, some .int, []) me_71 := ⟨rfl, rfl⟩
set_option maxRecDepth 20000 in
theorem sm_cw_72 : sm_cwp 668 (⟨"ValleyMass$Tape", "isLetter", "(I)Z"⟩, prog_8_method_8_code, some .boolean, []) me_72 := ⟨rfl, rfl⟩
set_option maxRecDepth 20000 in
theorem sm_cw_73 : sm_cwp 671 (⟨"ValleyMass$Tape", "isDigit", "(I)Z"⟩, prog_8_method_9_code, some .boolean, []) me_73 := ⟨rfl, rfl⟩
set_option maxRecDepth 20000 in
theorem sm_cw_74 : sm_cwp 665 (⟨"ValleyMass$Tape", "endOfToken", "(I)I"⟩, prog_8_method_10_code, some .int, []) me_74 := ⟨rfl, rfl⟩
set_option maxRecDepth 20000 in
theorem sm_cw_75 : sm_cwp 678 (⟨"ValleyMass$Tape", "kindBetween", "(II)I"⟩, prog_8_method_11_code, some .int, []) me_75 := ⟨rfl, rfl⟩
set_option maxRecDepth 20000 in
theorem sm_cw_76 : sm_cwp 739 (⟨"ValleyMass$Tape", "numberBetween", "(II)I"⟩, prog_8_method_12_code, some .int, []) me_76 := ⟨rfl, rfl⟩
set_option maxRecDepth 20000 in
theorem sm_cw_77 : sm_cwp 682 (⟨"ValleyMass$Tape", "wordBetween", "(II)I"⟩, prog_8_method_13_code, some .int, []) me_77 := ⟨rfl, rfl⟩
set_option maxRecDepth 20000 in
theorem sm_cw_78 : sm_cwp 735 (⟨"ValleyMass$Tape", "sameLetters", "(III)Z"⟩, prog_8_method_14_code, some .boolean, []) me_78 := ⟨rfl, rfl⟩
set_option maxRecDepth 20000 in
theorem sm_cw_79 : sm_cwp 751 (⟨"ValleyMass$Valley", "clear", "()V"⟩, prog_9_method_2_code, none, []) me_79 := ⟨rfl, rfl⟩
set_option maxRecDepth 20000 in
theorem sm_cw_80 : sm_cwp 856 (⟨"ValleyMass$Valley", "settle", "()V"⟩, prog_9_method_3_code, none, []) me_80 := ⟨rfl, rfl⟩
set_option maxRecDepth 20000 in
theorem sm_cw_81 : sm_cwp 860 (⟨"ValleyMass$Valley", "withValue", "([II)I"⟩, prog_9_method_4_code, some .int, []) me_81 := ⟨rfl, rfl⟩
set_option maxRecDepth 20000 in
theorem sm_cw_82 : sm_cwp 864 (⟨"ValleyMass$Valley", "spanRow", "(I)V"⟩, prog_9_method_5_code, none, []) me_82 := ⟨rfl, rfl⟩
set_option maxRecDepth 20000 in
theorem sm_cw_83 : sm_cwp 466 (⟨"ValleyMass$Valley", "ofSide", "(I)I"⟩, prog_9_method_6_code, some .int, []) me_83 := ⟨rfl, rfl⟩
set_option maxRecDepth 20000 in
theorem sm_cw_84 : sm_cwp 489 (⟨"ValleyMass$Valley", "ofPart", "(I)I"⟩, prog_9_method_7_code, some .int, []) me_84 := ⟨rfl, rfl⟩
set_option maxRecDepth 20000 in
theorem sm_cw_85 : sm_cwp 870 (⟨"ValleyMass$Valley", "reaching", "(III)I"⟩, prog_9_method_8_code, some .int, []) me_85 := ⟨rfl, rfl⟩
set_option maxRecDepth 20000 in
theorem sm_cw_86 : sm_cwp 1133 (⟨"ValleyMass$Valley", "skillsOf", "(I)I"⟩, prog_9_method_9_code, some .int, []) me_86 := ⟨rfl, rfl⟩
set_option maxRecDepth 20000 in
theorem sm_cw_87 : sm_cwp 1075 (⟨"ValleyMass$Valley", "notesIn", "(I)I"⟩, prog_9_method_10_code, some .int, []) me_87 := ⟨rfl, rfl⟩
set_option maxRecDepth 20000 in
theorem sm_cw_88 : sm_cwp 446 (⟨"ValleyMass$Valley", "canBeSung", "(II)Z"⟩, prog_9_method_11_code, some .boolean, []) me_88 := ⟨rfl, rfl⟩
set_option maxRecDepth 20000 in
theorem sm_cw_89 : sm_cwp 442 (⟨"ValleyMass$Valley", "singable", "(I)I"⟩, prog_9_method_12_code, some .int, []) me_89 := ⟨rfl, rfl⟩
set_option maxRecDepth 20000 in
theorem sm_cw_90 : sm_cwp 1219 (⟨"ValleyMass$Valley", "lackingIn", "(II)I"⟩, prog_9_method_13_code, some .int, []) me_90 := ⟨rfl, rfl⟩
set_option maxRecDepth 20000 in
theorem sm_cw_91 : sm_cwp 1238 (⟨"ValleyMass$Valley", "stretch", "(II)I"⟩, prog_9_method_14_code, some .int, []) me_91 := ⟨rfl, rfl⟩
set_option maxRecDepth 20000 in
theorem sm_cw_92 : sm_cwp 438 (⟨"ValleyMass$Valley", "isEvening", "(I)Z"⟩, prog_9_method_15_code, some .boolean, []) me_92 := ⟨rfl, rfl⟩
set_option maxRecDepth 20000 in
theorem sm_cw_93 : sm_cwp 458 (⟨"ValleyMass$War", "holdsFire", "(LValleyMass$Valley;LValleyMass$State;I)Z"⟩, prog_10_method_2_code, some .boolean, []) me_93 := ⟨rfl, rfl⟩
set_option maxRecDepth 20000 in
theorem sm_cw_94 : sm_cwp 482 (⟨"ValleyMass$War", "target", "(LValleyMass$Valley;LValleyMass$State;I)I"⟩, prog_10_method_3_code, some .int, []) me_94 := ⟨rfl, rfl⟩
set_option maxRecDepth 20000 in
theorem sm_cw_95 : sm_cwp 485 (⟨"ValleyMass$War", "worthOf", "(LValleyMass$Valley;LValleyMass$State;II)I"⟩, prog_10_method_4_code, some .int, []) me_95 := ⟨rfl, rfl⟩
set_option maxRecDepth 20000 in
theorem sm_cw_96 : sm_cwp 492 (⟨"ValleyMass$War", "bitOf", "(I)I"⟩, prog_10_method_5_code, some .int, []) me_96 := ⟨rfl, rfl⟩
set_option maxRecDepth 20000 in
theorem sm_cw_97 : sm_cwp 455 (⟨"ValleyMass$War", "shot", "(LValleyMass$Valley;LValleyMass$State;I)I"⟩, prog_10_method_6_code, some .int, []) me_97 := ⟨rfl, rfl⟩
set_option maxRecDepth 20000 in
theorem sm_cw_98 : sm_cwp 434 (⟨"ValleyMass$War", "passDay", "(LValleyMass$Valley;LValleyMass$State;)I"⟩, prog_10_method_7_code, some .int, []) me_98 := ⟨rfl, rfl⟩
set_option maxRecDepth 20000 in
theorem sm_cw_99 : sm_cwp 1123 (⟨"ValleyMass$War", "coupleRests", "(LValleyMass$Valley;LValleyMass$State;III)Z"⟩, prog_10_method_8_code, some .boolean, []) me_99 := ⟨rfl, rfl⟩
set_option maxRecDepth 20000 in
theorem sm_cw_100 : sm_cwp 1126 (⟨"ValleyMass$War", "leftFree", "(LValleyMass$Valley;LValleyMass$State;II)I"⟩, prog_10_method_9_code, some .int, []) me_100 := ⟨rfl, rfl⟩
set_option maxRecDepth 20000 in
theorem sm_cw_101 : sm_cwp 1129 (⟨"ValleyMass$War", "lead", "(LValleyMass$Valley;I)I"⟩, prog_10_method_10_code, some .int, []) me_101 := ⟨rfl, rfl⟩
set_option maxRecDepth 20000 in
theorem sm_cw_102 : sm_cwp 1136 (⟨"ValleyMass$War", "bonus", "(LValleyMass$Valley;III)I"⟩, prog_10_method_11_code, some .int, []) me_102 := ⟨rfl, rfl⟩
set_option maxRecDepth 20000 in
theorem sm_cw_103 : sm_cwp 408 (⟨"ValleyMass", "feed", "(IIIII)I"⟩, prog_1_method_2_code, some .int, []) me_103 := ⟨rfl, rfl⟩
set_option maxRecDepth 20000 in
theorem sm_cw_104 : sm_cwp 579 (⟨"ValleyMass", "valley", "(I)I"⟩, prog_1_method_3_code, some .int, []) me_104 := ⟨rfl, rfl⟩
set_option maxRecDepth 20000 in
theorem sm_cw_105 : sm_cwp 416 (⟨"ValleyMass", "fault", "()I"⟩, prog_1_method_4_code, some .int, []) me_105 := ⟨rfl, rfl⟩
set_option maxRecDepth 20000 in
theorem sm_cw_106 : sm_cwp 894 (⟨"ValleyMass", "count", "(I)I"⟩, prog_1_method_5_code, some .int, []) me_106 := ⟨rfl, rfl⟩
set_option maxRecDepth 20000 in
theorem sm_cw_107 : sm_cwp 917 (⟨"ValleyMass", "singer", "(II)I"⟩, prog_1_method_6_code, some .int, []) me_107 := ⟨rfl, rfl⟩
set_option maxRecDepth 20000 in
theorem sm_cw_108 : sm_cwp 934 (⟨"ValleyMass", "row", "(III)I"⟩, prog_1_method_7_code, some .int, []) me_108 := ⟨rfl, rfl⟩
set_option maxRecDepth 20000 in
theorem sm_cw_109 : sm_cwp 956 (⟨"ValleyMass", "able", "(II)I"⟩, prog_1_method_8_code, some .int, []) me_109 := ⟨rfl, rfl⟩
set_option maxRecDepth 20000 in
theorem sm_cw_110 : sm_cwp 1186 (⟨"ValleyMass", "standIns", "(I)I"⟩, prog_1_method_9_code, some .int, []) me_110 := ⟨rfl, rfl⟩
set_option maxRecDepth 20000 in
theorem sm_cw_111 : sm_cwp 1206 (⟨"ValleyMass", "voices", "(II)I"⟩, prog_1_method_10_code, some .int, []) me_111 := ⟨rfl, rfl⟩
set_option maxRecDepth 20000 in
theorem sm_cw_112 : sm_cwp 1298 (⟨"ValleyMass", "rows", "(I)I"⟩, prog_1_method_11_code, some .int, []) me_112 := ⟨rfl, rfl⟩
set_option maxRecDepth 20000 in
theorem sm_cw_113 : sm_cwp 420 (⟨"ValleyMass", "days", "(I)I"⟩, prog_1_method_12_code, some .int, []) me_113 := ⟨rfl, rfl⟩
set_option maxRecDepth 20000 in
theorem sm_cw_114 : sm_cwp 963 (⟨"ValleyMass", "fall", "(I)Z"⟩, prog_1_method_13_code, some .boolean, []) me_114 := ⟨rfl, rfl⟩
set_option maxRecDepth 20000 in
theorem sm_cw_115 : sm_cwp 975 (⟨"ValleyMass", "catches", "(I)Z"⟩, prog_1_method_14_code, some .boolean, []) me_115 := ⟨rfl, rfl⟩
set_option maxRecDepth 20000 in
theorem sm_cw_116 : sm_cwp 986 (⟨"ValleyMass", "release", "(I)Z"⟩, prog_1_method_15_code, some .boolean, []) me_116 := ⟨rfl, rfl⟩
set_option maxRecDepth 20000 in
theorem sm_cw_117 : sm_cwp 997 (⟨"ValleyMass", "exchange", "(II)Z"⟩, prog_1_method_16_code, some .boolean, []) me_117 := ⟨rfl, rfl⟩
set_option maxRecDepth 20000 in
theorem sm_cw_118 : sm_cwp 967 (⟨"ValleyMass", "mayAct", "(Z)Z"⟩, prog_1_method_17_code, some .boolean, []) me_118 := ⟨rfl, rfl⟩
set_option maxRecDepth 20000 in
theorem sm_cw_119 : sm_cwp 500 (⟨"ValleyMass", "undo", "()I"⟩, prog_1_method_18_code, some .int, []) me_119 := ⟨rfl, rfl⟩
set_option maxRecDepth 20000 in
theorem sm_cw_120 : sm_cwp 512 (⟨"ValleyMass", "image", "()V"⟩, prog_1_method_19_code, none, []) me_120 := ⟨rfl, rfl⟩
set_option maxRecDepth 20000 in
theorem sm_cw_121 : sm_cwp 524 (⟨"ValleyMass", "restore", "()Z"⟩, prog_1_method_20_code, some .boolean, []) me_121 := ⟨rfl, rfl⟩
set_option maxRecDepth 20000 in
theorem sm_cw_122 : sm_cwp 1005 (⟨"ValleyMass", "moved", "(I)I"⟩, prog_1_method_21_code, some .int, []) me_122 := ⟨rfl, rfl⟩
set_option maxRecDepth 20000 in
theorem sm_cw_123 : sm_cwp 1027 (⟨"ValleyMass", "spare", "(I)I"⟩, prog_1_method_22_code, some .int, []) me_123 := ⟨rfl, rfl⟩
set_option maxRecDepth 20000 in
theorem sm_cw_124 : sm_cwp 528 (⟨"ValleyMass", "keys", "()I"⟩, prog_1_method_23_code, some .int, []) me_124 := ⟨rfl, rfl⟩
set_option maxRecDepth 20000 in
theorem sm_cw_125 : sm_cwp 1038 (⟨"ValleyMass", "ransom", "(I)I"⟩, prog_1_method_24_code, some .int, []) me_125 := ⟨rfl, rfl⟩
set_option maxRecDepth 20000 in
theorem sm_cw_126 : sm_cwp 536 (⟨"ValleyMass", "bargain", "()I"⟩, prog_1_method_25_code, some .int, []) me_126 := ⟨rfl, rfl⟩
set_option maxRecDepth 20000 in
theorem sm_cw_127 : sm_cwp 545 (⟨"ValleyMass", "duet", "()I"⟩, prog_1_method_26_code, some .int, []) me_127 := ⟨rfl, rfl⟩
set_option maxRecDepth 20000 in
theorem sm_cw_128 : sm_cwp 555 (⟨"ValleyMass", "evening", "()I"⟩, prog_1_method_27_code, some .int, []) me_128 := ⟨rfl, rfl⟩
set_option maxRecDepth 20000 in
theorem sm_cw_129 : sm_cwp 1160 (⟨"ValleyMass", "cast", "(II)I"⟩, prog_1_method_28_code, some .int, []) me_129 := ⟨rfl, rfl⟩
set_option maxRecDepth 20000 in
theorem sm_cw_130 : sm_cwp 1246 (⟨"ValleyMass", "casts", "(I)J"⟩, prog_1_method_29_code, some .long, []) me_130 := ⟨rfl, rfl⟩
set_option maxRecDepth 20000 in
theorem sm_cw_131 : sm_cwp 1176 (⟨"ValleyMass", "transposed", "(I)I"⟩, prog_1_method_30_code, some .int, []) me_131 := ⟨rfl, rfl⟩
set_option maxRecDepth 20000 in
theorem sm_cw_132 : sm_cwp 1214 (⟨"ValleyMass", "lacking", "(II)I"⟩, prog_1_method_31_code, some .int, []) me_132 := ⟨rfl, rfl⟩
set_option maxRecDepth 20000 in
theorem sm_cw_133 : sm_cwp 1226 (⟨"ValleyMass", "widen", "(II)I"⟩, prog_1_method_32_code, some .int, []) me_133 := ⟨rfl, rfl⟩
set_option maxRecDepth 20000 in
theorem sm_cw_134 : sm_cwp 1048 (⟨"ValleyMass", "luck", "(III)I"⟩, prog_1_method_33_code, some .int, []) me_134 := ⟨rfl, rfl⟩
set_option maxRecDepth 20000 in
theorem sm_cw_135 : sm_cwp 1070 (⟨"ValleyMass", "codes", "(II)J"⟩, prog_1_method_34_code, some .long, []) me_135 := ⟨rfl, rfl⟩
set_option maxRecDepth 20000 in
theorem sm_cw_136 : sm_cwp 1086 (⟨"ValleyMass", "slips", "(II)I"⟩, prog_1_method_35_code, some .int, []) me_136 := ⟨rfl, rfl⟩
set_option maxRecDepth 20000 in
theorem sm_cw_137 : sm_cwp 1095 (⟨"ValleyMass", "hear", "(IIII)I"⟩, prog_1_method_36_code, some .int, []) me_137 := ⟨rfl, rfl⟩
set_option maxRecDepth 20000 in
theorem sm_cw_138 : sm_cwp 1106 (⟨"ValleyMass", "flat", "(I)I"⟩, prog_1_method_37_code, some .int, []) me_138 := ⟨rfl, rfl⟩
set_option maxRecDepth 20000 in
theorem sm_cw_139 : sm_cwp 1111 (⟨"ValleyMass", "allHeardIsSo", "(II)Z"⟩, prog_1_method_38_code, some .boolean, []) me_139 := ⟨rfl, rfl⟩
set_option maxRecDepth 20000 in
theorem sm_cw_140 : sm_cwp 560 (⟨"ValleyMass", "forget", "()V"⟩, prog_1_method_39_code, none, []) me_140 := ⟨rfl, rfl⟩
set_option maxRecDepth 20000 in
theorem sm_cw_141 : sm_cwp 1256 (⟨"ValleyMass", "holds", "(I)Z"⟩, prog_1_method_40_code, some .boolean, []) me_141 := ⟨rfl, rfl⟩
set_option maxRecDepth 20000 in
theorem sm_cw_142 : sm_cwp 1269 (⟨"ValleyMass", "aimed", "(I)I"⟩, prog_1_method_41_code, some .int, []) me_142 := ⟨rfl, rfl⟩
set_option maxRecDepth 20000 in
theorem sm_cw_143 : sm_cwp 564 (⟨"ValleyMass", "peace", "()I"⟩, prog_1_method_42_code, some .int, []) me_143 := ⟨rfl, rfl⟩
set_option maxRecDepth 20000 in
theorem sm_cw_144 : sm_cwp 569 (⟨"ValleyMass", "silent", "()I"⟩, prog_1_method_43_code, some .int, []) me_144 := ⟨rfl, rfl⟩
set_option maxRecDepth 20000 in
theorem sm_cw_145 : sm_cwp 1195 (⟨"ValleyMass", "falls", "(I)I"⟩, prog_1_method_44_code, some .int, []) me_145 := ⟨rfl, rfl⟩
set_option maxRecDepth 20000 in
theorem sm_cw_146 : sm_cwp 1277 (⟨"ValleyMass", "held", "(II)I"⟩, prog_1_method_45_code, some .int, []) me_146 := ⟨rfl, rfl⟩
set_option maxRecDepth 20000 in
theorem sm_cw_147 : sm_cwp 1284 (⟨"ValleyMass", "lost", "(I)I"⟩, prog_1_method_46_code, some .int, []) me_147 := ⟨rfl, rfl⟩
set_option maxRecDepth 20000 in
theorem sm_cw_148 : sm_cwp 1291 (⟨"ValleyMass", "gone", "(I)I"⟩, prog_1_method_47_code, some .int, []) me_148 := ⟨rfl, rfl⟩
set_option maxRecDepth 20000 in
theorem sm_cw_149 : sm_cwp 1118 (⟨"ValleyMass", "game", "(II)I"⟩, prog_1_method_48_code, some .int, []) me_149 := ⟨rfl, rfl⟩
set_option maxRecDepth 20000 in
theorem sm_cw_150 : sm_cwp 1143 (⟨"ValleyMass", "wars", "(III)I"⟩, prog_1_method_49_code, some .int, []) me_150 := ⟨rfl, rfl⟩
set_option maxRecDepth 20000 in
theorem sm_cw_151 : sm_cwp 921 (⟨"ValleyMass", "checkSinger", "(I)V"⟩, prog_1_method_50_code, none, []) me_151 := ⟨rfl, rfl⟩
set_option maxRecDepth 20000 in
theorem sm_cw_152 : sm_cwp 942 (⟨"ValleyMass", "checkPiece", "(I)V"⟩, prog_1_method_51_code, none, []) me_152 := ⟨rfl, rfl⟩
set_option maxRecDepth 20000 in
theorem sm_cw_153 : sm_cwp 947 (⟨"ValleyMass", "checkPart", "(I)V"⟩, prog_1_method_52_code, none, []) me_153 := ⟨rfl, rfl⟩
set_option maxRecDepth 20000 in
theorem sm_cw_154 : sm_cwp 938 (⟨"ValleyMass", "checkRow", "(II)V"⟩, prog_1_method_53_code, none, []) me_154 := ⟨rfl, rfl⟩
set_option maxRecDepth 20000 in
theorem sm_cw_155 : sm_cwp 1260 (⟨"ValleyMass", "checkWarring", "(I)V"⟩, prog_1_method_54_code, none, []) me_155 := ⟨rfl, rfl⟩
set_option maxRecDepth 20000 in
theorem sm_cw_156 : sm_cwp 1199 (⟨"ValleyMass", "checkDays", "(I)V"⟩, prog_1_method_55_code, none, []) me_156 := ⟨rfl, rfl⟩
set_option maxRecDepth 20000 in
theorem sm_cw_157 : sm_cwp 1499 (⟨"ValleyMassModel", "thrown", "()I"⟩, prog_12_method_2_code, some .int, []) me_157 := ⟨rfl, rfl⟩
set_option maxRecDepth 20000 in
theorem sm_cw_158 : sm_cwp 1515 (⟨"ValleyMassModel", "right", "(ZI)Z"⟩, prog_12_method_3_code, some .boolean, []) me_158 := ⟨rfl, rfl⟩
set_option maxRecDepth 20000 in
theorem sm_cw_159 : sm_cwp 1637 (⟨"ValleyMassModel", "within", "(III)Z"⟩, prog_12_method_4_code, some .boolean, []) me_159 := ⟨rfl, rfl⟩
set_option maxRecDepth 20000 in
theorem sm_cw_160 : sm_cwp 1622 (⟨"ValleyMassModel", "copies", "([I[I)V"⟩, prog_12_method_5_code, none, []) me_160 := ⟨rfl, rfl⟩
set_option maxRecDepth 20000 in
theorem sm_cw_161 : sm_cwp 1664 (⟨"ValleyMassModel", "bits", "(I)I"⟩, prog_12_method_6_code, some .int, []) me_161 := ⟨rfl, rfl⟩
set_option maxRecDepth 20000 in
theorem sm_cw_162 : sm_cwp 1503 (⟨"ValleyMassModel", "feed", "(IIIII)I"⟩, prog_12_method_7_code, some .int, []) me_162 := ⟨rfl, rfl⟩
set_option maxRecDepth 20000 in
theorem sm_cw_163 : sm_cwp 1507 (⟨"ValleyMassModel", "lays", "(I)V"⟩, prog_12_method_8_code, none, []) me_163 := ⟨rfl, rfl⟩
set_option maxRecDepth 20000 in
theorem sm_cw_164 : sm_cwp 1523 (⟨"ValleyMassModel", "byteAt", "(I)I"⟩, prog_12_method_9_code, some .int, []) me_164 := ⟨rfl, rfl⟩
set_option maxRecDepth 20000 in
theorem sm_cw_165 : sm_cwp 1526 (⟨"ValleyMassModel", "isLetter", "(I)Z"⟩, prog_12_method_10_code, some .boolean, []) me_165 := ⟨rfl, rfl⟩
set_option maxRecDepth 20000 in
theorem sm_cw_166 : sm_cwp 1529 (⟨"ValleyMassModel", "isDigit", "(I)Z"⟩, prog_12_method_11_code, some .boolean, []) me_166 := ⟨rfl, rfl⟩
set_option maxRecDepth 20000 in
theorem sm_cw_167 : sm_cwp 1519 (⟨"ValleyMassModel", "goes", "()V"⟩, prog_12_method_12_code, none, []) me_167 := ⟨rfl, rfl⟩
set_option maxRecDepth 20000 in
theorem sm_cw_168 : sm_cwp 1547 (⟨"ValleyMassModel", "spelled", "(IIIIIII)J"⟩, prog_12_method_13_code, some .long, []) me_168 := ⟨rfl, rfl⟩
set_option maxRecDepth 20000 in
theorem sm_cw_169 : sm_cwp 1544 (⟨"ValleyMassModel", "letters", "(I)J"⟩, prog_12_method_14_code, some .long, []) me_169 := ⟨rfl, rfl⟩
set_option maxRecDepth 20000 in
theorem sm_cw_170 : sm_cwp 1541 (⟨"ValleyMassModel", "knownWord", "()I"⟩, prog_12_method_15_code, some .int, []) me_170 := ⟨rfl, rfl⟩
set_option maxRecDepth 20000 in
theorem sm_cw_171 : sm_cwp 1556 (⟨"ValleyMassModel", "wrong", "(I)V"⟩, prog_12_method_16_code, none, []) me_171 := ⟨rfl, rfl⟩
set_option maxRecDepth 20000 in
theorem sm_cw_172 : sm_cwp 1533 (⟨"ValleyMassModel", "isGood", "()Z"⟩, prog_12_method_17_code, some .boolean, []) me_172 := ⟨rfl, rfl⟩
set_option maxRecDepth 20000 in
theorem sm_cw_173 : sm_cwp 1580 (⟨"ValleyMassModel", "isSign", "(I)Z"⟩, prog_12_method_18_code, some .boolean, []) me_173 := ⟨rfl, rfl⟩
set_option maxRecDepth 20000 in
theorem sm_cw_174 : sm_cwp 1618 (⟨"ValleyMassModel", "need", "(Z)V"⟩, prog_12_method_19_code, none, []) me_174 := ⟨rfl, rfl⟩
set_option maxRecDepth 20000 in
theorem sm_cw_175 : sm_cwp 1560 (⟨"ValleyMassModel", "number", "(II)I"⟩, prog_12_method_20_code, some .int, []) me_175 := ⟨rfl, rfl⟩
set_option maxRecDepth 20000 in
theorem sm_cw_176 : sm_cwp 1596 (⟨"ValleyMassModel", "puts", "(I)V"⟩, prog_12_method_21_code, none, []) me_176 := ⟨rfl, rfl⟩
set_option maxRecDepth 20000 in
theorem sm_cw_177 : sm_cwp 1603 (⟨"ValleyMassModel", "isOpen", "(I)Z"⟩, prog_12_method_22_code, some .boolean, []) me_177 := ⟨rfl, rfl⟩
set_option maxRecDepth 20000 in
theorem sm_cw_178 : sm_cwp 1606 (⟨"ValleyMassModel", "strength", "(I)I"⟩, prog_12_method_23_code, some .int, []) me_178 := ⟨rfl, rfl⟩
set_option maxRecDepth 20000 in
theorem sm_cw_179 : sm_cwp 1600 (⟨"ValleyMassModel", "drops", "(I)V"⟩, prog_12_method_24_code, none, []) me_179 := ⟨rfl, rfl⟩
set_option maxRecDepth 20000 in
theorem sm_cw_180 : sm_cwp 1588 (⟨"ValleyMassModel", "waitsFor", "(I)V"⟩, prog_12_method_25_code, none, []) me_180 := ⟨rfl, rfl⟩
set_option maxRecDepth 20000 in
theorem sm_cw_181 : sm_cwp 1592 (⟨"ValleyMassModel", "part", "()V"⟩, prog_12_method_26_code, none, []) me_181 := ⟨rfl, rfl⟩
set_option maxRecDepth 20000 in
theorem sm_cw_182 : sm_cwp 1576 (⟨"ValleyMassModel", "deeper", "()V"⟩, prog_12_method_27_code, none, []) me_182 := ⟨rfl, rfl⟩
set_option maxRecDepth 20000 in
theorem sm_cw_183 : sm_cwp 1584 (⟨"ValleyMassModel", "operand", "(Z)V"⟩, prog_12_method_28_code, none, []) me_183 := ⟨rfl, rfl⟩
set_option maxRecDepth 20000 in
theorem sm_cw_184 : sm_cwp 1610 (⟨"ValleyMassModel", "isOpened", "()Z"⟩, prog_12_method_29_code, some .boolean, []) me_184 := ⟨rfl, rfl⟩
set_option maxRecDepth 20000 in
theorem sm_cw_185 : sm_cwp 1614 (⟨"ValleyMassModel", "closes", "()V"⟩, prog_12_method_30_code, none, []) me_185 := ⟨rfl, rfl⟩
set_option maxRecDepth 20000 in
theorem sm_cw_186 : sm_cwp 1572 (⟨"ValleyMassModel", "expression", "(II)V"⟩, prog_12_method_31_code, none, []) me_186 := ⟨rfl, rfl⟩
set_option maxRecDepth 20000 in
theorem sm_cw_187 : sm_cwp 1552 (⟨"ValleyMassModel", "readsSinger", "(I)V"⟩, prog_12_method_32_code, none, []) me_187 := ⟨rfl, rfl⟩
set_option maxRecDepth 20000 in
theorem sm_cw_188 : sm_cwp 1564 (⟨"ValleyMassModel", "readsRow", "(I)V"⟩, prog_12_method_33_code, none, []) me_188 := ⟨rfl, rfl⟩
set_option maxRecDepth 20000 in
theorem sm_cw_189 : sm_cwp 1568 (⟨"ValleyMassModel", "readsRule", "(I)V"⟩, prog_12_method_34_code, none, []) me_189 := ⟨rfl, rfl⟩
set_option maxRecDepth 20000 in
theorem sm_cw_190 : sm_cwp 1537 (⟨"ValleyMassModel", "line", "()V"⟩, prog_12_method_35_code, none, []) me_190 := ⟨rfl, rfl⟩
set_option maxRecDepth 20000 in
theorem sm_cw_191 : sm_cwp 1511 (⟨"ValleyMassModel", "valley", "(I)I"⟩, prog_12_method_36_code, some .int, []) me_191 := ⟨rfl, rfl⟩
set_option maxRecDepth 20000 in
theorem sm_cw_192 : sm_cwp 1626 (⟨"ValleyMassModel", "fault", "()I"⟩, prog_12_method_37_code, some .int, []) me_192 := ⟨rfl, rfl⟩
set_option maxRecDepth 20000 in
theorem sm_cw_193 : sm_cwp 1704 (⟨"ValleyMassModel", "keeps", "()V"⟩, prog_12_method_38_code, none, []) me_193 := ⟨rfl, rfl⟩
set_option maxRecDepth 20000 in
theorem sm_cw_194 : sm_cwp 1700 (⟨"ValleyMassModel", "refuses", "(I)I"⟩, prog_12_method_39_code, some .int, []) me_194 := ⟨rfl, rfl⟩
set_option maxRecDepth 20000 in
theorem sm_cw_195 : sm_cwp 1630 (⟨"ValleyMassModel", "undo", "()I"⟩, prog_12_method_40_code, some .int, []) me_195 := ⟨rfl, rfl⟩
set_option maxRecDepth 20000 in
theorem sm_cw_196 : sm_cwp 1641 (⟨"ValleyMassModel", "areSo", "([II)I"⟩, prog_12_method_41_code, some .int, []) me_196 := ⟨rfl, rfl⟩
set_option maxRecDepth 20000 in
theorem sm_cw_197 : sm_cwp 1716 (⟨"ValleyMassModel", "ofSide", "(I)I"⟩, prog_12_method_42_code, some .int, []) me_197 := ⟨rfl, rfl⟩
set_option maxRecDepth 20000 in
theorem sm_cw_198 : sm_cwp 1661 (⟨"ValleyMassModel", "hasAll", "(III)Z"⟩, prog_12_method_43_code, some .boolean, []) me_198 := ⟨rfl, rfl⟩
set_option maxRecDepth 20000 in
theorem sm_cw_199 : sm_cwp 1657 (⟨"ValleyMassModel", "ableOf", "(III)I"⟩, prog_12_method_44_code, some .int, []) me_199 := ⟨rfl, rfl⟩
set_option maxRecDepth 20000 in
theorem sm_cw_200 : sm_cwp 1653 (⟨"ValleyMassModel", "hasRows", "(I)Z"⟩, prog_12_method_45_code, some .boolean, []) me_200 := ⟨rfl, rfl⟩
set_option maxRecDepth 20000 in
theorem sm_cw_201 : sm_cwp 1649 (⟨"ValleyMassModel", "canBeSung", "(III)Z"⟩, prog_12_method_46_code, some .boolean, []) me_201 := ⟨rfl, rfl⟩
set_option maxRecDepth 20000 in
theorem sm_cw_202 : sm_cwp 1645 (⟨"ValleyMassModel", "sungBy", "(I)I"⟩, prog_12_method_47_code, some .int, []) me_202 := ⟨rfl, rfl⟩
set_option maxRecDepth 20000 in
theorem sm_cw_203 : sm_cwp 1634 (⟨"ValleyMassModel", "count", "(I)I"⟩, prog_12_method_48_code, some .int, []) me_203 := ⟨rfl, rfl⟩
set_option maxRecDepth 20000 in
theorem sm_cw_204 : sm_cwp 1672 (⟨"ValleyMassModel", "isSinger", "(I)Z"⟩, prog_12_method_49_code, some .boolean, []) me_204 := ⟨rfl, rfl⟩
set_option maxRecDepth 20000 in
theorem sm_cw_205 : sm_cwp 1684 (⟨"ValleyMassModel", "isPiece", "(I)Z"⟩, prog_12_method_50_code, some .boolean, []) me_205 := ⟨rfl, rfl⟩
set_option maxRecDepth 20000 in
theorem sm_cw_206 : sm_cwp 1676 (⟨"ValleyMassModel", "isWhat", "(II)Z"⟩, prog_12_method_51_code, some .boolean, []) me_206 := ⟨rfl, rfl⟩
set_option maxRecDepth 20000 in
theorem sm_cw_207 : sm_cwp 1668 (⟨"ValleyMassModel", "singer", "(II)I"⟩, prog_12_method_52_code, some .int, []) me_207 := ⟨rfl, rfl⟩
set_option maxRecDepth 20000 in
theorem sm_cw_208 : sm_cwp 1688 (⟨"ValleyMassModel", "notesOf", "(I)I"⟩, prog_12_method_53_code, some .int, []) me_208 := ⟨rfl, rfl⟩
set_option maxRecDepth 20000 in
theorem sm_cw_209 : sm_cwp 1680 (⟨"ValleyMassModel", "row", "(III)I"⟩, prog_12_method_54_code, some .int, []) me_209 := ⟨rfl, rfl⟩
set_option maxRecDepth 20000 in
theorem sm_cw_210 : sm_cwp 1692 (⟨"ValleyMassModel", "able", "(II)I"⟩, prog_12_method_55_code, some .int, []) me_210 := ⟨rfl, rfl⟩
set_option maxRecDepth 20000 in
theorem sm_cw_211 : sm_cwp 1723 (⟨"ValleyMassModel", "works", "(III)I"⟩, prog_12_method_56_code, some .int, []) me_211 := ⟨rfl, rfl⟩
set_option maxRecDepth 20000 in
theorem sm_cw_212 : sm_cwp 1720 (⟨"ValleyMassModel", "reckons", "(I)I"⟩, prog_12_method_57_code, some .int, []) me_212 := ⟨rfl, rfl⟩
set_option maxRecDepth 20000 in
theorem sm_cw_213 : sm_cwp 1712 (⟨"ValleyMassModel", "isHolding", "([II)Z"⟩, prog_12_method_58_code, some .boolean, []) me_213 := ⟨rfl, rfl⟩
set_option maxRecDepth 20000 in
theorem sm_cw_214 : sm_cwp 1731 (⟨"ValleyMassModel", "aimsFor", "([III)I"⟩, prog_12_method_59_code, some .int, []) me_214 := ⟨rfl, rfl⟩
set_option maxRecDepth 20000 in
theorem sm_cw_215 : sm_cwp 1727 (⟨"ValleyMassModel", "aims", "([II)I"⟩, prog_12_method_60_code, some .int, []) me_215 := ⟨rfl, rfl⟩
set_option maxRecDepth 20000 in
theorem sm_cw_216 : sm_cwp 1708 (⟨"ValleyMassModel", "dayGoes", "([I)I"⟩, prog_12_method_61_code, some .int, []) me_216 := ⟨rfl, rfl⟩
set_option maxRecDepth 20000 in
theorem sm_cw_217 : sm_cwp 1696 (⟨"ValleyMassModel", "days", "(I)I"⟩, prog_12_method_62_code, some .int, []) me_217 := ⟨rfl, rfl⟩
set_option maxRecDepth 20000 in
theorem sm_cw_218 : sm_cwp 1739 (⟨"ValleyMassModel", "becomes", "(III)Z"⟩, prog_12_method_63_code, some .boolean, []) me_218 := ⟨rfl, rfl⟩
set_option maxRecDepth 20000 in
theorem sm_cw_219 : sm_cwp 1735 (⟨"ValleyMassModel", "fall", "(I)Z"⟩, prog_12_method_64_code, some .boolean, []) me_219 := ⟨rfl, rfl⟩
set_option maxRecDepth 20000 in
theorem sm_cw_220 : sm_cwp 1743 (⟨"ValleyMassModel", "catches", "(I)Z"⟩, prog_12_method_65_code, some .boolean, []) me_220 := ⟨rfl, rfl⟩
set_option maxRecDepth 20000 in
theorem sm_cw_221 : sm_cwp 1747 (⟨"ValleyMassModel", "release", "(I)Z"⟩, prog_12_method_66_code, some .boolean, []) me_221 := ⟨rfl, rfl⟩
set_option maxRecDepth 20000 in
theorem sm_cw_222 : sm_cwp 1751 (⟨"ValleyMassModel", "exchange", "(II)Z"⟩, prog_12_method_67_code, some .boolean, []) me_222 := ⟨rfl, rfl⟩
set_option maxRecDepth 20000 in
theorem sm_cw_223 : sm_cwp 1763 (⟨"ValleyMassModel", "movedFor", "(III)I"⟩, prog_12_method_68_code, some .int, []) me_223 := ⟨rfl, rfl⟩
set_option maxRecDepth 20000 in
theorem sm_cw_224 : sm_cwp 1759 (⟨"ValleyMassModel", "movedIn", "(I)I"⟩, prog_12_method_69_code, some .int, []) me_224 := ⟨rfl, rfl⟩
set_option maxRecDepth 20000 in
theorem sm_cw_225 : sm_cwp 1755 (⟨"ValleyMassModel", "moved", "(I)I"⟩, prog_12_method_70_code, some .int, []) me_225 := ⟨rfl, rfl⟩
set_option maxRecDepth 20000 in
theorem sm_cw_226 : sm_cwp 1767 (⟨"ValleyMassModel", "spare", "(I)I"⟩, prog_12_method_71_code, some .int, []) me_226 := ⟨rfl, rfl⟩
set_option maxRecDepth 20000 in
theorem sm_cw_227 : sm_cwp 1771 (⟨"ValleyMassModel", "keys", "()I"⟩, prog_12_method_72_code, some .int, []) me_227 := ⟨rfl, rfl⟩
set_option maxRecDepth 20000 in
theorem sm_cw_228 : sm_cwp 1775 (⟨"ValleyMassModel", "ransom", "(I)I"⟩, prog_12_method_73_code, some .int, []) me_228 := ⟨rfl, rfl⟩
set_option maxRecDepth 20000 in
theorem sm_cw_229 : sm_cwp 1779 (⟨"ValleyMassModel", "peace", "()I"⟩, prog_12_method_74_code, some .int, []) me_229 := ⟨rfl, rfl⟩
set_option maxRecDepth 20000 in
theorem sm_cw_230 : sm_cwp 1783 (⟨"ValleyMassModel", "silent", "()I"⟩, prog_12_method_75_code, some .int, []) me_230 := ⟨rfl, rfl⟩
set_option maxRecDepth 20000 in
theorem sm_cw_231 : sm_cwp 1787 (⟨"ValleyMassModel", "falls", "(I)I"⟩, prog_12_method_76_code, some .int, []) me_231 := ⟨rfl, rfl⟩
set_option maxRecDepth 20000 in
theorem sm_cw_232 : sm_cwp 1795 (⟨"ValleyMassModel", "areAtOnce", "(I)Z"⟩, prog_12_method_77_code, some .boolean, []) me_232 := ⟨rfl, rfl⟩
set_option maxRecDepth 20000 in
theorem sm_cw_233 : sm_cwp 1791 (⟨"ValleyMassModel", "duet", "()I"⟩, prog_12_method_78_code, some .int, []) me_233 := ⟨rfl, rfl⟩
set_option maxRecDepth 20000 in
theorem sm_cw_234 : sm_cwp 1799 (⟨"ValleyMassModel", "evening", "()I"⟩, prog_12_method_79_code, some .int, []) me_234 := ⟨rfl, rfl⟩
set_option maxRecDepth 20000 in
theorem sm_cw_235 : sm_cwp 1803 (⟨"ValleyMassModel", "cast", "(II)I"⟩, prog_12_method_80_code, some .int, []) me_235 := ⟨rfl, rfl⟩
set_option maxRecDepth 20000 in
theorem sm_cw_236 : sm_cwp 1811 (⟨"ValleyMassModel", "isOnScale", "(II)Z"⟩, prog_12_method_81_code, some .boolean, []) me_236 := ⟨rfl, rfl⟩
set_option maxRecDepth 20000 in
theorem sm_cw_237 : sm_cwp 1807 (⟨"ValleyMassModel", "transposed", "(I)I"⟩, prog_12_method_82_code, some .int, []) me_237 := ⟨rfl, rfl⟩
set_option maxRecDepth 20000 in
theorem sm_cw_238 : sm_cwp 1815 (⟨"ValleyMassModel", "standIns", "(I)I"⟩, prog_12_method_83_code, some .int, []) me_238 := ⟨rfl, rfl⟩
set_option maxRecDepth 20000 in
theorem sm_cw_239 : sm_cwp 1819 (⟨"ValleyMassModel", "voices", "(II)I"⟩, prog_12_method_84_code, some .int, []) me_239 := ⟨rfl, rfl⟩
set_option maxRecDepth 20000 in
theorem sm_cw_240 : sm_cwp 1827 (⟨"ValleyMassModel", "lackingIn", "(I)I"⟩, prog_12_method_85_code, some .int, []) me_240 := ⟨rfl, rfl⟩
set_option maxRecDepth 20000 in
theorem sm_cw_241 : sm_cwp 1823 (⟨"ValleyMassModel", "lacking", "(II)I"⟩, prog_12_method_86_code, some .int, []) me_241 := ⟨rfl, rfl⟩
set_option maxRecDepth 20000 in
theorem sm_cw_242 : sm_cwp 1835 (⟨"ValleyMassModel", "widerFor", "(II)I"⟩, prog_12_method_87_code, some .int, []) me_242 := ⟨rfl, rfl⟩
set_option maxRecDepth 20000 in
theorem sm_cw_243 : sm_cwp 1831 (⟨"ValleyMassModel", "widen", "(II)I"⟩, prog_12_method_88_code, some .int, []) me_243 := ⟨rfl, rfl⟩
set_option maxRecDepth 20000 in
theorem sm_cw_244 : sm_cwp 1839 (⟨"ValleyMassModel", "bargain", "()I"⟩, prog_12_method_89_code, some .int, []) me_244 := ⟨rfl, rfl⟩
set_option maxRecDepth 20000 in
theorem sm_cw_245 : sm_cwp 1843 (⟨"ValleyMassModel", "casts", "(I)J"⟩, prog_12_method_90_code, some .long, []) me_245 := ⟨rfl, rfl⟩
set_option maxRecDepth 20000 in
theorem sm_cw_246 : sm_cwp 1847 (⟨"ValleyMassModel", "holds", "(I)Z"⟩, prog_12_method_91_code, some .boolean, []) me_246 := ⟨rfl, rfl⟩
set_option maxRecDepth 20000 in
theorem sm_cw_247 : sm_cwp 1851 (⟨"ValleyMassModel", "aimed", "(I)I"⟩, prog_12_method_92_code, some .int, []) me_247 := ⟨rfl, rfl⟩
set_option maxRecDepth 20000 in
theorem sm_cw_248 : sm_cwp 1855 (⟨"ValleyMassModel", "held", "(II)I"⟩, prog_12_method_93_code, some .int, []) me_248 := ⟨rfl, rfl⟩
set_option maxRecDepth 20000 in
theorem sm_cw_249 : sm_cwp 1859 (⟨"ValleyMassModel", "lost", "(I)I"⟩, prog_12_method_94_code, some .int, []) me_249 := ⟨rfl, rfl⟩
set_option maxRecDepth 20000 in
theorem sm_cw_250 : sm_cwp 1863 (⟨"ValleyMassModel", "gone", "(I)I"⟩, prog_12_method_95_code, some .int, []) me_250 := ⟨rfl, rfl⟩
set_option maxRecDepth 20000 in
theorem sm_cw_251 : sm_cwp 1867 (⟨"ValleyMassModel", "rows", "(I)I"⟩, prog_12_method_96_code, some .int, []) me_251 := ⟨rfl, rfl⟩
set_option maxRecDepth 20000 in
theorem sm_cw_252 : sm_cwp 1874 (⟨"ValleyMassModel", "portion", "(III)I"⟩, prog_12_method_97_code, some .int, []) me_252 := ⟨rfl, rfl⟩
set_option maxRecDepth 20000 in
theorem sm_cw_253 : sm_cwp 1871 (⟨"ValleyMassModel", "luck", "(III)I"⟩, prog_12_method_98_code, some .int, []) me_253 := ⟨rfl, rfl⟩
set_option maxRecDepth 20000 in
theorem sm_cw_254 : sm_cwp 1886 (⟨"ValleyMassModel", "notesIn", "(I)I"⟩, prog_12_method_99_code, some .int, []) me_254 := ⟨rfl, rfl⟩
set_option maxRecDepth 20000 in
theorem sm_cw_255 : sm_cwp 1882 (⟨"ValleyMassModel", "codesOf", "(II)J"⟩, prog_12_method_100_code, some .long, []) me_255 := ⟨rfl, rfl⟩
set_option maxRecDepth 20000 in
theorem sm_cw_256 : sm_cwp 1878 (⟨"ValleyMassModel", "codes", "(II)J"⟩, prog_12_method_101_code, some .long, []) me_256 := ⟨rfl, rfl⟩
set_option maxRecDepth 20000 in
theorem sm_cw_257 : sm_cwp 1891 (⟨"ValleyMassModel", "slips", "(II)I"⟩, prog_12_method_102_code, some .int, []) me_257 := ⟨rfl, rfl⟩
set_option maxRecDepth 20000 in
theorem sm_cw_258 : sm_cwp 1896 (⟨"ValleyMassModel", "hear", "(IIII)I"⟩, prog_12_method_103_code, some .int, []) me_258 := ⟨rfl, rfl⟩
set_option maxRecDepth 20000 in
theorem sm_cw_259 : sm_cwp 1900 (⟨"ValleyMassModel", "forget", "()V"⟩, prog_12_method_104_code, none, []) me_259 := ⟨rfl, rfl⟩
set_option maxRecDepth 20000 in
theorem sm_cw_260 : sm_cwp 1908 (⟨"ValleyMassModel", "isHeard", "(II)Z"⟩, prog_12_method_105_code, some .boolean, []) me_260 := ⟨rfl, rfl⟩
set_option maxRecDepth 20000 in
theorem sm_cw_261 : sm_cwp 1904 (⟨"ValleyMassModel", "flat", "(I)I"⟩, prog_12_method_106_code, some .int, []) me_261 := ⟨rfl, rfl⟩
set_option maxRecDepth 20000 in
theorem sm_cw_262 : sm_cwp 1916 (⟨"ValleyMassModel", "lays4", "(I)V"⟩, prog_12_method_107_code, none, []) me_262 := ⟨rfl, rfl⟩
set_option maxRecDepth 20000 in
theorem sm_cw_263 : sm_cwp 1912 (⟨"ValleyMassModel", "game", "(II)I"⟩, prog_12_method_108_code, some .int, []) me_263 := ⟨rfl, rfl⟩
set_option maxRecDepth 20000 in
theorem sm_cw_264 : sm_cwp 1924 (⟨"ValleyMassModel", "draw", "(I)I"⟩, prog_12_method_109_code, some .int, []) me_264 := ⟨rfl, rfl⟩
set_option maxRecDepth 20000 in
theorem sm_cw_265 : sm_cwp 1920 (⟨"ValleyMassModel", "wars", "(III)I"⟩, prog_12_method_110_code, some .int, []) me_265 := ⟨rfl, rfl⟩
set_option maxRecDepth 20000 in
theorem sm_cw_266 : sm_cwp 1929 (⟨"ValleyMassModel", "image", "()V"⟩, prog_12_method_111_code, none, []) me_266 := ⟨rfl, rfl⟩
set_option maxRecDepth 20000 in
theorem sm_cw_267 : sm_cwp 1933 (⟨"ValleyMassModel", "restore", "()Z"⟩, prog_12_method_112_code, some .boolean, []) me_267 := ⟨rfl, rfl⟩
set_option maxRecDepth 20000 in
theorem sm_cw_268 : sm_cwp 449 (⟨"java/lang/Integer", "bitCount", "(I)I"⟩, prog_18_method_49_code, some .int, []) me_268 := ⟨rfl, rfl⟩
set_option maxRecDepth 20000 in
theorem sm_cw_269 : sm_cwp 674 (⟨"java/lang/Math", "max", "(II)I"⟩, prog_19_method_65_code, some .int, []) me_269 := ⟨rfl, rfl⟩
set_option maxRecDepth 20000 in
theorem sm_cw_270 : sm_cwp 657 (⟨"java/lang/Math", "min", "(II)I"⟩, prog_19_method_69_code, some .int, []) me_270 := ⟨rfl, rfl⟩
set_option maxRecDepth 20000 in
theorem sm_cw_271 : sm_cwp 574 (⟨"ValleyMassLaw", "valley", "(LValleyMass;I[J)I"⟩, method_3_code, some .int, [(0, 9, 12, 13)]) me_271 := ⟨rfl, rfl⟩
set_option maxRecDepth 20000 in
theorem sm_cw_272 : sm_cwp 889 (⟨"ValleyMassLaw", "count", "(LValleyMass;I[J)I"⟩, method_4_code, some .int, [(0, 9, 12, 18)]) me_272 := ⟨rfl, rfl⟩
set_option maxRecDepth 20000 in
theorem sm_cw_273 : sm_cwp 913 (⟨"ValleyMassLaw", "singer", "(LValleyMass;II[J)I"⟩, method_5_code, some .int, [(0, 10, 13, 18)]) me_273 := ⟨rfl, rfl⟩
set_option maxRecDepth 20000 in
theorem sm_cw_274 : sm_cwp 930 (⟨"ValleyMassLaw", "row", "(LValleyMass;III[J)I"⟩, method_6_code, some .int, [(0, 12, 15, 18)]) me_274 := ⟨rfl, rfl⟩
set_option maxRecDepth 20000 in
theorem sm_cw_275 : sm_cwp 952 (⟨"ValleyMassLaw", "able", "(LValleyMass;II[J)I"⟩, method_7_code, some .int, [(0, 10, 13, 18)]) me_275 := ⟨rfl, rfl⟩
set_option maxRecDepth 20000 in
theorem sm_cw_276 : sm_cwp 959 (⟨"ValleyMassLaw", "fall", "(LValleyMass;I[J)I"⟩, method_8_code, some .int, [(0, 16, 19, 18)]) me_276 := ⟨rfl, rfl⟩
set_option maxRecDepth 20000 in
theorem sm_cw_277 : sm_cwp 971 (⟨"ValleyMassLaw", "catches", "(LValleyMass;I[J)I"⟩, method_9_code, some .int, [(0, 16, 19, 18)]) me_277 := ⟨rfl, rfl⟩
set_option maxRecDepth 20000 in
theorem sm_cw_278 : sm_cwp 982 (⟨"ValleyMassLaw", "release", "(LValleyMass;I[J)I"⟩, method_10_code, some .int, [(0, 16, 19, 18)]) me_278 := ⟨rfl, rfl⟩
set_option maxRecDepth 20000 in
theorem sm_cw_279 : sm_cwp 993 (⟨"ValleyMassLaw", "exchange", "(LValleyMass;II[J)I"⟩, method_11_code, some .int, [(0, 17, 20, 18)]) me_279 := ⟨rfl, rfl⟩
set_option maxRecDepth 20000 in
theorem sm_cw_280 : sm_cwp 1001 (⟨"ValleyMassLaw", "moved", "(LValleyMass;I[J)I"⟩, method_12_code, some .int, [(0, 9, 12, 18)]) me_280 := ⟨rfl, rfl⟩
set_option maxRecDepth 20000 in
theorem sm_cw_281 : sm_cwp 1023 (⟨"ValleyMassLaw", "spare", "(LValleyMass;I[J)I"⟩, method_13_code, some .int, [(0, 9, 12, 18)]) me_281 := ⟨rfl, rfl⟩
set_option maxRecDepth 20000 in
theorem sm_cw_282 : sm_cwp 1034 (⟨"ValleyMassLaw", "ransom", "(LValleyMass;I[J)I"⟩, method_14_code, some .int, [(0, 9, 12, 18)]) me_282 := ⟨rfl, rfl⟩
set_option maxRecDepth 20000 in
theorem sm_cw_283 : sm_cwp 1044 (⟨"ValleyMassLaw", "luck", "(LValleyMass;III[J)I"⟩, method_15_code, some .int, [(0, 12, 15, 18), (0, 12, 19, 13)]) me_283 := ⟨rfl, rfl⟩
set_option maxRecDepth 20000 in
theorem sm_cw_284 : sm_cwp 1066 (⟨"ValleyMassLaw", "codes", "(LValleyMass;II[J)I"⟩, method_16_code, some .int, [(0, 9, 12, 18), (0, 9, 16, 13)]) me_284 := ⟨rfl, rfl⟩
set_option maxRecDepth 20000 in
theorem sm_cw_285 : sm_cwp 1082 (⟨"ValleyMassLaw", "slips", "(LValleyMass;II[J)I"⟩, method_17_code, some .int, [(0, 10, 13, 18), (0, 10, 17, 13)]) me_285 := ⟨rfl, rfl⟩
set_option maxRecDepth 20000 in
theorem sm_cw_286 : sm_cwp 1091 (⟨"ValleyMassLaw", "hear", "(LValleyMass;IIII[J)I"⟩, method_18_code, some .int, [(0, 14, 17, 18)]) me_286 := ⟨rfl, rfl⟩
set_option maxRecDepth 20000 in
theorem sm_cw_287 : sm_cwp 1102 (⟨"ValleyMassLaw", "flat", "(LValleyMass;I[J)I"⟩, method_19_code, some .int, [(0, 9, 12, 18)]) me_287 := ⟨rfl, rfl⟩
set_option maxRecDepth 20000 in
theorem sm_cw_288 : sm_cwp 1114 (⟨"ValleyMassLaw", "game", "(LValleyMass;II[J)I"⟩, method_20_code, some .int, [(0, 10, 13, 18), (0, 10, 17, 13)]) me_288 := ⟨rfl, rfl⟩
set_option maxRecDepth 20000 in
theorem sm_cw_289 : sm_cwp 1139 (⟨"ValleyMassLaw", "wars", "(LValleyMass;III[J)I"⟩, method_21_code, some .int, [(0, 12, 15, 18), (0, 12, 19, 13)]) me_289 := ⟨rfl, rfl⟩
set_option maxRecDepth 20000 in
theorem sm_cw_290 : sm_cwp 1156 (⟨"ValleyMassLaw", "cast", "(LValleyMass;II[J)I"⟩, method_22_code, some .int, [(0, 10, 13, 18)]) me_290 := ⟨rfl, rfl⟩
set_option maxRecDepth 20000 in
theorem sm_cw_291 : sm_cwp 1172 (⟨"ValleyMassLaw", "transposed", "(LValleyMass;I[J)I"⟩, method_23_code, some .int, [(0, 9, 12, 18)]) me_291 := ⟨rfl, rfl⟩
set_option maxRecDepth 20000 in
theorem sm_cw_292 : sm_cwp 1182 (⟨"ValleyMassLaw", "standIns", "(LValleyMass;I[J)I"⟩, method_24_code, some .int, [(0, 9, 12, 18)]) me_292 := ⟨rfl, rfl⟩
set_option maxRecDepth 20000 in
theorem sm_cw_293 : sm_cwp 1191 (⟨"ValleyMassLaw", "falls", "(LValleyMass;I[J)I"⟩, method_25_code, some .int, [(0, 9, 12, 13)]) me_293 := ⟨rfl, rfl⟩
set_option maxRecDepth 20000 in
theorem sm_cw_294 : sm_cwp 1202 (⟨"ValleyMassLaw", "voices", "(LValleyMass;II[J)I"⟩, method_26_code, some .int, [(0, 10, 13, 18)]) me_294 := ⟨rfl, rfl⟩
set_option maxRecDepth 20000 in
theorem sm_cw_295 : sm_cwp 1210 (⟨"ValleyMassLaw", "lacking", "(LValleyMass;II[J)I"⟩, method_27_code, some .int, [(0, 10, 13, 18)]) me_295 := ⟨rfl, rfl⟩
set_option maxRecDepth 20000 in
theorem sm_cw_296 : sm_cwp 1222 (⟨"ValleyMassLaw", "widen", "(LValleyMass;II[J)I"⟩, method_28_code, some .int, [(0, 10, 13, 18)]) me_296 := ⟨rfl, rfl⟩
set_option maxRecDepth 20000 in
theorem sm_cw_297 : sm_cwp 1242 (⟨"ValleyMassLaw", "casts", "(LValleyMass;I[J)I"⟩, method_29_code, some .int, [(0, 8, 11, 18)]) me_297 := ⟨rfl, rfl⟩
set_option maxRecDepth 20000 in
theorem sm_cw_298 : sm_cwp 1252 (⟨"ValleyMassLaw", "holds", "(LValleyMass;I[J)I"⟩, method_30_code, some .int, [(0, 16, 19, 18)]) me_298 := ⟨rfl, rfl⟩
set_option maxRecDepth 20000 in
theorem sm_cw_299 : sm_cwp 1265 (⟨"ValleyMassLaw", "aimed", "(LValleyMass;I[J)I"⟩, method_31_code, some .int, [(0, 9, 12, 18)]) me_299 := ⟨rfl, rfl⟩
set_option maxRecDepth 20000 in
theorem sm_cw_300 : sm_cwp 1273 (⟨"ValleyMassLaw", "held", "(LValleyMass;II[J)I"⟩, method_32_code, some .int, [(0, 10, 13, 18), (0, 10, 17, 13)]) me_300 := ⟨rfl, rfl⟩
set_option maxRecDepth 20000 in
theorem sm_cw_301 : sm_cwp 1280 (⟨"ValleyMassLaw", "lost", "(LValleyMass;I[J)I"⟩, method_33_code, some .int, [(0, 9, 12, 18)]) me_301 := ⟨rfl, rfl⟩
set_option maxRecDepth 20000 in
theorem sm_cw_302 : sm_cwp 1287 (⟨"ValleyMassLaw", "gone", "(LValleyMass;I[J)I"⟩, method_34_code, some .int, [(0, 9, 12, 18)]) me_302 := ⟨rfl, rfl⟩
set_option maxRecDepth 20000 in
theorem sm_cw_303 : sm_cwp 1294 (⟨"ValleyMassLaw", "rows", "(LValleyMass;I[J)I"⟩, method_35_code, some .int, [(0, 9, 12, 18)]) me_303 := ⟨rfl, rfl⟩
def sm_cws : List Nat → List sm_In → List sm_Me → Prop
  | w :: ws, q :: qs, me :: ms => sm_cwp w q me ∧ sm_cws ws qs ms
  | _, _, _ => True
theorem sm_cws_at : ∀ {ws : List Nat} {qs : List sm_In} {ms : List sm_Me} {n w : Nat} {q : sm_In} {me : sm_Me}, sm_cws ws qs ms → ws[n]? = some w → qs[n]? = some q → ms[n]? = some me → sm_cwp w q me
  | w :: ws, q :: qs, me :: ms, 0, _, _, _, h, h1, h2, h3 => by
    simp at h1 h2 h3
    subst h1; subst h2; subst h3
    exact h.1
  | w :: ws, q :: qs, me :: ms, n + 1, _, _, _, h, h1, h2, h3 => sm_cws_at (n := n) h.2 (by simpa using h1) (by simpa using h2) (by simpa using h3)
  | [], _, _, n, _, _, _, _, h1, _, _ => by simp at h1
  | _ :: _, [], _, n, _, _, _, _, _, h2, _ => by simp at h2
  | _ :: _, _ :: _, [], n, _, _, _, _, _, _, h3 => by simp at h3
set_option maxRecDepth 100000 in
theorem sm_cws_all : sm_cws ((sm_NW.map (·.1)).take 304) sm_N sm_P := ⟨sm_cw_0, sm_cw_1, sm_cw_2, sm_cw_3, sm_cw_4, sm_cw_5, sm_cw_6, sm_cw_7, sm_cw_8, sm_cw_9, sm_cw_10, sm_cw_11, sm_cw_12, sm_cw_13, sm_cw_14, sm_cw_15, sm_cw_16, sm_cw_17, sm_cw_18, sm_cw_19, sm_cw_20, sm_cw_21, sm_cw_22, sm_cw_23, sm_cw_24, sm_cw_25, sm_cw_26, sm_cw_27, sm_cw_28, sm_cw_29, sm_cw_30, sm_cw_31, sm_cw_32, sm_cw_33, sm_cw_34, sm_cw_35, sm_cw_36, sm_cw_37, sm_cw_38, sm_cw_39, sm_cw_40, sm_cw_41, sm_cw_42, sm_cw_43, sm_cw_44, sm_cw_45, sm_cw_46, sm_cw_47, sm_cw_48, sm_cw_49, sm_cw_50, sm_cw_51, sm_cw_52, sm_cw_53, sm_cw_54, sm_cw_55, sm_cw_56, sm_cw_57, sm_cw_58, sm_cw_59, sm_cw_60, sm_cw_61, sm_cw_62, sm_cw_63, sm_cw_64, sm_cw_65, sm_cw_66, sm_cw_67, sm_cw_68, sm_cw_69, sm_cw_70, sm_cw_71, sm_cw_72, sm_cw_73, sm_cw_74, sm_cw_75, sm_cw_76, sm_cw_77, sm_cw_78, sm_cw_79, sm_cw_80, sm_cw_81, sm_cw_82, sm_cw_83, sm_cw_84, sm_cw_85, sm_cw_86, sm_cw_87, sm_cw_88, sm_cw_89, sm_cw_90, sm_cw_91, sm_cw_92, sm_cw_93, sm_cw_94, sm_cw_95, sm_cw_96, sm_cw_97, sm_cw_98, sm_cw_99, sm_cw_100, sm_cw_101, sm_cw_102, sm_cw_103, sm_cw_104, sm_cw_105, sm_cw_106, sm_cw_107, sm_cw_108, sm_cw_109, sm_cw_110, sm_cw_111, sm_cw_112, sm_cw_113, sm_cw_114, sm_cw_115, sm_cw_116, sm_cw_117, sm_cw_118, sm_cw_119, sm_cw_120, sm_cw_121, sm_cw_122, sm_cw_123, sm_cw_124, sm_cw_125, sm_cw_126, sm_cw_127, sm_cw_128, sm_cw_129, sm_cw_130, sm_cw_131, sm_cw_132, sm_cw_133, sm_cw_134, sm_cw_135, sm_cw_136, sm_cw_137, sm_cw_138, sm_cw_139, sm_cw_140, sm_cw_141, sm_cw_142, sm_cw_143, sm_cw_144, sm_cw_145, sm_cw_146, sm_cw_147, sm_cw_148, sm_cw_149, sm_cw_150, sm_cw_151, sm_cw_152, sm_cw_153, sm_cw_154, sm_cw_155, sm_cw_156, sm_cw_157, sm_cw_158, sm_cw_159, sm_cw_160, sm_cw_161, sm_cw_162, sm_cw_163, sm_cw_164, sm_cw_165, sm_cw_166, sm_cw_167, sm_cw_168, sm_cw_169, sm_cw_170, sm_cw_171, sm_cw_172, sm_cw_173, sm_cw_174, sm_cw_175, sm_cw_176, sm_cw_177, sm_cw_178, sm_cw_179, sm_cw_180, sm_cw_181, sm_cw_182, sm_cw_183, sm_cw_184, sm_cw_185, sm_cw_186, sm_cw_187, sm_cw_188, sm_cw_189, sm_cw_190, sm_cw_191, sm_cw_192, sm_cw_193, sm_cw_194, sm_cw_195, sm_cw_196, sm_cw_197, sm_cw_198, sm_cw_199, sm_cw_200, sm_cw_201, sm_cw_202, sm_cw_203, sm_cw_204, sm_cw_205, sm_cw_206, sm_cw_207, sm_cw_208, sm_cw_209, sm_cw_210, sm_cw_211, sm_cw_212, sm_cw_213, sm_cw_214, sm_cw_215, sm_cw_216, sm_cw_217, sm_cw_218, sm_cw_219, sm_cw_220, sm_cw_221, sm_cw_222, sm_cw_223, sm_cw_224, sm_cw_225, sm_cw_226, sm_cw_227, sm_cw_228, sm_cw_229, sm_cw_230, sm_cw_231, sm_cw_232, sm_cw_233, sm_cw_234, sm_cw_235, sm_cw_236, sm_cw_237, sm_cw_238, sm_cw_239, sm_cw_240, sm_cw_241, sm_cw_242, sm_cw_243, sm_cw_244, sm_cw_245, sm_cw_246, sm_cw_247, sm_cw_248, sm_cw_249, sm_cw_250, sm_cw_251, sm_cw_252, sm_cw_253, sm_cw_254, sm_cw_255, sm_cw_256, sm_cw_257, sm_cw_258, sm_cw_259, sm_cw_260, sm_cw_261, sm_cw_262, sm_cw_263, sm_cw_264, sm_cw_265, sm_cw_266, sm_cw_267, sm_cw_268, sm_cw_269, sm_cw_270, sm_cw_271, sm_cw_272, sm_cw_273, sm_cw_274, sm_cw_275, sm_cw_276, sm_cw_277, sm_cw_278, sm_cw_279, sm_cw_280, sm_cw_281, sm_cw_282, sm_cw_283, sm_cw_284, sm_cw_285, sm_cw_286, sm_cw_287, sm_cw_288, sm_cw_289, sm_cw_290, sm_cw_291, sm_cw_292, sm_cw_293, sm_cw_294, sm_cw_295, sm_cw_296, sm_cw_297, sm_cw_298, sm_cw_299, sm_cw_300, sm_cw_301, sm_cw_302, sm_cw_303, trivial⟩
theorem sm_cw_in {y : Nat} {me : sm_Me} {nm : MethodName} {bytes : ByteArray} {ret : Option FieldType} {hh : List (Nat × Nat × Nat × Nat)} (hy : y < 304) (h1 : sm_P[y]? = some me) (h2 : sm_N[y]? = some (nm, bytes, ret, hh)) : sm_cw nm bytes me.2.2.2 ret hh ∈ sm_Ts := by
  have hl : ((sm_NW.map (·.1)).take 304).length = 304 := by decide +kernel
  have := sm_cws_at sm_cws_all (List.getElem?_eq_getElem (by rw [hl]; exact hy)) h2 h1
  exact sm_Tm this.1 this.2
