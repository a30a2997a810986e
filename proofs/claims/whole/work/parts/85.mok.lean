/-! ===== printed by wip/gen/emit_mok.py: every method is as the soundness theorem wants it ===== -/
theorem sm_ckP_all {own : Nat} {cc : ByteArray} {code : List sm_E} {ret : Option FieldType} {n : Nat} (h : sm_ckP own cc code ret 0 n = true) (hl : Nat.ble code.length n = true) (k : Nat) (e : sm_E) (hk : code[k]? = some e) : sm_ckE own cc code ret k e = true := by
  have h1 := (List.getElem?_eq_some_iff.mp hk).1
  have h2 := Nat.le_of_ble_eq_true hl
  exact sm_ckP_at h (Nat.zero_le k) (by omega) hk
theorem sm_mok_plain {own : Nat} {me : sm_Me} {nm : MethodName} {bytes : ByteArray} {ret : Option FieldType} (hp : plainFor nm = true) (ho : sm_OW.getD own "" = nm.cls) (hh : me.2.2.1 = [])
    (hk : ∀ (k : Nat) (e : sm_E), me.1[k]? = some e → sm_ckE own bytes me.1 ret k e = true) (h0 : ∃ e0 : sm_E, me.1[0]? = some e0 ∧ e0.2.1 = 0) : sm_mok sm_Ts sm_P sm_N me nm bytes ret [] := by
  refine ⟨hp, fun pc e0 h => ?_, h0, Or.inl ⟨rfl, hh⟩⟩
  rw [← ho]
  exact sm_ckE_of (hk pc e0 h)
def sm_hct : Nat → Nat
  | 0 => 13
  | _ => 18
def sm_isnew : Instr → Bool
  | .new _ => true
  | _ => false
def sm_hfB (cc : ByteArray) (code : List sm_E) (maxL n h j bp : Nat) : List ExceptionTableEntry → Bool
  | [] => false
  | x :: r => bif covers x bp && Nat.beq x.catchType (sm_hct n) then Nat.blt j maxL && (match code[h]? with
      | some eh => (sm_dk cc x.handlerPc (.astore j) 2 && Nat.beq eh.2.1 (x.handlerPc + 2)) || (if hj : j < 4 then sm_dk cc x.handlerPc (.astore_n ⟨j, hj⟩) 1 && Nat.beq eh.2.1 (x.handlerPc + 1) else false)
      | none => false)
    else (!covers x bp || (Nat.beq n 0 && Nat.beq x.catchType 18)) && sm_hfB cc code maxL n h j bp r
def sm_hB (cc : ByteArray) (me : sm_Me) (hh : List (Nat × Nat × Nat × Nat)) : Bool := (List.range me.1.length).all fun pc => match me.1[pc]? with
  | some e0 => !sm_isnew e0.1 && [0, 1].all fun n => match sm_hd me.2.2.1 pc n with
    | none => true
    | some (h, j) => sm_hfB cc me.1 me.2.2.2 n h j e0.2.1 (tableOf hh)
  | none => true
theorem sm_hcl : Cond.classLink "ValleyMassLaw" 13 (sm_xn 0) ∈ sm_Ts ∧ Cond.classLink "ValleyMassLaw" 18 (sm_xn 1) ∈ sm_Ts := by
  refine ⟨sm_wd_in (i := 575) ?_, sm_wd_in (i := 890) ?_⟩ <;> decide +kernel
theorem sm_hfB_of {cc : ByteArray} {code : List sm_E} {maxL n h j bp : Nat} (hn : n ≤ 1) : ∀ {t : List ExceptionTableEntry}, sm_hfB cc code maxL n h j bp t = true →
    ∃ (pre : List ExceptionTableEntry) (x : ExceptionTableEntry) (suf : List ExceptionTableEntry) (name : String), t = pre ++ x :: suf ∧ (∀ z ∈ pre, covers z bp = false ∨ (z.catchType ≠ 0 ∧ ∃ nm : String, Cond.classLink "ValleyMassLaw" z.catchType nm ∈ sm_Ts ∧ (sm_xn n, nm) ∈ sm_ncs)) ∧ covers x bp = true ∧ x.catchType ≠ 0 ∧ Cond.classLink "ValleyMassLaw" x.catchType name ∈ sm_Ts ∧ (sm_xn n, name) ∈ sm_cs ∧ j < maxL ∧
      ∃ eh : sm_E, code[h]? = some eh ∧ ((∃ jf : Fin 4, jf.val = j ∧ decode cc x.handlerPc = .ok (.astore_n jf, 1) ∧ eh.2.1 = x.handlerPc + 1) ∨ (decode cc x.handlerPc = .ok (.astore j, 2) ∧ eh.2.1 = x.handlerPc + 2))
  | [], hb => by cases hb
  | x :: r, hb => by
    rw [sm_hfB] at hb
    cases hc : (covers x bp && Nat.beq x.catchType (sm_hct n)) with
    | true =>
      rw [hc, cond_true] at hb
      rw [Bool.and_eq_true] at hc
      simp only [Bool.and_eq_true] at hb
      have hct := Nat.eq_of_beq_eq_true hc.2
      have hb2 := hb.2
      refine ⟨[], x, r, sm_xn n, rfl, fun z hz => (by cases hz), hc.1, ?_, ?_, ?_, sm_blt hb.1, ?_⟩
      · rw [hct]
        rcases (show n = 0 ∨ n = 1 by omega) with rfl | rfl <;> decide
      · rw [hct]
        rcases (show n = 0 ∨ n = 1 by omega) with rfl | rfl
        · exact sm_hcl.1
        · exact sm_hcl.2
      · rcases (show n = 0 ∨ n = 1 by omega) with rfl | rfl <;> simp [sm_cs, sm_xn]
      · split at hb2
        · rename_i eh heh
          refine ⟨eh, heh, ?_⟩
          simp only [Bool.or_eq_true, Bool.and_eq_true] at hb2
          rcases hb2 with h1 | h1
          · exact Or.inr ⟨sm_dk_of h1.1, Nat.eq_of_beq_eq_true h1.2⟩
          · split at h1
            · rename_i hj
              simp only [Bool.and_eq_true] at h1
              exact Or.inl ⟨⟨j, hj⟩, rfl, sm_dk_of h1.1, Nat.eq_of_beq_eq_true h1.2⟩
            · cases h1
        · cases hb2
    | false =>
      rw [hc, cond_false] at hb
      simp only [Bool.and_eq_true, Bool.or_eq_true, Bool.not_eq_true'] at hb
      obtain ⟨h1, h2⟩ := hb
      obtain ⟨pre, y, suf, name, e, hp, k1, k2, k3, k4, k5, k6⟩ := sm_hfB_of hn h2
      refine ⟨x :: pre, y, suf, name, by rw [e]; rfl, fun z hz => ?_, k1, k2, k3, k4, k5, k6⟩
      rcases List.mem_cons.mp hz with rfl | hz
      · rcases h1 with h1 | ⟨h3, h4⟩
        · exact Or.inl h1
        · have e3 := Nat.eq_of_beq_eq_true h3
          have e4 := Nat.eq_of_beq_eq_true h4
          subst e3
          refine Or.inr ⟨by rw [e4]; decide, sm_xn 1, by rw [e4]; exact sm_hcl.2, ?_⟩
          simp [sm_ncs, sm_xn]
      · exact hp z hz
theorem sm_mok_hand {own : Nat} {me : sm_Me} {nm : MethodName} {bytes : ByteArray} {ret : Option FieldType} {hh : List (Nat × Nat × Nat × Nat)} (hp : plainFor nm = true) (ho : nm.cls = "ValleyMassLaw" ∧ sm_OW.getD own "" = "ValleyMassLaw")
    (hk : ∀ (k : Nat) (e : sm_E), me.1[k]? = some e → sm_ckE own bytes me.1 ret k e = true) (h0 : ∃ e0 : sm_E, me.1[0]? = some e0 ∧ e0.2.1 = 0) (h1 : hh ≠ []) (h2 : me.2.2.1 ≠ []) (hb : sm_hB bytes me hh = true) : sm_mok sm_Ts sm_P sm_N me nm bytes ret hh := by
  have hall : ∀ (pc : Nat) (e0 : sm_E), me.1[pc]? = some e0 → sm_isnew e0.1 = false ∧ ∀ n h j, n ≤ 1 → sm_hd me.2.2.1 pc n = some (h, j) → sm_hfB bytes me.1 me.2.2.2 n h j e0.2.1 (tableOf hh) = true := by
    intro pc e0 hpc
    have h3 := List.all_eq_true.mp hb pc (List.mem_range.mpr (List.getElem?_eq_some_iff.mp hpc).1)
    rw [hpc] at h3
    simp only [Bool.and_eq_true, Bool.not_eq_true', List.all_eq_true] at h3
    refine ⟨h3.1, fun n h j hn hd => ?_⟩
    have h4 := h3.2 n (by rcases (show n = 0 ∨ n = 1 by omega) with rfl | rfl <;> simp)
    rw [hd] at h4
    exact h4
  refine ⟨hp, fun pc e0 h => ?_, h0, Or.inr ⟨h1, h2, fun pc e0 ik h he => ?_, fun pc e0 n h j hpc hn hd => ?_⟩⟩
  · rw [ho.1, ← ho.2]
    exact sm_ckE_of (hk pc e0 h)
  · have := (hall pc e0 h).1
    rw [he] at this
    cases this
  · rw [ho.1]
    exact sm_hfB_of hn ((hall pc e0 hpc).2 n h j hn hd)
theorem sm_mo_0 : sm_mok sm_Ts sm_P sm_N me_0 ⟨"ValleyMass$Choir", "fewestMoves", "(LValleyMass$Valley;II)I"⟩ prog_2_method_2_code (some .int) [] := sm_mok_plain (own := 0) (by decide +kernel) rfl rfl (sm_ckP_all sm_k_0 (by decide +kernel)) ⟨_, rfl, rfl⟩
theorem sm_mo_1 : sm_mok sm_Ts sm_P sm_N me_1 ⟨"ValleyMass$Choir", "rowMoves", "(LValleyMass$Valley;II)I"⟩ prog_2_method_3_code (some .int) [] := sm_mok_plain (own := 0) (by decide +kernel) rfl rfl (sm_ckP_all sm_k_1 (by decide +kernel)) ⟨_, rfl, rfl⟩
theorem sm_mo_2 : sm_mok sm_Ts sm_P sm_N me_2 ⟨"ValleyMass$Choir", "movesInto", "(LValleyMass$Valley;III)I"⟩ prog_2_method_4_code (some .int) [] := sm_mok_plain (own := 0) (by decide +kernel) rfl rfl (sm_ckP_all sm_k_2 (by decide +kernel)) ⟨_, rfl, rfl⟩
theorem sm_mo_3 : sm_mok sm_Ts sm_P sm_N me_3 ⟨"ValleyMass$Choir", "within", "(III)Z"⟩ prog_2_method_5_code (some .boolean) [] := sm_mok_plain (own := 0) (by decide +kernel) rfl rfl (sm_ckP_all sm_k_3 (by decide +kernel)) ⟨_, rfl, rfl⟩
theorem sm_mo_4 : sm_mok sm_Ts sm_P sm_N me_4 ⟨"ValleyMass$Choir", "sparable", "(LValleyMass$Valley;II)I"⟩ prog_2_method_6_code (some .int) [] := sm_mok_plain (own := 0) (by decide +kernel) rfl rfl (sm_ckP_all sm_k_4 (by decide +kernel)) ⟨_, rfl, rfl⟩
theorem sm_mo_5 : sm_mok sm_Ts sm_P sm_N me_5 ⟨"ValleyMass$Choir", "keySingers", "(LValleyMass$Valley;I)I"⟩ prog_2_method_7_code (some .int) [] := sm_mok_plain (own := 0) (by decide +kernel) rfl rfl (sm_ckP_all sm_k_5 (by decide +kernel)) ⟨_, rfl, rfl⟩
theorem sm_mo_6 : sm_mok sm_Ts sm_P sm_N me_6 ⟨"ValleyMass$Choir", "ransomed", "(LValleyMass$Valley;LValleyMass$State;I)I"⟩ prog_2_method_8_code (some .int) [] := sm_mok_plain (own := 0) (by decide +kernel) rfl rfl (sm_ckP_all sm_k_6 (by decide +kernel)) ⟨_, rfl, rfl⟩
theorem sm_mo_7 : sm_mok sm_Ts sm_P sm_N me_7 ⟨"ValleyMass$Choir", "bestExchange", "(LValleyMass$Valley;LValleyMass$State;)I"⟩ prog_2_method_9_code (some .int) [] := sm_mok_plain (own := 0) (by decide +kernel) rfl rfl (sm_ckP_all sm_k_7 (by decide +kernel)) ⟨_, rfl, rfl⟩
theorem sm_mo_8 : sm_mok sm_Ts sm_P sm_N me_8 ⟨"ValleyMass$Choir", "together", "(LValleyMass$Valley;II)Z"⟩ prog_2_method_10_code (some .boolean) [] := sm_mok_plain (own := 0) (by decide +kernel) rfl rfl (sm_ckP_all sm_k_8 (by decide +kernel)) ⟨_, rfl, rfl⟩
theorem sm_mo_9 : sm_mok sm_Ts sm_P sm_N me_9 ⟨"ValleyMass$Choir", "enoughFor", "(LValleyMass$Valley;II)Z"⟩ prog_2_method_11_code (some .boolean) [] := sm_mok_plain (own := 0) (by decide +kernel) rfl rfl (sm_ckP_all sm_k_9 (by decide +kernel)) ⟨_, rfl, rfl⟩
theorem sm_mo_10 : sm_mok sm_Ts sm_P sm_N me_10 ⟨"ValleyMass$Choir", "bestCast", "(LValleyMass$Valley;II)I"⟩ prog_2_method_12_code (some .int) [] := sm_mok_plain (own := 0) (by decide +kernel) rfl rfl (sm_ckP_all sm_k_10 (by decide +kernel)) ⟨_, rfl, rfl⟩
theorem sm_mo_11 : sm_mok sm_Ts sm_P sm_N me_11 ⟨"ValleyMass$Choir", "mostSkilled", "(LValleyMass$Valley;I)I"⟩ prog_2_method_13_code (some .int) [] := sm_mok_plain (own := 0) (by decide +kernel) rfl rfl (sm_ckP_all sm_k_11 (by decide +kernel)) ⟨_, rfl, rfl⟩
theorem sm_mo_12 : sm_mok sm_Ts sm_P sm_N me_12 ⟨"ValleyMass$Choir", "countCasts", "(LValleyMass$Valley;II)J"⟩ prog_2_method_14_code (some .long) [] := sm_mok_plain (own := 0) (by decide +kernel) rfl rfl (sm_ckP_all sm_k_12 (by decide +kernel)) ⟨_, rfl, rfl⟩
theorem sm_mo_13 : sm_mok sm_Ts sm_P sm_N me_13 ⟨"ValleyMass$Choir", "canBeSungAt", "(LValleyMass$Valley;III)Z"⟩ prog_2_method_15_code (some .boolean) [] := sm_mok_plain (own := 0) (by decide +kernel) rfl rfl (sm_ckP_all sm_k_13 (by decide +kernel)) ⟨_, rfl, rfl⟩
theorem sm_mo_14 : sm_mok sm_Ts sm_P sm_N me_14 ⟨"ValleyMass$Choir", "rowLackingOne", "(LValleyMass$Valley;II)I"⟩ prog_2_method_16_code (some .int) [] := sm_mok_plain (own := 0) (by decide +kernel) rfl rfl (sm_ckP_all sm_k_14 (by decide +kernel)) ⟨_, rfl, rfl⟩
theorem sm_mo_15 : sm_mok sm_Ts sm_P sm_N me_15 ⟨"ValleyMass$Choir", "easiestToWiden", "(LValleyMass$Valley;II)I"⟩ prog_2_method_17_code (some .int) [] := sm_mok_plain (own := 0) (by decide +kernel) rfl rfl (sm_ckP_all sm_k_15 (by decide +kernel)) ⟨_, rfl, rfl⟩
theorem sm_mo_16 : sm_mok sm_Ts sm_P sm_N me_16 ⟨"ValleyMass$Choir", "setsOutlived", "(LValleyMass$Valley;III[I)J"⟩ prog_2_method_18_code (some .long) [] := sm_mok_plain (own := 0) (by decide +kernel) rfl rfl (sm_ckP_all sm_k_16 (by decide +kernel)) ⟨_, rfl, rfl⟩
theorem sm_mo_17 : sm_mok sm_Ts sm_P sm_N me_17 ⟨"ValleyMass$Choir", "multiply", "([III)V"⟩ prog_2_method_19_code (none) [] := sm_mok_plain (own := 0) (by decide +kernel) rfl rfl (sm_ckP_all sm_k_17 (by decide +kernel)) ⟨_, rfl, rfl⟩
theorem sm_mo_18 : sm_mok sm_Ts sm_P sm_N me_18 ⟨"ValleyMass$Chronicle", "begin", "(I)V"⟩ prog_3_method_2_code (none) [] := sm_mok_plain (own := 1) (by decide +kernel) rfl rfl (sm_ckP_all sm_k_18 (by decide +kernel)) ⟨_, rfl, rfl⟩
theorem sm_mo_19 : sm_mok sm_Ts sm_P sm_N me_19 ⟨"ValleyMass$Chronicle", "copyFrom", "(LValleyMass$Chronicle;)V"⟩ prog_3_method_3_code (none) [] := sm_mok_plain (own := 1) (by decide +kernel) rfl rfl (sm_ckP_all sm_k_19 (by decide +kernel)) ⟨_, rfl, rfl⟩
theorem sm_mo_20 : sm_mok sm_Ts sm_P sm_N me_20 ⟨"ValleyMass$Chronicle", "keepAct", "()V"⟩ prog_3_method_4_code (none) [] := sm_mok_plain (own := 1) (by decide +kernel) rfl rfl (sm_ckP_all sm_k_20 (by decide +kernel)) ⟨_, rfl, rfl⟩
theorem sm_mo_21 : sm_mok sm_Ts sm_P sm_N me_21 ⟨"ValleyMass$Chronicle", "takeBack", "()V"⟩ prog_3_method_5_code (none) [] := sm_mok_plain (own := 1) (by decide +kernel) rfl rfl (sm_ckP_all sm_k_21 (by decide +kernel)) ⟨_, rfl, rfl⟩
theorem sm_mo_22 : sm_mok sm_Ts sm_P sm_N me_22 ⟨"ValleyMass$Chronicle", "addHeard", "(III)V"⟩ prog_3_method_6_code (none) [] := sm_mok_plain (own := 1) (by decide +kernel) rfl rfl (sm_ckP_all sm_k_22 (by decide +kernel)) ⟨_, rfl, rfl⟩
theorem sm_mo_23 : sm_mok sm_Ts sm_P sm_N me_23 ⟨"ValleyMass$Counting", "choose", "(II)J"⟩ prog_4_method_2_code (some .long) [] := sm_mok_plain (own := 2) (by decide +kernel) rfl rfl (sm_ckP_all sm_k_23 (by decide +kernel)) ⟨_, rfl, rfl⟩
theorem sm_mo_24 : sm_mok sm_Ts sm_P sm_N me_24 ⟨"ValleyMass$Counting", "slipWays", "(II)J"⟩ prog_4_method_3_code (some .long) [] := sm_mok_plain (own := 2) (by decide +kernel) rfl rfl (sm_ckP_all sm_k_24 (by decide +kernel)) ⟨_, rfl, rfl⟩
theorem sm_mo_25 : sm_mok sm_Ts sm_P sm_N me_25 ⟨"ValleyMass$Counting", "commonDivisor", "(JJ)J"⟩ prog_4_method_4_code (some .long) [] := sm_mok_plain (own := 2) (by decide +kernel) rfl rfl (sm_ckP_all sm_k_25 (by decide +kernel)) ⟨_, rfl, rfl⟩
theorem sm_mo_26 : sm_mok sm_Ts sm_P sm_N me_26 ⟨"ValleyMass$Reader", "read", "(ILValleyMass$Valley;)I"⟩ prog_5_method_2_code (some .int) [] := sm_mok_plain (own := 3) (by decide +kernel) rfl rfl (sm_ckP_all sm_k_26 (by decide +kernel)) ⟨_, rfl, rfl⟩
theorem sm_mo_27 : sm_mok sm_Ts sm_P sm_N me_27 ⟨"ValleyMass$Reader", "place", "()I"⟩ prog_5_method_3_code (some .int) [] := sm_mok_plain (own := 3) (by decide +kernel) rfl rfl (sm_ckP_all sm_k_27 (by decide +kernel)) ⟨_, rfl, rfl⟩
theorem sm_mo_28 : sm_mok sm_Ts sm_P sm_N me_28 ⟨"ValleyMass$Reader", "fail", "(I)Z"⟩ prog_5_method_4_code (some .boolean) [] := sm_mok_plain (own := 3) (by decide +kernel) rfl rfl (sm_ckP_all sm_k_28 (by decide +kernel)) ⟨_, rfl, rfl⟩
theorem sm_mo_29 : sm_mok sm_Ts sm_P sm_N me_29 ⟨"ValleyMass$Reader", "step", "()V"⟩ prog_5_method_5_code (none) [] := sm_mok_plain (own := 3) (by decide +kernel) rfl rfl (sm_ckP_all sm_k_29 (by decide +kernel)) ⟨_, rfl, rfl⟩
theorem sm_mo_30 : sm_mok sm_Ts sm_P sm_N me_30 ⟨"ValleyMass$Reader", "atSign", "(C)Z"⟩ prog_5_method_6_code (some .boolean) [] := sm_mok_plain (own := 3) (by decide +kernel) rfl rfl (sm_ckP_all sm_k_30 (by decide +kernel)) ⟨_, rfl, rfl⟩
theorem sm_mo_31 : sm_mok sm_Ts sm_P sm_N me_31 ⟨"ValleyMass$Reader", "atNumber", "()Z"⟩ prog_5_method_7_code (some .boolean) [] := sm_mok_plain (own := 3) (by decide +kernel) rfl rfl (sm_ckP_all sm_k_31 (by decide +kernel)) ⟨_, rfl, rfl⟩
theorem sm_mo_32 : sm_mok sm_Ts sm_P sm_N me_32 ⟨"ValleyMass$Reader", "atWord", "()Z"⟩ prog_5_method_8_code (some .boolean) [] := sm_mok_plain (own := 3) (by decide +kernel) rfl rfl (sm_ckP_all sm_k_32 (by decide +kernel)) ⟨_, rfl, rfl⟩
theorem sm_mo_33 : sm_mok sm_Ts sm_P sm_N me_33 ⟨"ValleyMass$Reader", "atPart", "()Z"⟩ prog_5_method_9_code (some .boolean) [] := sm_mok_plain (own := 3) (by decide +kernel) rfl rfl (sm_ckP_all sm_k_33 (by decide +kernel)) ⟨_, rfl, rfl⟩
theorem sm_mo_34 : sm_mok sm_Ts sm_P sm_N me_34 ⟨"ValleyMass$Reader", "readLine", "(LValleyMass$Valley;)Z"⟩ prog_5_method_10_code (some .boolean) [] := sm_mok_plain (own := 3) (by decide +kernel) rfl rfl (sm_ckP_all sm_k_34 (by decide +kernel)) ⟨_, rfl, rfl⟩
theorem sm_mo_35 : sm_mok sm_Ts sm_P sm_N me_35 ⟨"ValleyMass$Reader", "readSign", "(C)Z"⟩ prog_5_method_11_code (some .boolean) [] := sm_mok_plain (own := 3) (by decide +kernel) rfl rfl (sm_ckP_all sm_k_35 (by decide +kernel)) ⟨_, rfl, rfl⟩
theorem sm_mo_36 : sm_mok sm_Ts sm_P sm_N me_36 ⟨"ValleyMass$Reader", "readNumber", "(II)Z"⟩ prog_5_method_12_code (some .boolean) [] := sm_mok_plain (own := 3) (by decide +kernel) rfl rfl (sm_ckP_all sm_k_36 (by decide +kernel)) ⟨_, rfl, rfl⟩
theorem sm_mo_37 : sm_mok sm_Ts sm_P sm_N me_37 ⟨"ValleyMass$Reader", "readSinger", "(LValleyMass$Valley;)Z"⟩ prog_5_method_13_code (some .boolean) [] := sm_mok_plain (own := 3) (by decide +kernel) rfl rfl (sm_ckP_all sm_k_37 (by decide +kernel)) ⟨_, rfl, rfl⟩
theorem sm_mo_38 : sm_mok sm_Ts sm_P sm_N me_38 ⟨"ValleyMass$Reader", "readPiece", "(LValleyMass$Valley;)Z"⟩ prog_5_method_14_code (some .boolean) [] := sm_mok_plain (own := 3) (by decide +kernel) rfl rfl (sm_ckP_all sm_k_38 (by decide +kernel)) ⟨_, rfl, rfl⟩
theorem sm_mo_39 : sm_mok sm_Ts sm_P sm_N me_39 ⟨"ValleyMass$Reader", "readRow", "(LValleyMass$Valley;)Z"⟩ prog_5_method_15_code (some .boolean) [] := sm_mok_plain (own := 3) (by decide +kernel) rfl rfl (sm_ckP_all sm_k_39 (by decide +kernel)) ⟨_, rfl, rfl⟩
theorem sm_mo_40 : sm_mok sm_Ts sm_P sm_N me_40 ⟨"ValleyMass$Reader", "readEvery", "(LValleyMass$Valley;)Z"⟩ prog_5_method_16_code (some .boolean) [] := sm_mok_plain (own := 3) (by decide +kernel) rfl rfl (sm_ckP_all sm_k_40 (by decide +kernel)) ⟨_, rfl, rfl⟩
theorem sm_mo_41 : sm_mok sm_Ts sm_P sm_N me_41 ⟨"ValleyMass$Reader", "readRule", "(LValleyMass$Rules;I)Z"⟩ prog_5_method_17_code (some .boolean) [] := sm_mok_plain (own := 3) (by decide +kernel) rfl rfl (sm_ckP_all sm_k_41 (by decide +kernel)) ⟨_, rfl, rfl⟩
theorem sm_mo_42 : sm_mok sm_Ts sm_P sm_N me_42 ⟨"ValleyMass$Reader", "readExpr", "(LValleyMass$Rules;I)Z"⟩ prog_5_method_18_code (some .boolean) [] := sm_mok_plain (own := 3) (by decide +kernel) rfl rfl (sm_ckP_all sm_k_42 (by decide +kernel)) ⟨_, rfl, rfl⟩
theorem sm_mo_43 : sm_mok sm_Ts sm_P sm_N me_43 ⟨"ValleyMass$Reader", "readAnd", "(LValleyMass$Rules;I)Z"⟩ prog_5_method_19_code (some .boolean) [] := sm_mok_plain (own := 3) (by decide +kernel) rfl rfl (sm_ckP_all sm_k_43 (by decide +kernel)) ⟨_, rfl, rfl⟩
theorem sm_mo_44 : sm_mok sm_Ts sm_P sm_N me_44 ⟨"ValleyMass$Reader", "readNot", "(LValleyMass$Rules;I)Z"⟩ prog_5_method_20_code (some .boolean) [] := sm_mok_plain (own := 3) (by decide +kernel) rfl rfl (sm_ckP_all sm_k_44 (by decide +kernel)) ⟨_, rfl, rfl⟩
theorem sm_mo_45 : sm_mok sm_Ts sm_P sm_N me_45 ⟨"ValleyMass$Reader", "readTest", "(LValleyMass$Rules;I)Z"⟩ prog_5_method_21_code (some .boolean) [] := sm_mok_plain (own := 3) (by decide +kernel) rfl rfl (sm_ckP_all sm_k_45 (by decide +kernel)) ⟨_, rfl, rfl⟩
theorem sm_mo_46 : sm_mok sm_Ts sm_P sm_N me_46 ⟨"ValleyMass$Reader", "readSum", "(LValleyMass$Rules;I)Z"⟩ prog_5_method_22_code (some .boolean) [] := sm_mok_plain (own := 3) (by decide +kernel) rfl rfl (sm_ckP_all sm_k_46 (by decide +kernel)) ⟨_, rfl, rfl⟩
theorem sm_mo_47 : sm_mok sm_Ts sm_P sm_N me_47 ⟨"ValleyMass$Reader", "readProduct", "(LValleyMass$Rules;I)Z"⟩ prog_5_method_23_code (some .boolean) [] := sm_mok_plain (own := 3) (by decide +kernel) rfl rfl (sm_ckP_all sm_k_47 (by decide +kernel)) ⟨_, rfl, rfl⟩
theorem sm_mo_48 : sm_mok sm_Ts sm_P sm_N me_48 ⟨"ValleyMass$Reader", "readTerm", "(LValleyMass$Rules;I)Z"⟩ prog_5_method_24_code (some .boolean) [] := sm_mok_plain (own := 3) (by decide +kernel) rfl rfl (sm_ckP_all sm_k_48 (by decide +kernel)) ⟨_, rfl, rfl⟩
theorem sm_mo_49 : sm_mok sm_Ts sm_P sm_N me_49 ⟨"ValleyMass$Rules", "clear", "()V"⟩ prog_6_method_2_code (none) [] := sm_mok_plain (own := 4) (by decide +kernel) rfl rfl (sm_ckP_all sm_k_49 (by decide +kernel)) ⟨_, rfl, rfl⟩
theorem sm_mo_50 : sm_mok sm_Ts sm_P sm_N me_50 ⟨"ValleyMass$Rules", "open", "(I)V"⟩ prog_6_method_3_code (none) [] := sm_mok_plain (own := 4) (by decide +kernel) rfl rfl (sm_ckP_all sm_k_50 (by decide +kernel)) ⟨_, rfl, rfl⟩
theorem sm_mo_51 : sm_mok sm_Ts sm_P sm_N me_51 ⟨"ValleyMass$Rules", "close", "(I)V"⟩ prog_6_method_4_code (none) [] := sm_mok_plain (own := 4) (by decide +kernel) rfl rfl (sm_ckP_all sm_k_51 (by decide +kernel)) ⟨_, rfl, rfl⟩
theorem sm_mo_52 : sm_mok sm_Ts sm_P sm_N me_52 ⟨"ValleyMass$Rules", "add", "(I)V"⟩ prog_6_method_5_code (none) [] := sm_mok_plain (own := 4) (by decide +kernel) rfl rfl (sm_ckP_all sm_k_52 (by decide +kernel)) ⟨_, rfl, rfl⟩
theorem sm_mo_53 : sm_mok sm_Ts sm_P sm_N me_53 ⟨"ValleyMass$Rules", "has", "(I)Z"⟩ prog_6_method_6_code (some .boolean) [] := sm_mok_plain (own := 4) (by decide +kernel) rfl rfl (sm_ckP_all sm_k_53 (by decide +kernel)) ⟨_, rfl, rfl⟩
theorem sm_mo_54 : sm_mok sm_Ts sm_P sm_N me_54 ⟨"ValleyMass$Rules", "result", "(I)I"⟩ prog_6_method_7_code (some .int) [] := sm_mok_plain (own := 4) (by decide +kernel) rfl rfl (sm_ckP_all sm_k_54 (by decide +kernel)) ⟨_, rfl, rfl⟩
theorem sm_mo_55 : sm_mok sm_Ts sm_P sm_N me_55 ⟨"ValleyMass$Rules", "operand", "(I)I"⟩ prog_6_method_8_code (some .int) [] := sm_mok_plain (own := 4) (by decide +kernel) rfl rfl (sm_ckP_all sm_k_55 (by decide +kernel)) ⟨_, rfl, rfl⟩
theorem sm_mo_56 : sm_mok sm_Ts sm_P sm_N me_56 ⟨"ValleyMass$Rules", "apply", "(III)I"⟩ prog_6_method_9_code (some .int) [] := sm_mok_plain (own := 4) (by decide +kernel) rfl rfl (sm_ckP_all sm_k_56 (by decide +kernel)) ⟨_, rfl, rfl⟩
theorem sm_mo_57 : sm_mok sm_Ts sm_P sm_N me_57 ⟨"ValleyMass$State", "begin", "(I)V"⟩ prog_7_method_2_code (none) [] := sm_mok_plain (own := 5) (by decide +kernel) rfl rfl (sm_ckP_all sm_k_57 (by decide +kernel)) ⟨_, rfl, rfl⟩
theorem sm_mo_58 : sm_mok sm_Ts sm_P sm_N me_58 ⟨"ValleyMass$State", "copyFrom", "(LValleyMass$State;)V"⟩ prog_7_method_3_code (none) [] := sm_mok_plain (own := 5) (by decide +kernel) rfl rfl (sm_ckP_all sm_k_58 (by decide +kernel)) ⟨_, rfl, rfl⟩
theorem sm_mo_59 : sm_mok sm_Ts sm_P sm_N me_59 ⟨"ValleyMass$State", "writeTo", "([II)V"⟩ prog_7_method_4_code (none) [] := sm_mok_plain (own := 5) (by decide +kernel) rfl rfl (sm_ckP_all sm_k_59 (by decide +kernel)) ⟨_, rfl, rfl⟩
theorem sm_mo_60 : sm_mok sm_Ts sm_P sm_N me_60 ⟨"ValleyMass$State", "readFrom", "([II)V"⟩ prog_7_method_5_code (none) [] := sm_mok_plain (own := 5) (by decide +kernel) rfl rfl (sm_ckP_all sm_k_60 (by decide +kernel)) ⟨_, rfl, rfl⟩
theorem sm_mo_61 : sm_mok sm_Ts sm_P sm_N me_61 ⟨"ValleyMass$State", "howIs", "(I)I"⟩ prog_7_method_6_code (some .int) [] := sm_mok_plain (own := 5) (by decide +kernel) rfl rfl (sm_ckP_all sm_k_61 (by decide +kernel)) ⟨_, rfl, rfl⟩
theorem sm_mo_62 : sm_mok sm_Ts sm_P sm_N me_62 ⟨"ValleyMass$State", "fell", "(I)V"⟩ prog_7_method_7_code (none) [] := sm_mok_plain (own := 5) (by decide +kernel) rfl rfl (sm_ckP_all sm_k_62 (by decide +kernel)) ⟨_, rfl, rfl⟩
theorem sm_mo_63 : sm_mok sm_Ts sm_P sm_N me_63 ⟨"ValleyMass$State", "seize", "(I)V"⟩ prog_7_method_8_code (none) [] := sm_mok_plain (own := 5) (by decide +kernel) rfl rfl (sm_ckP_all sm_k_63 (by decide +kernel)) ⟨_, rfl, rfl⟩
theorem sm_mo_64 : sm_mok sm_Ts sm_P sm_N me_64 ⟨"ValleyMass$State", "letGo", "(I)V"⟩ prog_7_method_9_code (none) [] := sm_mok_plain (own := 5) (by decide +kernel) rfl rfl (sm_ckP_all sm_k_64 (by decide +kernel)) ⟨_, rfl, rfl⟩
theorem sm_mo_65 : sm_mok sm_Ts sm_P sm_N me_65 ⟨"ValleyMass$State", "turn", "(I)V"⟩ prog_7_method_10_code (none) [] := sm_mok_plain (own := 5) (by decide +kernel) rfl rfl (sm_ckP_all sm_k_65 (by decide +kernel)) ⟨_, rfl, rfl⟩
theorem sm_mo_66 : sm_mok sm_Ts sm_P sm_N me_66 ⟨"ValleyMass$Tape", "put", "(I)V"⟩ prog_8_method_2_code (none) [] := sm_mok_plain (own := 6) (by decide +kernel) rfl rfl (sm_ckP_all sm_k_66 (by decide +kernel)) ⟨_, rfl, rfl⟩
theorem sm_mo_67 : sm_mok sm_Ts sm_P sm_N me_67 ⟨"ValleyMass$Tape", "kindOf", "(I)I"⟩ prog_8_method_3_code (some .int) [] := sm_mok_plain (own := 6) (by decide +kernel) rfl rfl (sm_ckP_all sm_k_67 (by decide +kernel)) ⟨_, rfl, rfl⟩
theorem sm_mo_68 : sm_mok sm_Ts sm_P sm_N me_68 ⟨"ValleyMass$Tape", "placeOf", "(I)I"⟩ prog_8_method_4_code (some .int) [] := sm_mok_plain (own := 6) (by decide +kernel) rfl rfl (sm_ckP_all sm_k_68 (by decide +kernel)) ⟨_, rfl, rfl⟩
theorem sm_mo_69 : sm_mok sm_Ts sm_P sm_N me_69 ⟨"ValleyMass$Tape", "scan", "(I)V"⟩ prog_8_method_5_code (none) [] := sm_mok_plain (own := 6) (by decide +kernel) rfl rfl (sm_ckP_all sm_k_69 (by decide +kernel)) ⟨_, rfl, rfl⟩
theorem sm_mo_70 : sm_mok sm_Ts sm_P sm_N me_70 ⟨"ValleyMass$Tape", "keep", "(II)V"⟩ prog_8_method_6_code (none) [] := sm_mok_plain (own := 6) (by decide +kernel) rfl rfl (sm_ckP_all sm_k_70 (by decide +kernel)) ⟨_, rfl, rfl⟩
theorem sm_mo_71 : sm_mok sm_Ts sm_P sm_N me_71 ⟨"ValleyMass$Tape", "byteAt", "(I)I"⟩ prog_8_method_7_code (some .int) [] := sm_mok_plain (own := 6) (by decide +kernel) rfl rfl (sm_ckP_all sm_k_71 (by decide +kernel)) ⟨_, rfl, rfl⟩
theorem sm_mo_72 : sm_mok sm_Ts sm_P sm_N me_72 ⟨"ValleyMass$Tape", "isLetter", "(I)Z"⟩ prog_8_method_8_code (some .boolean) [] := sm_mok_plain (own := 6) (by decide +kernel) rfl rfl (sm_ckP_all sm_k_72 (by decide +kernel)) ⟨_, rfl, rfl⟩
theorem sm_mo_73 : sm_mok sm_Ts sm_P sm_N me_73 ⟨"ValleyMass$Tape", "isDigit", "(I)Z"⟩ prog_8_method_9_code (some .boolean) [] := sm_mok_plain (own := 6) (by decide +kernel) rfl rfl (sm_ckP_all sm_k_73 (by decide +kernel)) ⟨_, rfl, rfl⟩
theorem sm_mo_74 : sm_mok sm_Ts sm_P sm_N me_74 ⟨"ValleyMass$Tape", "endOfToken", "(I)I"⟩ prog_8_method_10_code (some .int) [] := sm_mok_plain (own := 6) (by decide +kernel) rfl rfl (sm_ckP_all sm_k_74 (by decide +kernel)) ⟨_, rfl, rfl⟩
theorem sm_mo_75 : sm_mok sm_Ts sm_P sm_N me_75 ⟨"ValleyMass$Tape", "kindBetween", "(II)I"⟩ prog_8_method_11_code (some .int) [] := sm_mok_plain (own := 6) (by decide +kernel) rfl rfl (sm_ckP_all sm_k_75 (by decide +kernel)) ⟨_, rfl, rfl⟩
theorem sm_mo_76 : sm_mok sm_Ts sm_P sm_N me_76 ⟨"ValleyMass$Tape", "numberBetween", "(II)I"⟩ prog_8_method_12_code (some .int) [] := sm_mok_plain (own := 6) (by decide +kernel) rfl rfl (sm_ckP_all sm_k_76 (by decide +kernel)) ⟨_, rfl, rfl⟩
theorem sm_mo_77 : sm_mok sm_Ts sm_P sm_N me_77 ⟨"ValleyMass$Tape", "wordBetween", "(II)I"⟩ prog_8_method_13_code (some .int) [] := sm_mok_plain (own := 6) (by decide +kernel) rfl rfl (sm_ckP_all sm_k_77 (by decide +kernel)) ⟨_, rfl, rfl⟩
theorem sm_mo_78 : sm_mok sm_Ts sm_P sm_N me_78 ⟨"ValleyMass$Tape", "sameLetters", "(III)Z"⟩ prog_8_method_14_code (some .boolean) [] := sm_mok_plain (own := 6) (by decide +kernel) rfl rfl (sm_ckP_all sm_k_78 (by decide +kernel)) ⟨_, rfl, rfl⟩
theorem sm_mo_79 : sm_mok sm_Ts sm_P sm_N me_79 ⟨"ValleyMass$Valley", "clear", "()V"⟩ prog_9_method_2_code (none) [] := sm_mok_plain (own := 7) (by decide +kernel) rfl rfl (sm_ckP_all sm_k_79 (by decide +kernel)) ⟨_, rfl, rfl⟩
theorem sm_mo_80 : sm_mok sm_Ts sm_P sm_N me_80 ⟨"ValleyMass$Valley", "settle", "()V"⟩ prog_9_method_3_code (none) [] := sm_mok_plain (own := 7) (by decide +kernel) rfl rfl (sm_ckP_all sm_k_80 (by decide +kernel)) ⟨_, rfl, rfl⟩
theorem sm_mo_81 : sm_mok sm_Ts sm_P sm_N me_81 ⟨"ValleyMass$Valley", "withValue", "([II)I"⟩ prog_9_method_4_code (some .int) [] := sm_mok_plain (own := 7) (by decide +kernel) rfl rfl (sm_ckP_all sm_k_81 (by decide +kernel)) ⟨_, rfl, rfl⟩
theorem sm_mo_82 : sm_mok sm_Ts sm_P sm_N me_82 ⟨"ValleyMass$Valley", "spanRow", "(I)V"⟩ prog_9_method_5_code (none) [] := sm_mok_plain (own := 7) (by decide +kernel) rfl rfl (sm_ckP_all sm_k_82 (by decide +kernel)) ⟨_, rfl, rfl⟩
theorem sm_mo_83 : sm_mok sm_Ts sm_P sm_N me_83 ⟨"ValleyMass$Valley", "ofSide", "(I)I"⟩ prog_9_method_6_code (some .int) [] := sm_mok_plain (own := 7) (by decide +kernel) rfl rfl (sm_ckP_all sm_k_83 (by decide +kernel)) ⟨_, rfl, rfl⟩
theorem sm_mo_84 : sm_mok sm_Ts sm_P sm_N me_84 ⟨"ValleyMass$Valley", "ofPart", "(I)I"⟩ prog_9_method_7_code (some .int) [] := sm_mok_plain (own := 7) (by decide +kernel) rfl rfl (sm_ckP_all sm_k_84 (by decide +kernel)) ⟨_, rfl, rfl⟩
theorem sm_mo_85 : sm_mok sm_Ts sm_P sm_N me_85 ⟨"ValleyMass$Valley", "reaching", "(III)I"⟩ prog_9_method_8_code (some .int) [] := sm_mok_plain (own := 7) (by decide +kernel) rfl rfl (sm_ckP_all sm_k_85 (by decide +kernel)) ⟨_, rfl, rfl⟩
theorem sm_mo_86 : sm_mok sm_Ts sm_P sm_N me_86 ⟨"ValleyMass$Valley", "skillsOf", "(I)I"⟩ prog_9_method_9_code (some .int) [] := sm_mok_plain (own := 7) (by decide +kernel) rfl rfl (sm_ckP_all sm_k_86 (by decide +kernel)) ⟨_, rfl, rfl⟩
theorem sm_mo_87 : sm_mok sm_Ts sm_P sm_N me_87 ⟨"ValleyMass$Valley", "notesIn", "(I)I"⟩ prog_9_method_10_code (some .int) [] := sm_mok_plain (own := 7) (by decide +kernel) rfl rfl (sm_ckP_all sm_k_87 (by decide +kernel)) ⟨_, rfl, rfl⟩
theorem sm_mo_88 : sm_mok sm_Ts sm_P sm_N me_88 ⟨"ValleyMass$Valley", "canBeSung", "(II)Z"⟩ prog_9_method_11_code (some .boolean) [] := sm_mok_plain (own := 7) (by decide +kernel) rfl rfl (sm_ckP_all sm_k_88 (by decide +kernel)) ⟨_, rfl, rfl⟩
theorem sm_mo_89 : sm_mok sm_Ts sm_P sm_N me_89 ⟨"ValleyMass$Valley", "singable", "(I)I"⟩ prog_9_method_12_code (some .int) [] := sm_mok_plain (own := 7) (by decide +kernel) rfl rfl (sm_ckP_all sm_k_89 (by decide +kernel)) ⟨_, rfl, rfl⟩
theorem sm_mo_90 : sm_mok sm_Ts sm_P sm_N me_90 ⟨"ValleyMass$Valley", "lackingIn", "(II)I"⟩ prog_9_method_13_code (some .int) [] := sm_mok_plain (own := 7) (by decide +kernel) rfl rfl (sm_ckP_all sm_k_90 (by decide +kernel)) ⟨_, rfl, rfl⟩
theorem sm_mo_91 : sm_mok sm_Ts sm_P sm_N me_91 ⟨"ValleyMass$Valley", "stretch", "(II)I"⟩ prog_9_method_14_code (some .int) [] := sm_mok_plain (own := 7) (by decide +kernel) rfl rfl (sm_ckP_all sm_k_91 (by decide +kernel)) ⟨_, rfl, rfl⟩
theorem sm_mo_92 : sm_mok sm_Ts sm_P sm_N me_92 ⟨"ValleyMass$Valley", "isEvening", "(I)Z"⟩ prog_9_method_15_code (some .boolean) [] := sm_mok_plain (own := 7) (by decide +kernel) rfl rfl (sm_ckP_all sm_k_92 (by decide +kernel)) ⟨_, rfl, rfl⟩
theorem sm_mo_93 : sm_mok sm_Ts sm_P sm_N me_93 ⟨"ValleyMass$War", "holdsFire", "(LValleyMass$Valley;LValleyMass$State;I)Z"⟩ prog_10_method_2_code (some .boolean) [] := sm_mok_plain (own := 8) (by decide +kernel) rfl rfl (sm_ckP_all sm_k_93 (by decide +kernel)) ⟨_, rfl, rfl⟩
theorem sm_mo_94 : sm_mok sm_Ts sm_P sm_N me_94 ⟨"ValleyMass$War", "target", "(LValleyMass$Valley;LValleyMass$State;I)I"⟩ prog_10_method_3_code (some .int) [] := sm_mok_plain (own := 8) (by decide +kernel) rfl rfl (sm_ckP_all sm_k_94 (by decide +kernel)) ⟨_, rfl, rfl⟩
theorem sm_mo_95 : sm_mok sm_Ts sm_P sm_N me_95 ⟨"ValleyMass$War", "worthOf", "(LValleyMass$Valley;LValleyMass$State;II)I"⟩ prog_10_method_4_code (some .int) [] := sm_mok_plain (own := 8) (by decide +kernel) rfl rfl (sm_ckP_all sm_k_95 (by decide +kernel)) ⟨_, rfl, rfl⟩
theorem sm_mo_96 : sm_mok sm_Ts sm_P sm_N me_96 ⟨"ValleyMass$War", "bitOf", "(I)I"⟩ prog_10_method_5_code (some .int) [] := sm_mok_plain (own := 8) (by decide +kernel) rfl rfl (sm_ckP_all sm_k_96 (by decide +kernel)) ⟨_, rfl, rfl⟩
theorem sm_mo_97 : sm_mok sm_Ts sm_P sm_N me_97 ⟨"ValleyMass$War", "shot", "(LValleyMass$Valley;LValleyMass$State;I)I"⟩ prog_10_method_6_code (some .int) [] := sm_mok_plain (own := 8) (by decide +kernel) rfl rfl (sm_ckP_all sm_k_97 (by decide +kernel)) ⟨_, rfl, rfl⟩
theorem sm_mo_98 : sm_mok sm_Ts sm_P sm_N me_98 ⟨"ValleyMass$War", "passDay", "(LValleyMass$Valley;LValleyMass$State;)I"⟩ prog_10_method_7_code (some .int) [] := sm_mok_plain (own := 8) (by decide +kernel) rfl rfl (sm_ckP_all sm_k_98 (by decide +kernel)) ⟨_, rfl, rfl⟩
theorem sm_mo_99 : sm_mok sm_Ts sm_P sm_N me_99 ⟨"ValleyMass$War", "coupleRests", "(LValleyMass$Valley;LValleyMass$State;III)Z"⟩ prog_10_method_8_code (some .boolean) [] := sm_mok_plain (own := 8) (by decide +kernel) rfl rfl (sm_ckP_all sm_k_99 (by decide +kernel)) ⟨_, rfl, rfl⟩
theorem sm_mo_100 : sm_mok sm_Ts sm_P sm_N me_100 ⟨"ValleyMass$War", "leftFree", "(LValleyMass$Valley;LValleyMass$State;II)I"⟩ prog_10_method_9_code (some .int) [] := sm_mok_plain (own := 8) (by decide +kernel) rfl rfl (sm_ckP_all sm_k_100 (by decide +kernel)) ⟨_, rfl, rfl⟩
theorem sm_mo_101 : sm_mok sm_Ts sm_P sm_N me_101 ⟨"ValleyMass$War", "lead", "(LValleyMass$Valley;I)I"⟩ prog_10_method_10_code (some .int) [] := sm_mok_plain (own := 8) (by decide +kernel) rfl rfl (sm_ckP_all sm_k_101 (by decide +kernel)) ⟨_, rfl, rfl⟩
theorem sm_mo_102 : sm_mok sm_Ts sm_P sm_N me_102 ⟨"ValleyMass$War", "bonus", "(LValleyMass$Valley;III)I"⟩ prog_10_method_11_code (some .int) [] := sm_mok_plain (own := 8) (by decide +kernel) rfl rfl (sm_ckP_all sm_k_102 (by decide +kernel)) ⟨_, rfl, rfl⟩
theorem sm_mo_103 : sm_mok sm_Ts sm_P sm_N me_103 ⟨"ValleyMass", "feed", "(IIIII)I"⟩ prog_1_method_2_code (some .int) [] := sm_mok_plain (own := 9) (by decide +kernel) rfl rfl (sm_ckP_all sm_k_103 (by decide +kernel)) ⟨_, rfl, rfl⟩
theorem sm_mo_104 : sm_mok sm_Ts sm_P sm_N me_104 ⟨"ValleyMass", "valley", "(I)I"⟩ prog_1_method_3_code (some .int) [] := sm_mok_plain (own := 9) (by decide +kernel) rfl rfl (sm_ckP_all sm_k_104 (by decide +kernel)) ⟨_, rfl, rfl⟩
theorem sm_mo_105 : sm_mok sm_Ts sm_P sm_N me_105 ⟨"ValleyMass", "fault", "()I"⟩ prog_1_method_4_code (some .int) [] := sm_mok_plain (own := 9) (by decide +kernel) rfl rfl (sm_ckP_all sm_k_105 (by decide +kernel)) ⟨_, rfl, rfl⟩
theorem sm_mo_106 : sm_mok sm_Ts sm_P sm_N me_106 ⟨"ValleyMass", "count", "(I)I"⟩ prog_1_method_5_code (some .int) [] := sm_mok_plain (own := 9) (by decide +kernel) rfl rfl (sm_ckP_all sm_k_106 (by decide +kernel)) ⟨_, rfl, rfl⟩
theorem sm_mo_107 : sm_mok sm_Ts sm_P sm_N me_107 ⟨"ValleyMass", "singer", "(II)I"⟩ prog_1_method_6_code (some .int) [] := sm_mok_plain (own := 9) (by decide +kernel) rfl rfl (sm_ckP_all sm_k_107 (by decide +kernel)) ⟨_, rfl, rfl⟩
theorem sm_mo_108 : sm_mok sm_Ts sm_P sm_N me_108 ⟨"ValleyMass", "row", "(III)I"⟩ prog_1_method_7_code (some .int) [] := sm_mok_plain (own := 9) (by decide +kernel) rfl rfl (sm_ckP_all sm_k_108 (by decide +kernel)) ⟨_, rfl, rfl⟩
theorem sm_mo_109 : sm_mok sm_Ts sm_P sm_N me_109 ⟨"ValleyMass", "able", "(II)I"⟩ prog_1_method_8_code (some .int) [] := sm_mok_plain (own := 9) (by decide +kernel) rfl rfl (sm_ckP_all sm_k_109 (by decide +kernel)) ⟨_, rfl, rfl⟩
theorem sm_mo_110 : sm_mok sm_Ts sm_P sm_N me_110 ⟨"ValleyMass", "standIns", "(I)I"⟩ prog_1_method_9_code (some .int) [] := sm_mok_plain (own := 9) (by decide +kernel) rfl rfl (sm_ckP_all sm_k_110 (by decide +kernel)) ⟨_, rfl, rfl⟩
theorem sm_mo_111 : sm_mok sm_Ts sm_P sm_N me_111 ⟨"ValleyMass", "voices", "(II)I"⟩ prog_1_method_10_code (some .int) [] := sm_mok_plain (own := 9) (by decide +kernel) rfl rfl (sm_ckP_all sm_k_111 (by decide +kernel)) ⟨_, rfl, rfl⟩
theorem sm_mo_112 : sm_mok sm_Ts sm_P sm_N me_112 ⟨"ValleyMass", "rows", "(I)I"⟩ prog_1_method_11_code (some .int) [] := sm_mok_plain (own := 9) (by decide +kernel) rfl rfl (sm_ckP_all sm_k_112 (by decide +kernel)) ⟨_, rfl, rfl⟩
theorem sm_mo_113 : sm_mok sm_Ts sm_P sm_N me_113 ⟨"ValleyMass", "days", "(I)I"⟩ prog_1_method_12_code (some .int) [] := sm_mok_plain (own := 9) (by decide +kernel) rfl rfl (sm_ckP_all sm_k_113 (by decide +kernel)) ⟨_, rfl, rfl⟩
theorem sm_mo_114 : sm_mok sm_Ts sm_P sm_N me_114 ⟨"ValleyMass", "fall", "(I)Z"⟩ prog_1_method_13_code (some .boolean) [] := sm_mok_plain (own := 9) (by decide +kernel) rfl rfl (sm_ckP_all sm_k_114 (by decide +kernel)) ⟨_, rfl, rfl⟩
theorem sm_mo_115 : sm_mok sm_Ts sm_P sm_N me_115 ⟨"ValleyMass", "catches", "(I)Z"⟩ prog_1_method_14_code (some .boolean) [] := sm_mok_plain (own := 9) (by decide +kernel) rfl rfl (sm_ckP_all sm_k_115 (by decide +kernel)) ⟨_, rfl, rfl⟩
theorem sm_mo_116 : sm_mok sm_Ts sm_P sm_N me_116 ⟨"ValleyMass", "release", "(I)Z"⟩ prog_1_method_15_code (some .boolean) [] := sm_mok_plain (own := 9) (by decide +kernel) rfl rfl (sm_ckP_all sm_k_116 (by decide +kernel)) ⟨_, rfl, rfl⟩
theorem sm_mo_117 : sm_mok sm_Ts sm_P sm_N me_117 ⟨"ValleyMass", "exchange", "(II)Z"⟩ prog_1_method_16_code (some .boolean) [] := sm_mok_plain (own := 9) (by decide +kernel) rfl rfl (sm_ckP_all sm_k_117 (by decide +kernel)) ⟨_, rfl, rfl⟩
theorem sm_mo_118 : sm_mok sm_Ts sm_P sm_N me_118 ⟨"ValleyMass", "mayAct", "(Z)Z"⟩ prog_1_method_17_code (some .boolean) [] := sm_mok_plain (own := 9) (by decide +kernel) rfl rfl (sm_ckP_all sm_k_118 (by decide +kernel)) ⟨_, rfl, rfl⟩
theorem sm_mo_119 : sm_mok sm_Ts sm_P sm_N me_119 ⟨"ValleyMass", "undo", "()I"⟩ prog_1_method_18_code (some .int) [] := sm_mok_plain (own := 9) (by decide +kernel) rfl rfl (sm_ckP_all sm_k_119 (by decide +kernel)) ⟨_, rfl, rfl⟩
theorem sm_mo_120 : sm_mok sm_Ts sm_P sm_N me_120 ⟨"ValleyMass", "image", "()V"⟩ prog_1_method_19_code (none) [] := sm_mok_plain (own := 9) (by decide +kernel) rfl rfl (sm_ckP_all sm_k_120 (by decide +kernel)) ⟨_, rfl, rfl⟩
theorem sm_mo_121 : sm_mok sm_Ts sm_P sm_N me_121 ⟨"ValleyMass", "restore", "()Z"⟩ prog_1_method_20_code (some .boolean) [] := sm_mok_plain (own := 9) (by decide +kernel) rfl rfl (sm_ckP_all sm_k_121 (by decide +kernel)) ⟨_, rfl, rfl⟩
theorem sm_mo_122 : sm_mok sm_Ts sm_P sm_N me_122 ⟨"ValleyMass", "moved", "(I)I"⟩ prog_1_method_21_code (some .int) [] := sm_mok_plain (own := 9) (by decide +kernel) rfl rfl (sm_ckP_all sm_k_122 (by decide +kernel)) ⟨_, rfl, rfl⟩
theorem sm_mo_123 : sm_mok sm_Ts sm_P sm_N me_123 ⟨"ValleyMass", "spare", "(I)I"⟩ prog_1_method_22_code (some .int) [] := sm_mok_plain (own := 9) (by decide +kernel) rfl rfl (sm_ckP_all sm_k_123 (by decide +kernel)) ⟨_, rfl, rfl⟩
theorem sm_mo_124 : sm_mok sm_Ts sm_P sm_N me_124 ⟨"ValleyMass", "keys", "()I"⟩ prog_1_method_23_code (some .int) [] := sm_mok_plain (own := 9) (by decide +kernel) rfl rfl (sm_ckP_all sm_k_124 (by decide +kernel)) ⟨_, rfl, rfl⟩
theorem sm_mo_125 : sm_mok sm_Ts sm_P sm_N me_125 ⟨"ValleyMass", "ransom", "(I)I"⟩ prog_1_method_24_code (some .int) [] := sm_mok_plain (own := 9) (by decide +kernel) rfl rfl (sm_ckP_all sm_k_125 (by decide +kernel)) ⟨_, rfl, rfl⟩
theorem sm_mo_126 : sm_mok sm_Ts sm_P sm_N me_126 ⟨"ValleyMass", "bargain", "()I"⟩ prog_1_method_25_code (some .int) [] := sm_mok_plain (own := 9) (by decide +kernel) rfl rfl (sm_ckP_all sm_k_126 (by decide +kernel)) ⟨_, rfl, rfl⟩
theorem sm_mo_127 : sm_mok sm_Ts sm_P sm_N me_127 ⟨"ValleyMass", "duet", "()I"⟩ prog_1_method_26_code (some .int) [] := sm_mok_plain (own := 9) (by decide +kernel) rfl rfl (sm_ckP_all sm_k_127 (by decide +kernel)) ⟨_, rfl, rfl⟩
theorem sm_mo_128 : sm_mok sm_Ts sm_P sm_N me_128 ⟨"ValleyMass", "evening", "()I"⟩ prog_1_method_27_code (some .int) [] := sm_mok_plain (own := 9) (by decide +kernel) rfl rfl (sm_ckP_all sm_k_128 (by decide +kernel)) ⟨_, rfl, rfl⟩
theorem sm_mo_129 : sm_mok sm_Ts sm_P sm_N me_129 ⟨"ValleyMass", "cast", "(II)I"⟩ prog_1_method_28_code (some .int) [] := sm_mok_plain (own := 9) (by decide +kernel) rfl rfl (sm_ckP_all sm_k_129 (by decide +kernel)) ⟨_, rfl, rfl⟩
theorem sm_mo_130 : sm_mok sm_Ts sm_P sm_N me_130 ⟨"ValleyMass", "casts", "(I)J"⟩ prog_1_method_29_code (some .long) [] := sm_mok_plain (own := 9) (by decide +kernel) rfl rfl (sm_ckP_all sm_k_130 (by decide +kernel)) ⟨_, rfl, rfl⟩
theorem sm_mo_131 : sm_mok sm_Ts sm_P sm_N me_131 ⟨"ValleyMass", "transposed", "(I)I"⟩ prog_1_method_30_code (some .int) [] := sm_mok_plain (own := 9) (by decide +kernel) rfl rfl (sm_ckP_all sm_k_131 (by decide +kernel)) ⟨_, rfl, rfl⟩
theorem sm_mo_132 : sm_mok sm_Ts sm_P sm_N me_132 ⟨"ValleyMass", "lacking", "(II)I"⟩ prog_1_method_31_code (some .int) [] := sm_mok_plain (own := 9) (by decide +kernel) rfl rfl (sm_ckP_all sm_k_132 (by decide +kernel)) ⟨_, rfl, rfl⟩
theorem sm_mo_133 : sm_mok sm_Ts sm_P sm_N me_133 ⟨"ValleyMass", "widen", "(II)I"⟩ prog_1_method_32_code (some .int) [] := sm_mok_plain (own := 9) (by decide +kernel) rfl rfl (sm_ckP_all sm_k_133 (by decide +kernel)) ⟨_, rfl, rfl⟩
theorem sm_mo_134 : sm_mok sm_Ts sm_P sm_N me_134 ⟨"ValleyMass", "luck", "(III)I"⟩ prog_1_method_33_code (some .int) [] := sm_mok_plain (own := 9) (by decide +kernel) rfl rfl (sm_ckP_all sm_k_134 (by decide +kernel)) ⟨_, rfl, rfl⟩
theorem sm_mo_135 : sm_mok sm_Ts sm_P sm_N me_135 ⟨"ValleyMass", "codes", "(II)J"⟩ prog_1_method_34_code (some .long) [] := sm_mok_plain (own := 9) (by decide +kernel) rfl rfl (sm_ckP_all sm_k_135 (by decide +kernel)) ⟨_, rfl, rfl⟩
theorem sm_mo_136 : sm_mok sm_Ts sm_P sm_N me_136 ⟨"ValleyMass", "slips", "(II)I"⟩ prog_1_method_35_code (some .int) [] := sm_mok_plain (own := 9) (by decide +kernel) rfl rfl (sm_ckP_all sm_k_136 (by decide +kernel)) ⟨_, rfl, rfl⟩
theorem sm_mo_137 : sm_mok sm_Ts sm_P sm_N me_137 ⟨"ValleyMass", "hear", "(IIII)I"⟩ prog_1_method_36_code (some .int) [] := sm_mok_plain (own := 9) (by decide +kernel) rfl rfl (sm_ckP_all sm_k_137 (by decide +kernel)) ⟨_, rfl, rfl⟩
theorem sm_mo_138 : sm_mok sm_Ts sm_P sm_N me_138 ⟨"ValleyMass", "flat", "(I)I"⟩ prog_1_method_37_code (some .int) [] := sm_mok_plain (own := 9) (by decide +kernel) rfl rfl (sm_ckP_all sm_k_138 (by decide +kernel)) ⟨_, rfl, rfl⟩
theorem sm_mo_139 : sm_mok sm_Ts sm_P sm_N me_139 ⟨"ValleyMass", "allHeardIsSo", "(II)Z"⟩ prog_1_method_38_code (some .boolean) [] := sm_mok_plain (own := 9) (by decide +kernel) rfl rfl (sm_ckP_all sm_k_139 (by decide +kernel)) ⟨_, rfl, rfl⟩
theorem sm_mo_140 : sm_mok sm_Ts sm_P sm_N me_140 ⟨"ValleyMass", "forget", "()V"⟩ prog_1_method_39_code (none) [] := sm_mok_plain (own := 9) (by decide +kernel) rfl rfl (sm_ckP_all sm_k_140 (by decide +kernel)) ⟨_, rfl, rfl⟩
theorem sm_mo_141 : sm_mok sm_Ts sm_P sm_N me_141 ⟨"ValleyMass", "holds", "(I)Z"⟩ prog_1_method_40_code (some .boolean) [] := sm_mok_plain (own := 9) (by decide +kernel) rfl rfl (sm_ckP_all sm_k_141 (by decide +kernel)) ⟨_, rfl, rfl⟩
theorem sm_mo_142 : sm_mok sm_Ts sm_P sm_N me_142 ⟨"ValleyMass", "aimed", "(I)I"⟩ prog_1_method_41_code (some .int) [] := sm_mok_plain (own := 9) (by decide +kernel) rfl rfl (sm_ckP_all sm_k_142 (by decide +kernel)) ⟨_, rfl, rfl⟩
theorem sm_mo_143 : sm_mok sm_Ts sm_P sm_N me_143 ⟨"ValleyMass", "peace", "()I"⟩ prog_1_method_42_code (some .int) [] := sm_mok_plain (own := 9) (by decide +kernel) rfl rfl (sm_ckP_all sm_k_143 (by decide +kernel)) ⟨_, rfl, rfl⟩
theorem sm_mo_144 : sm_mok sm_Ts sm_P sm_N me_144 ⟨"ValleyMass", "silent", "()I"⟩ prog_1_method_43_code (some .int) [] := sm_mok_plain (own := 9) (by decide +kernel) rfl rfl (sm_ckP_all sm_k_144 (by decide +kernel)) ⟨_, rfl, rfl⟩
theorem sm_mo_145 : sm_mok sm_Ts sm_P sm_N me_145 ⟨"ValleyMass", "falls", "(I)I"⟩ prog_1_method_44_code (some .int) [] := sm_mok_plain (own := 9) (by decide +kernel) rfl rfl (sm_ckP_all sm_k_145 (by decide +kernel)) ⟨_, rfl, rfl⟩
theorem sm_mo_146 : sm_mok sm_Ts sm_P sm_N me_146 ⟨"ValleyMass", "held", "(II)I"⟩ prog_1_method_45_code (some .int) [] := sm_mok_plain (own := 9) (by decide +kernel) rfl rfl (sm_ckP_all sm_k_146 (by decide +kernel)) ⟨_, rfl, rfl⟩
theorem sm_mo_147 : sm_mok sm_Ts sm_P sm_N me_147 ⟨"ValleyMass", "lost", "(I)I"⟩ prog_1_method_46_code (some .int) [] := sm_mok_plain (own := 9) (by decide +kernel) rfl rfl (sm_ckP_all sm_k_147 (by decide +kernel)) ⟨_, rfl, rfl⟩
theorem sm_mo_148 : sm_mok sm_Ts sm_P sm_N me_148 ⟨"ValleyMass", "gone", "(I)I"⟩ prog_1_method_47_code (some .int) [] := sm_mok_plain (own := 9) (by decide +kernel) rfl rfl (sm_ckP_all sm_k_148 (by decide +kernel)) ⟨_, rfl, rfl⟩
theorem sm_mo_149 : sm_mok sm_Ts sm_P sm_N me_149 ⟨"ValleyMass", "game", "(II)I"⟩ prog_1_method_48_code (some .int) [] := sm_mok_plain (own := 9) (by decide +kernel) rfl rfl (sm_ckP_all sm_k_149 (by decide +kernel)) ⟨_, rfl, rfl⟩
theorem sm_mo_150 : sm_mok sm_Ts sm_P sm_N me_150 ⟨"ValleyMass", "wars", "(III)I"⟩ prog_1_method_49_code (some .int) [] := sm_mok_plain (own := 9) (by decide +kernel) rfl rfl (sm_ckP_all sm_k_150 (by decide +kernel)) ⟨_, rfl, rfl⟩
theorem sm_mo_151 : sm_mok sm_Ts sm_P sm_N me_151 ⟨"ValleyMass", "checkSinger", "(I)V"⟩ prog_1_method_50_code (none) [] := sm_mok_plain (own := 9) (by decide +kernel) rfl rfl (sm_ckP_all sm_k_151 (by decide +kernel)) ⟨_, rfl, rfl⟩
theorem sm_mo_152 : sm_mok sm_Ts sm_P sm_N me_152 ⟨"ValleyMass", "checkPiece", "(I)V"⟩ prog_1_method_51_code (none) [] := sm_mok_plain (own := 9) (by decide +kernel) rfl rfl (sm_ckP_all sm_k_152 (by decide +kernel)) ⟨_, rfl, rfl⟩
theorem sm_mo_153 : sm_mok sm_Ts sm_P sm_N me_153 ⟨"ValleyMass", "checkPart", "(I)V"⟩ prog_1_method_52_code (none) [] := sm_mok_plain (own := 9) (by decide +kernel) rfl rfl (sm_ckP_all sm_k_153 (by decide +kernel)) ⟨_, rfl, rfl⟩
theorem sm_mo_154 : sm_mok sm_Ts sm_P sm_N me_154 ⟨"ValleyMass", "checkRow", "(II)V"⟩ prog_1_method_53_code (none) [] := sm_mok_plain (own := 9) (by decide +kernel) rfl rfl (sm_ckP_all sm_k_154 (by decide +kernel)) ⟨_, rfl, rfl⟩
theorem sm_mo_155 : sm_mok sm_Ts sm_P sm_N me_155 ⟨"ValleyMass", "checkWarring", "(I)V"⟩ prog_1_method_54_code (none) [] := sm_mok_plain (own := 9) (by decide +kernel) rfl rfl (sm_ckP_all sm_k_155 (by decide +kernel)) ⟨_, rfl, rfl⟩
theorem sm_mo_156 : sm_mok sm_Ts sm_P sm_N me_156 ⟨"ValleyMass", "checkDays", "(I)V"⟩ prog_1_method_55_code (none) [] := sm_mok_plain (own := 9) (by decide +kernel) rfl rfl (sm_ckP_all sm_k_156 (by decide +kernel)) ⟨_, rfl, rfl⟩
theorem sm_mo_157 : sm_mok sm_Ts sm_P sm_N me_157 ⟨"ValleyMassModel", "thrown", "()I"⟩ prog_12_method_2_code (some .int) [] := sm_mok_plain (own := 10) (by decide +kernel) rfl rfl (sm_ckP_all sm_k_157 (by decide +kernel)) ⟨_, rfl, rfl⟩
theorem sm_mo_158 : sm_mok sm_Ts sm_P sm_N me_158 ⟨"ValleyMassModel", "right", "(ZI)Z"⟩ prog_12_method_3_code (some .boolean) [] := sm_mok_plain (own := 10) (by decide +kernel) rfl rfl (sm_ckP_all sm_k_158 (by decide +kernel)) ⟨_, rfl, rfl⟩
theorem sm_mo_159 : sm_mok sm_Ts sm_P sm_N me_159 ⟨"ValleyMassModel", "within", "(III)Z"⟩ prog_12_method_4_code (some .boolean) [] := sm_mok_plain (own := 10) (by decide +kernel) rfl rfl (sm_ckP_all sm_k_159 (by decide +kernel)) ⟨_, rfl, rfl⟩
theorem sm_mo_160 : sm_mok sm_Ts sm_P sm_N me_160 ⟨"ValleyMassModel", "copies", "([I[I)V"⟩ prog_12_method_5_code (none) [] := sm_mok_plain (own := 10) (by decide +kernel) rfl rfl (sm_ckP_all sm_k_160 (by decide +kernel)) ⟨_, rfl, rfl⟩
theorem sm_mo_161 : sm_mok sm_Ts sm_P sm_N me_161 ⟨"ValleyMassModel", "bits", "(I)I"⟩ prog_12_method_6_code (some .int) [] := sm_mok_plain (own := 10) (by decide +kernel) rfl rfl (sm_ckP_all sm_k_161 (by decide +kernel)) ⟨_, rfl, rfl⟩
theorem sm_mo_162 : sm_mok sm_Ts sm_P sm_N me_162 ⟨"ValleyMassModel", "feed", "(IIIII)I"⟩ prog_12_method_7_code (some .int) [] := sm_mok_plain (own := 10) (by decide +kernel) rfl rfl (sm_ckP_all sm_k_162 (by decide +kernel)) ⟨_, rfl, rfl⟩
theorem sm_mo_163 : sm_mok sm_Ts sm_P sm_N me_163 ⟨"ValleyMassModel", "lays", "(I)V"⟩ prog_12_method_8_code (none) [] := sm_mok_plain (own := 10) (by decide +kernel) rfl rfl (sm_ckP_all sm_k_163 (by decide +kernel)) ⟨_, rfl, rfl⟩
theorem sm_mo_164 : sm_mok sm_Ts sm_P sm_N me_164 ⟨"ValleyMassModel", "byteAt", "(I)I"⟩ prog_12_method_9_code (some .int) [] := sm_mok_plain (own := 10) (by decide +kernel) rfl rfl (sm_ckP_all sm_k_164 (by decide +kernel)) ⟨_, rfl, rfl⟩
theorem sm_mo_165 : sm_mok sm_Ts sm_P sm_N me_165 ⟨"ValleyMassModel", "isLetter", "(I)Z"⟩ prog_12_method_10_code (some .boolean) [] := sm_mok_plain (own := 10) (by decide +kernel) rfl rfl (sm_ckP_all sm_k_165 (by decide +kernel)) ⟨_, rfl, rfl⟩
theorem sm_mo_166 : sm_mok sm_Ts sm_P sm_N me_166 ⟨"ValleyMassModel", "isDigit", "(I)Z"⟩ prog_12_method_11_code (some .boolean) [] := sm_mok_plain (own := 10) (by decide +kernel) rfl rfl (sm_ckP_all sm_k_166 (by decide +kernel)) ⟨_, rfl, rfl⟩
theorem sm_ka_167 (k : Nat) (e : sm_E) (hk : mc_167[k]? = some e) : sm_ckE 10 prog_12_method_12_code mc_167 (none) k e = true := by
  have h1 := (List.getElem?_eq_some_iff.mp hk).1
  have hl : mc_167.length = 178 := by decide +kernel
  rcases (show (0 ≤ k ∧ k < 100) ∨ (100 ≤ k ∧ k < 200) by omega) with h | h
  · exact sm_ckP_at sm_k_167_0 h.1 h.2 hk
  · exact sm_ckP_at sm_k_167_100 h.1 h.2 hk
theorem sm_mo_167 : sm_mok sm_Ts sm_P sm_N me_167 ⟨"ValleyMassModel", "goes", "()V"⟩ prog_12_method_12_code (none) [] := sm_mok_plain (own := 10) (by decide +kernel) rfl rfl sm_ka_167 ⟨_, rfl, rfl⟩
theorem sm_mo_168 : sm_mok sm_Ts sm_P sm_N me_168 ⟨"ValleyMassModel", "spelled", "(IIIIIII)J"⟩ prog_12_method_13_code (some .long) [] := sm_mok_plain (own := 10) (by decide +kernel) rfl rfl (sm_ckP_all sm_k_168 (by decide +kernel)) ⟨_, rfl, rfl⟩
theorem sm_ka_169 (k : Nat) (e : sm_E) (hk : mc_169[k]? = some e) : sm_ckE 10 prog_12_method_14_code mc_169 (some .long) k e = true := by
  have h1 := (List.getElem?_eq_some_iff.mp hk).1
  have hl : mc_169.length = 218 := by decide +kernel
  rcases (show (0 ≤ k ∧ k < 100) ∨ (100 ≤ k ∧ k < 200) ∨ (200 ≤ k ∧ k < 300) by omega) with h | h | h
  · exact sm_ckP_at sm_k_169_0 h.1 h.2 hk
  · exact sm_ckP_at sm_k_169_100 h.1 h.2 hk
  · exact sm_ckP_at sm_k_169_200 h.1 h.2 hk
theorem sm_mo_169 : sm_mok sm_Ts sm_P sm_N me_169 ⟨"ValleyMassModel", "letters", "(I)J"⟩ prog_12_method_14_code (some .long) [] := sm_mok_plain (own := 10) (by decide +kernel) rfl rfl sm_ka_169 ⟨_, rfl, rfl⟩
theorem sm_mo_170 : sm_mok sm_Ts sm_P sm_N me_170 ⟨"ValleyMassModel", "knownWord", "()I"⟩ prog_12_method_15_code (some .int) [] := sm_mok_plain (own := 10) (by decide +kernel) rfl rfl (sm_ckP_all sm_k_170 (by decide +kernel)) ⟨_, rfl, rfl⟩
theorem sm_mo_171 : sm_mok sm_Ts sm_P sm_N me_171 ⟨"ValleyMassModel", "wrong", "(I)V"⟩ prog_12_method_16_code (none) [] := sm_mok_plain (own := 10) (by decide +kernel) rfl rfl (sm_ckP_all sm_k_171 (by decide +kernel)) ⟨_, rfl, rfl⟩
theorem sm_mo_172 : sm_mok sm_Ts sm_P sm_N me_172 ⟨"ValleyMassModel", "isGood", "()Z"⟩ prog_12_method_17_code (some .boolean) [] := sm_mok_plain (own := 10) (by decide +kernel) rfl rfl (sm_ckP_all sm_k_172 (by decide +kernel)) ⟨_, rfl, rfl⟩
theorem sm_mo_173 : sm_mok sm_Ts sm_P sm_N me_173 ⟨"ValleyMassModel", "isSign", "(I)Z"⟩ prog_12_method_18_code (some .boolean) [] := sm_mok_plain (own := 10) (by decide +kernel) rfl rfl (sm_ckP_all sm_k_173 (by decide +kernel)) ⟨_, rfl, rfl⟩
theorem sm_mo_174 : sm_mok sm_Ts sm_P sm_N me_174 ⟨"ValleyMassModel", "need", "(Z)V"⟩ prog_12_method_19_code (none) [] := sm_mok_plain (own := 10) (by decide +kernel) rfl rfl (sm_ckP_all sm_k_174 (by decide +kernel)) ⟨_, rfl, rfl⟩
theorem sm_mo_175 : sm_mok sm_Ts sm_P sm_N me_175 ⟨"ValleyMassModel", "number", "(II)I"⟩ prog_12_method_20_code (some .int) [] := sm_mok_plain (own := 10) (by decide +kernel) rfl rfl (sm_ckP_all sm_k_175 (by decide +kernel)) ⟨_, rfl, rfl⟩
theorem sm_mo_176 : sm_mok sm_Ts sm_P sm_N me_176 ⟨"ValleyMassModel", "puts", "(I)V"⟩ prog_12_method_21_code (none) [] := sm_mok_plain (own := 10) (by decide +kernel) rfl rfl (sm_ckP_all sm_k_176 (by decide +kernel)) ⟨_, rfl, rfl⟩
theorem sm_mo_177 : sm_mok sm_Ts sm_P sm_N me_177 ⟨"ValleyMassModel", "isOpen", "(I)Z"⟩ prog_12_method_22_code (some .boolean) [] := sm_mok_plain (own := 10) (by decide +kernel) rfl rfl (sm_ckP_all sm_k_177 (by decide +kernel)) ⟨_, rfl, rfl⟩
theorem sm_mo_178 : sm_mok sm_Ts sm_P sm_N me_178 ⟨"ValleyMassModel", "strength", "(I)I"⟩ prog_12_method_23_code (some .int) [] := sm_mok_plain (own := 10) (by decide +kernel) rfl rfl (sm_ckP_all sm_k_178 (by decide +kernel)) ⟨_, rfl, rfl⟩
theorem sm_mo_179 : sm_mok sm_Ts sm_P sm_N me_179 ⟨"ValleyMassModel", "drops", "(I)V"⟩ prog_12_method_24_code (none) [] := sm_mok_plain (own := 10) (by decide +kernel) rfl rfl (sm_ckP_all sm_k_179 (by decide +kernel)) ⟨_, rfl, rfl⟩
theorem sm_mo_180 : sm_mok sm_Ts sm_P sm_N me_180 ⟨"ValleyMassModel", "waitsFor", "(I)V"⟩ prog_12_method_25_code (none) [] := sm_mok_plain (own := 10) (by decide +kernel) rfl rfl (sm_ckP_all sm_k_180 (by decide +kernel)) ⟨_, rfl, rfl⟩
theorem sm_mo_181 : sm_mok sm_Ts sm_P sm_N me_181 ⟨"ValleyMassModel", "part", "()V"⟩ prog_12_method_26_code (none) [] := sm_mok_plain (own := 10) (by decide +kernel) rfl rfl (sm_ckP_all sm_k_181 (by decide +kernel)) ⟨_, rfl, rfl⟩
theorem sm_mo_182 : sm_mok sm_Ts sm_P sm_N me_182 ⟨"ValleyMassModel", "deeper", "()V"⟩ prog_12_method_27_code (none) [] := sm_mok_plain (own := 10) (by decide +kernel) rfl rfl (sm_ckP_all sm_k_182 (by decide +kernel)) ⟨_, rfl, rfl⟩
theorem sm_mo_183 : sm_mok sm_Ts sm_P sm_N me_183 ⟨"ValleyMassModel", "operand", "(Z)V"⟩ prog_12_method_28_code (none) [] := sm_mok_plain (own := 10) (by decide +kernel) rfl rfl (sm_ckP_all sm_k_183 (by decide +kernel)) ⟨_, rfl, rfl⟩
theorem sm_mo_184 : sm_mok sm_Ts sm_P sm_N me_184 ⟨"ValleyMassModel", "isOpened", "()Z"⟩ prog_12_method_29_code (some .boolean) [] := sm_mok_plain (own := 10) (by decide +kernel) rfl rfl (sm_ckP_all sm_k_184 (by decide +kernel)) ⟨_, rfl, rfl⟩
theorem sm_mo_185 : sm_mok sm_Ts sm_P sm_N me_185 ⟨"ValleyMassModel", "closes", "()V"⟩ prog_12_method_30_code (none) [] := sm_mok_plain (own := 10) (by decide +kernel) rfl rfl (sm_ckP_all sm_k_185 (by decide +kernel)) ⟨_, rfl, rfl⟩
theorem sm_ka_186 (k : Nat) (e : sm_E) (hk : mc_186[k]? = some e) : sm_ckE 10 prog_12_method_31_code mc_186 (none) k e = true := by
  have h1 := (List.getElem?_eq_some_iff.mp hk).1
  have hl : mc_186.length = 185 := by decide +kernel
  rcases (show (0 ≤ k ∧ k < 100) ∨ (100 ≤ k ∧ k < 200) by omega) with h | h
  · exact sm_ckP_at sm_k_186_0 h.1 h.2 hk
  · exact sm_ckP_at sm_k_186_100 h.1 h.2 hk
theorem sm_mo_186 : sm_mok sm_Ts sm_P sm_N me_186 ⟨"ValleyMassModel", "expression", "(II)V"⟩ prog_12_method_31_code (none) [] := sm_mok_plain (own := 10) (by decide +kernel) rfl rfl sm_ka_186 ⟨_, rfl, rfl⟩
theorem sm_mo_187 : sm_mok sm_Ts sm_P sm_N me_187 ⟨"ValleyMassModel", "readsSinger", "(I)V"⟩ prog_12_method_32_code (none) [] := sm_mok_plain (own := 10) (by decide +kernel) rfl rfl (sm_ckP_all sm_k_187 (by decide +kernel)) ⟨_, rfl, rfl⟩
theorem sm_mo_188 : sm_mok sm_Ts sm_P sm_N me_188 ⟨"ValleyMassModel", "readsRow", "(I)V"⟩ prog_12_method_33_code (none) [] := sm_mok_plain (own := 10) (by decide +kernel) rfl rfl (sm_ckP_all sm_k_188 (by decide +kernel)) ⟨_, rfl, rfl⟩
theorem sm_mo_189 : sm_mok sm_Ts sm_P sm_N me_189 ⟨"ValleyMassModel", "readsRule", "(I)V"⟩ prog_12_method_34_code (none) [] := sm_mok_plain (own := 10) (by decide +kernel) rfl rfl (sm_ckP_all sm_k_189 (by decide +kernel)) ⟨_, rfl, rfl⟩
theorem sm_mo_190 : sm_mok sm_Ts sm_P sm_N me_190 ⟨"ValleyMassModel", "line", "()V"⟩ prog_12_method_35_code (none) [] := sm_mok_plain (own := 10) (by decide +kernel) rfl rfl (sm_ckP_all sm_k_190 (by decide +kernel)) ⟨_, rfl, rfl⟩
theorem sm_ka_191 (k : Nat) (e : sm_E) (hk : mc_191[k]? = some e) : sm_ckE 10 prog_12_method_36_code mc_191 (some .int) k e = true := by
  have h1 := (List.getElem?_eq_some_iff.mp hk).1
  have hl : mc_191.length = 195 := by decide +kernel
  rcases (show (0 ≤ k ∧ k < 100) ∨ (100 ≤ k ∧ k < 200) by omega) with h | h
  · exact sm_ckP_at sm_k_191_0 h.1 h.2 hk
  · exact sm_ckP_at sm_k_191_100 h.1 h.2 hk
theorem sm_mo_191 : sm_mok sm_Ts sm_P sm_N me_191 ⟨"ValleyMassModel", "valley", "(I)I"⟩ prog_12_method_36_code (some .int) [] := sm_mok_plain (own := 10) (by decide +kernel) rfl rfl sm_ka_191 ⟨_, rfl, rfl⟩
theorem sm_mo_192 : sm_mok sm_Ts sm_P sm_N me_192 ⟨"ValleyMassModel", "fault", "()I"⟩ prog_12_method_37_code (some .int) [] := sm_mok_plain (own := 10) (by decide +kernel) rfl rfl (sm_ckP_all sm_k_192 (by decide +kernel)) ⟨_, rfl, rfl⟩
theorem sm_mo_193 : sm_mok sm_Ts sm_P sm_N me_193 ⟨"ValleyMassModel", "keeps", "()V"⟩ prog_12_method_38_code (none) [] := sm_mok_plain (own := 10) (by decide +kernel) rfl rfl (sm_ckP_all sm_k_193 (by decide +kernel)) ⟨_, rfl, rfl⟩
theorem sm_mo_194 : sm_mok sm_Ts sm_P sm_N me_194 ⟨"ValleyMassModel", "refuses", "(I)I"⟩ prog_12_method_39_code (some .int) [] := sm_mok_plain (own := 10) (by decide +kernel) rfl rfl (sm_ckP_all sm_k_194 (by decide +kernel)) ⟨_, rfl, rfl⟩
theorem sm_mo_195 : sm_mok sm_Ts sm_P sm_N me_195 ⟨"ValleyMassModel", "undo", "()I"⟩ prog_12_method_40_code (some .int) [] := sm_mok_plain (own := 10) (by decide +kernel) rfl rfl (sm_ckP_all sm_k_195 (by decide +kernel)) ⟨_, rfl, rfl⟩
theorem sm_mo_196 : sm_mok sm_Ts sm_P sm_N me_196 ⟨"ValleyMassModel", "areSo", "([II)I"⟩ prog_12_method_41_code (some .int) [] := sm_mok_plain (own := 10) (by decide +kernel) rfl rfl (sm_ckP_all sm_k_196 (by decide +kernel)) ⟨_, rfl, rfl⟩
theorem sm_mo_197 : sm_mok sm_Ts sm_P sm_N me_197 ⟨"ValleyMassModel", "ofSide", "(I)I"⟩ prog_12_method_42_code (some .int) [] := sm_mok_plain (own := 10) (by decide +kernel) rfl rfl (sm_ckP_all sm_k_197 (by decide +kernel)) ⟨_, rfl, rfl⟩
theorem sm_mo_198 : sm_mok sm_Ts sm_P sm_N me_198 ⟨"ValleyMassModel", "hasAll", "(III)Z"⟩ prog_12_method_43_code (some .boolean) [] := sm_mok_plain (own := 10) (by decide +kernel) rfl rfl (sm_ckP_all sm_k_198 (by decide +kernel)) ⟨_, rfl, rfl⟩
theorem sm_mo_199 : sm_mok sm_Ts sm_P sm_N me_199 ⟨"ValleyMassModel", "ableOf", "(III)I"⟩ prog_12_method_44_code (some .int) [] := sm_mok_plain (own := 10) (by decide +kernel) rfl rfl (sm_ckP_all sm_k_199 (by decide +kernel)) ⟨_, rfl, rfl⟩
theorem sm_mo_200 : sm_mok sm_Ts sm_P sm_N me_200 ⟨"ValleyMassModel", "hasRows", "(I)Z"⟩ prog_12_method_45_code (some .boolean) [] := sm_mok_plain (own := 10) (by decide +kernel) rfl rfl (sm_ckP_all sm_k_200 (by decide +kernel)) ⟨_, rfl, rfl⟩
theorem sm_mo_201 : sm_mok sm_Ts sm_P sm_N me_201 ⟨"ValleyMassModel", "canBeSung", "(III)Z"⟩ prog_12_method_46_code (some .boolean) [] := sm_mok_plain (own := 10) (by decide +kernel) rfl rfl (sm_ckP_all sm_k_201 (by decide +kernel)) ⟨_, rfl, rfl⟩
theorem sm_mo_202 : sm_mok sm_Ts sm_P sm_N me_202 ⟨"ValleyMassModel", "sungBy", "(I)I"⟩ prog_12_method_47_code (some .int) [] := sm_mok_plain (own := 10) (by decide +kernel) rfl rfl (sm_ckP_all sm_k_202 (by decide +kernel)) ⟨_, rfl, rfl⟩
theorem sm_mo_203 : sm_mok sm_Ts sm_P sm_N me_203 ⟨"ValleyMassModel", "count", "(I)I"⟩ prog_12_method_48_code (some .int) [] := sm_mok_plain (own := 10) (by decide +kernel) rfl rfl (sm_ckP_all sm_k_203 (by decide +kernel)) ⟨_, rfl, rfl⟩
theorem sm_mo_204 : sm_mok sm_Ts sm_P sm_N me_204 ⟨"ValleyMassModel", "isSinger", "(I)Z"⟩ prog_12_method_49_code (some .boolean) [] := sm_mok_plain (own := 10) (by decide +kernel) rfl rfl (sm_ckP_all sm_k_204 (by decide +kernel)) ⟨_, rfl, rfl⟩
theorem sm_mo_205 : sm_mok sm_Ts sm_P sm_N me_205 ⟨"ValleyMassModel", "isPiece", "(I)Z"⟩ prog_12_method_50_code (some .boolean) [] := sm_mok_plain (own := 10) (by decide +kernel) rfl rfl (sm_ckP_all sm_k_205 (by decide +kernel)) ⟨_, rfl, rfl⟩
theorem sm_mo_206 : sm_mok sm_Ts sm_P sm_N me_206 ⟨"ValleyMassModel", "isWhat", "(II)Z"⟩ prog_12_method_51_code (some .boolean) [] := sm_mok_plain (own := 10) (by decide +kernel) rfl rfl (sm_ckP_all sm_k_206 (by decide +kernel)) ⟨_, rfl, rfl⟩
theorem sm_mo_207 : sm_mok sm_Ts sm_P sm_N me_207 ⟨"ValleyMassModel", "singer", "(II)I"⟩ prog_12_method_52_code (some .int) [] := sm_mok_plain (own := 10) (by decide +kernel) rfl rfl (sm_ckP_all sm_k_207 (by decide +kernel)) ⟨_, rfl, rfl⟩
theorem sm_mo_208 : sm_mok sm_Ts sm_P sm_N me_208 ⟨"ValleyMassModel", "notesOf", "(I)I"⟩ prog_12_method_53_code (some .int) [] := sm_mok_plain (own := 10) (by decide +kernel) rfl rfl (sm_ckP_all sm_k_208 (by decide +kernel)) ⟨_, rfl, rfl⟩
theorem sm_mo_209 : sm_mok sm_Ts sm_P sm_N me_209 ⟨"ValleyMassModel", "row", "(III)I"⟩ prog_12_method_54_code (some .int) [] := sm_mok_plain (own := 10) (by decide +kernel) rfl rfl (sm_ckP_all sm_k_209 (by decide +kernel)) ⟨_, rfl, rfl⟩
theorem sm_mo_210 : sm_mok sm_Ts sm_P sm_N me_210 ⟨"ValleyMassModel", "able", "(II)I"⟩ prog_12_method_55_code (some .int) [] := sm_mok_plain (own := 10) (by decide +kernel) rfl rfl (sm_ckP_all sm_k_210 (by decide +kernel)) ⟨_, rfl, rfl⟩
theorem sm_mo_211 : sm_mok sm_Ts sm_P sm_N me_211 ⟨"ValleyMassModel", "works", "(III)I"⟩ prog_12_method_56_code (some .int) [] := sm_mok_plain (own := 10) (by decide +kernel) rfl rfl (sm_ckP_all sm_k_211 (by decide +kernel)) ⟨_, rfl, rfl⟩
theorem sm_mo_212 : sm_mok sm_Ts sm_P sm_N me_212 ⟨"ValleyMassModel", "reckons", "(I)I"⟩ prog_12_method_57_code (some .int) [] := sm_mok_plain (own := 10) (by decide +kernel) rfl rfl (sm_ckP_all sm_k_212 (by decide +kernel)) ⟨_, rfl, rfl⟩
theorem sm_mo_213 : sm_mok sm_Ts sm_P sm_N me_213 ⟨"ValleyMassModel", "isHolding", "([II)Z"⟩ prog_12_method_58_code (some .boolean) [] := sm_mok_plain (own := 10) (by decide +kernel) rfl rfl (sm_ckP_all sm_k_213 (by decide +kernel)) ⟨_, rfl, rfl⟩
theorem sm_mo_214 : sm_mok sm_Ts sm_P sm_N me_214 ⟨"ValleyMassModel", "aimsFor", "([III)I"⟩ prog_12_method_59_code (some .int) [] := sm_mok_plain (own := 10) (by decide +kernel) rfl rfl (sm_ckP_all sm_k_214 (by decide +kernel)) ⟨_, rfl, rfl⟩
theorem sm_mo_215 : sm_mok sm_Ts sm_P sm_N me_215 ⟨"ValleyMassModel", "aims", "([II)I"⟩ prog_12_method_60_code (some .int) [] := sm_mok_plain (own := 10) (by decide +kernel) rfl rfl (sm_ckP_all sm_k_215 (by decide +kernel)) ⟨_, rfl, rfl⟩
theorem sm_mo_216 : sm_mok sm_Ts sm_P sm_N me_216 ⟨"ValleyMassModel", "dayGoes", "([I)I"⟩ prog_12_method_61_code (some .int) [] := sm_mok_plain (own := 10) (by decide +kernel) rfl rfl (sm_ckP_all sm_k_216 (by decide +kernel)) ⟨_, rfl, rfl⟩
theorem sm_mo_217 : sm_mok sm_Ts sm_P sm_N me_217 ⟨"ValleyMassModel", "days", "(I)I"⟩ prog_12_method_62_code (some .int) [] := sm_mok_plain (own := 10) (by decide +kernel) rfl rfl (sm_ckP_all sm_k_217 (by decide +kernel)) ⟨_, rfl, rfl⟩
theorem sm_mo_218 : sm_mok sm_Ts sm_P sm_N me_218 ⟨"ValleyMassModel", "becomes", "(III)Z"⟩ prog_12_method_63_code (some .boolean) [] := sm_mok_plain (own := 10) (by decide +kernel) rfl rfl (sm_ckP_all sm_k_218 (by decide +kernel)) ⟨_, rfl, rfl⟩
theorem sm_mo_219 : sm_mok sm_Ts sm_P sm_N me_219 ⟨"ValleyMassModel", "fall", "(I)Z"⟩ prog_12_method_64_code (some .boolean) [] := sm_mok_plain (own := 10) (by decide +kernel) rfl rfl (sm_ckP_all sm_k_219 (by decide +kernel)) ⟨_, rfl, rfl⟩
theorem sm_mo_220 : sm_mok sm_Ts sm_P sm_N me_220 ⟨"ValleyMassModel", "catches", "(I)Z"⟩ prog_12_method_65_code (some .boolean) [] := sm_mok_plain (own := 10) (by decide +kernel) rfl rfl (sm_ckP_all sm_k_220 (by decide +kernel)) ⟨_, rfl, rfl⟩
theorem sm_mo_221 : sm_mok sm_Ts sm_P sm_N me_221 ⟨"ValleyMassModel", "release", "(I)Z"⟩ prog_12_method_66_code (some .boolean) [] := sm_mok_plain (own := 10) (by decide +kernel) rfl rfl (sm_ckP_all sm_k_221 (by decide +kernel)) ⟨_, rfl, rfl⟩
theorem sm_mo_222 : sm_mok sm_Ts sm_P sm_N me_222 ⟨"ValleyMassModel", "exchange", "(II)Z"⟩ prog_12_method_67_code (some .boolean) [] := sm_mok_plain (own := 10) (by decide +kernel) rfl rfl (sm_ckP_all sm_k_222 (by decide +kernel)) ⟨_, rfl, rfl⟩
theorem sm_mo_223 : sm_mok sm_Ts sm_P sm_N me_223 ⟨"ValleyMassModel", "movedFor", "(III)I"⟩ prog_12_method_68_code (some .int) [] := sm_mok_plain (own := 10) (by decide +kernel) rfl rfl (sm_ckP_all sm_k_223 (by decide +kernel)) ⟨_, rfl, rfl⟩
theorem sm_mo_224 : sm_mok sm_Ts sm_P sm_N me_224 ⟨"ValleyMassModel", "movedIn", "(I)I"⟩ prog_12_method_69_code (some .int) [] := sm_mok_plain (own := 10) (by decide +kernel) rfl rfl (sm_ckP_all sm_k_224 (by decide +kernel)) ⟨_, rfl, rfl⟩
theorem sm_mo_225 : sm_mok sm_Ts sm_P sm_N me_225 ⟨"ValleyMassModel", "moved", "(I)I"⟩ prog_12_method_70_code (some .int) [] := sm_mok_plain (own := 10) (by decide +kernel) rfl rfl (sm_ckP_all sm_k_225 (by decide +kernel)) ⟨_, rfl, rfl⟩
theorem sm_mo_226 : sm_mok sm_Ts sm_P sm_N me_226 ⟨"ValleyMassModel", "spare", "(I)I"⟩ prog_12_method_71_code (some .int) [] := sm_mok_plain (own := 10) (by decide +kernel) rfl rfl (sm_ckP_all sm_k_226 (by decide +kernel)) ⟨_, rfl, rfl⟩
theorem sm_mo_227 : sm_mok sm_Ts sm_P sm_N me_227 ⟨"ValleyMassModel", "keys", "()I"⟩ prog_12_method_72_code (some .int) [] := sm_mok_plain (own := 10) (by decide +kernel) rfl rfl (sm_ckP_all sm_k_227 (by decide +kernel)) ⟨_, rfl, rfl⟩
theorem sm_mo_228 : sm_mok sm_Ts sm_P sm_N me_228 ⟨"ValleyMassModel", "ransom", "(I)I"⟩ prog_12_method_73_code (some .int) [] := sm_mok_plain (own := 10) (by decide +kernel) rfl rfl (sm_ckP_all sm_k_228 (by decide +kernel)) ⟨_, rfl, rfl⟩
theorem sm_mo_229 : sm_mok sm_Ts sm_P sm_N me_229 ⟨"ValleyMassModel", "peace", "()I"⟩ prog_12_method_74_code (some .int) [] := sm_mok_plain (own := 10) (by decide +kernel) rfl rfl (sm_ckP_all sm_k_229 (by decide +kernel)) ⟨_, rfl, rfl⟩
theorem sm_mo_230 : sm_mok sm_Ts sm_P sm_N me_230 ⟨"ValleyMassModel", "silent", "()I"⟩ prog_12_method_75_code (some .int) [] := sm_mok_plain (own := 10) (by decide +kernel) rfl rfl (sm_ckP_all sm_k_230 (by decide +kernel)) ⟨_, rfl, rfl⟩
theorem sm_mo_231 : sm_mok sm_Ts sm_P sm_N me_231 ⟨"ValleyMassModel", "falls", "(I)I"⟩ prog_12_method_76_code (some .int) [] := sm_mok_plain (own := 10) (by decide +kernel) rfl rfl (sm_ckP_all sm_k_231 (by decide +kernel)) ⟨_, rfl, rfl⟩
theorem sm_mo_232 : sm_mok sm_Ts sm_P sm_N me_232 ⟨"ValleyMassModel", "areAtOnce", "(I)Z"⟩ prog_12_method_77_code (some .boolean) [] := sm_mok_plain (own := 10) (by decide +kernel) rfl rfl (sm_ckP_all sm_k_232 (by decide +kernel)) ⟨_, rfl, rfl⟩
theorem sm_mo_233 : sm_mok sm_Ts sm_P sm_N me_233 ⟨"ValleyMassModel", "duet", "()I"⟩ prog_12_method_78_code (some .int) [] := sm_mok_plain (own := 10) (by decide +kernel) rfl rfl (sm_ckP_all sm_k_233 (by decide +kernel)) ⟨_, rfl, rfl⟩
theorem sm_mo_234 : sm_mok sm_Ts sm_P sm_N me_234 ⟨"ValleyMassModel", "evening", "()I"⟩ prog_12_method_79_code (some .int) [] := sm_mok_plain (own := 10) (by decide +kernel) rfl rfl (sm_ckP_all sm_k_234 (by decide +kernel)) ⟨_, rfl, rfl⟩
theorem sm_mo_235 : sm_mok sm_Ts sm_P sm_N me_235 ⟨"ValleyMassModel", "cast", "(II)I"⟩ prog_12_method_80_code (some .int) [] := sm_mok_plain (own := 10) (by decide +kernel) rfl rfl (sm_ckP_all sm_k_235 (by decide +kernel)) ⟨_, rfl, rfl⟩
theorem sm_mo_236 : sm_mok sm_Ts sm_P sm_N me_236 ⟨"ValleyMassModel", "isOnScale", "(II)Z"⟩ prog_12_method_81_code (some .boolean) [] := sm_mok_plain (own := 10) (by decide +kernel) rfl rfl (sm_ckP_all sm_k_236 (by decide +kernel)) ⟨_, rfl, rfl⟩
theorem sm_mo_237 : sm_mok sm_Ts sm_P sm_N me_237 ⟨"ValleyMassModel", "transposed", "(I)I"⟩ prog_12_method_82_code (some .int) [] := sm_mok_plain (own := 10) (by decide +kernel) rfl rfl (sm_ckP_all sm_k_237 (by decide +kernel)) ⟨_, rfl, rfl⟩
theorem sm_mo_238 : sm_mok sm_Ts sm_P sm_N me_238 ⟨"ValleyMassModel", "standIns", "(I)I"⟩ prog_12_method_83_code (some .int) [] := sm_mok_plain (own := 10) (by decide +kernel) rfl rfl (sm_ckP_all sm_k_238 (by decide +kernel)) ⟨_, rfl, rfl⟩
theorem sm_mo_239 : sm_mok sm_Ts sm_P sm_N me_239 ⟨"ValleyMassModel", "voices", "(II)I"⟩ prog_12_method_84_code (some .int) [] := sm_mok_plain (own := 10) (by decide +kernel) rfl rfl (sm_ckP_all sm_k_239 (by decide +kernel)) ⟨_, rfl, rfl⟩
theorem sm_mo_240 : sm_mok sm_Ts sm_P sm_N me_240 ⟨"ValleyMassModel", "lackingIn", "(I)I"⟩ prog_12_method_85_code (some .int) [] := sm_mok_plain (own := 10) (by decide +kernel) rfl rfl (sm_ckP_all sm_k_240 (by decide +kernel)) ⟨_, rfl, rfl⟩
theorem sm_mo_241 : sm_mok sm_Ts sm_P sm_N me_241 ⟨"ValleyMassModel", "lacking", "(II)I"⟩ prog_12_method_86_code (some .int) [] := sm_mok_plain (own := 10) (by decide +kernel) rfl rfl (sm_ckP_all sm_k_241 (by decide +kernel)) ⟨_, rfl, rfl⟩
theorem sm_mo_242 : sm_mok sm_Ts sm_P sm_N me_242 ⟨"ValleyMassModel", "widerFor", "(II)I"⟩ prog_12_method_87_code (some .int) [] := sm_mok_plain (own := 10) (by decide +kernel) rfl rfl (sm_ckP_all sm_k_242 (by decide +kernel)) ⟨_, rfl, rfl⟩
theorem sm_mo_243 : sm_mok sm_Ts sm_P sm_N me_243 ⟨"ValleyMassModel", "widen", "(II)I"⟩ prog_12_method_88_code (some .int) [] := sm_mok_plain (own := 10) (by decide +kernel) rfl rfl (sm_ckP_all sm_k_243 (by decide +kernel)) ⟨_, rfl, rfl⟩
theorem sm_mo_244 : sm_mok sm_Ts sm_P sm_N me_244 ⟨"ValleyMassModel", "bargain", "()I"⟩ prog_12_method_89_code (some .int) [] := sm_mok_plain (own := 10) (by decide +kernel) rfl rfl (sm_ckP_all sm_k_244 (by decide +kernel)) ⟨_, rfl, rfl⟩
theorem sm_mo_245 : sm_mok sm_Ts sm_P sm_N me_245 ⟨"ValleyMassModel", "casts", "(I)J"⟩ prog_12_method_90_code (some .long) [] := sm_mok_plain (own := 10) (by decide +kernel) rfl rfl (sm_ckP_all sm_k_245 (by decide +kernel)) ⟨_, rfl, rfl⟩
theorem sm_mo_246 : sm_mok sm_Ts sm_P sm_N me_246 ⟨"ValleyMassModel", "holds", "(I)Z"⟩ prog_12_method_91_code (some .boolean) [] := sm_mok_plain (own := 10) (by decide +kernel) rfl rfl (sm_ckP_all sm_k_246 (by decide +kernel)) ⟨_, rfl, rfl⟩
theorem sm_mo_247 : sm_mok sm_Ts sm_P sm_N me_247 ⟨"ValleyMassModel", "aimed", "(I)I"⟩ prog_12_method_92_code (some .int) [] := sm_mok_plain (own := 10) (by decide +kernel) rfl rfl (sm_ckP_all sm_k_247 (by decide +kernel)) ⟨_, rfl, rfl⟩
theorem sm_mo_248 : sm_mok sm_Ts sm_P sm_N me_248 ⟨"ValleyMassModel", "held", "(II)I"⟩ prog_12_method_93_code (some .int) [] := sm_mok_plain (own := 10) (by decide +kernel) rfl rfl (sm_ckP_all sm_k_248 (by decide +kernel)) ⟨_, rfl, rfl⟩
theorem sm_mo_249 : sm_mok sm_Ts sm_P sm_N me_249 ⟨"ValleyMassModel", "lost", "(I)I"⟩ prog_12_method_94_code (some .int) [] := sm_mok_plain (own := 10) (by decide +kernel) rfl rfl (sm_ckP_all sm_k_249 (by decide +kernel)) ⟨_, rfl, rfl⟩
theorem sm_mo_250 : sm_mok sm_Ts sm_P sm_N me_250 ⟨"ValleyMassModel", "gone", "(I)I"⟩ prog_12_method_95_code (some .int) [] := sm_mok_plain (own := 10) (by decide +kernel) rfl rfl (sm_ckP_all sm_k_250 (by decide +kernel)) ⟨_, rfl, rfl⟩
theorem sm_mo_251 : sm_mok sm_Ts sm_P sm_N me_251 ⟨"ValleyMassModel", "rows", "(I)I"⟩ prog_12_method_96_code (some .int) [] := sm_mok_plain (own := 10) (by decide +kernel) rfl rfl (sm_ckP_all sm_k_251 (by decide +kernel)) ⟨_, rfl, rfl⟩
theorem sm_mo_252 : sm_mok sm_Ts sm_P sm_N me_252 ⟨"ValleyMassModel", "portion", "(III)I"⟩ prog_12_method_97_code (some .int) [] := sm_mok_plain (own := 10) (by decide +kernel) rfl rfl (sm_ckP_all sm_k_252 (by decide +kernel)) ⟨_, rfl, rfl⟩
theorem sm_mo_253 : sm_mok sm_Ts sm_P sm_N me_253 ⟨"ValleyMassModel", "luck", "(III)I"⟩ prog_12_method_98_code (some .int) [] := sm_mok_plain (own := 10) (by decide +kernel) rfl rfl (sm_ckP_all sm_k_253 (by decide +kernel)) ⟨_, rfl, rfl⟩
theorem sm_mo_254 : sm_mok sm_Ts sm_P sm_N me_254 ⟨"ValleyMassModel", "notesIn", "(I)I"⟩ prog_12_method_99_code (some .int) [] := sm_mok_plain (own := 10) (by decide +kernel) rfl rfl (sm_ckP_all sm_k_254 (by decide +kernel)) ⟨_, rfl, rfl⟩
theorem sm_mo_255 : sm_mok sm_Ts sm_P sm_N me_255 ⟨"ValleyMassModel", "codesOf", "(II)J"⟩ prog_12_method_100_code (some .long) [] := sm_mok_plain (own := 10) (by decide +kernel) rfl rfl (sm_ckP_all sm_k_255 (by decide +kernel)) ⟨_, rfl, rfl⟩
theorem sm_mo_256 : sm_mok sm_Ts sm_P sm_N me_256 ⟨"ValleyMassModel", "codes", "(II)J"⟩ prog_12_method_101_code (some .long) [] := sm_mok_plain (own := 10) (by decide +kernel) rfl rfl (sm_ckP_all sm_k_256 (by decide +kernel)) ⟨_, rfl, rfl⟩
theorem sm_mo_257 : sm_mok sm_Ts sm_P sm_N me_257 ⟨"ValleyMassModel", "slips", "(II)I"⟩ prog_12_method_102_code (some .int) [] := sm_mok_plain (own := 10) (by decide +kernel) rfl rfl (sm_ckP_all sm_k_257 (by decide +kernel)) ⟨_, rfl, rfl⟩
theorem sm_mo_258 : sm_mok sm_Ts sm_P sm_N me_258 ⟨"ValleyMassModel", "hear", "(IIII)I"⟩ prog_12_method_103_code (some .int) [] := sm_mok_plain (own := 10) (by decide +kernel) rfl rfl (sm_ckP_all sm_k_258 (by decide +kernel)) ⟨_, rfl, rfl⟩
theorem sm_mo_259 : sm_mok sm_Ts sm_P sm_N me_259 ⟨"ValleyMassModel", "forget", "()V"⟩ prog_12_method_104_code (none) [] := sm_mok_plain (own := 10) (by decide +kernel) rfl rfl (sm_ckP_all sm_k_259 (by decide +kernel)) ⟨_, rfl, rfl⟩
theorem sm_mo_260 : sm_mok sm_Ts sm_P sm_N me_260 ⟨"ValleyMassModel", "isHeard", "(II)Z"⟩ prog_12_method_105_code (some .boolean) [] := sm_mok_plain (own := 10) (by decide +kernel) rfl rfl (sm_ckP_all sm_k_260 (by decide +kernel)) ⟨_, rfl, rfl⟩
theorem sm_mo_261 : sm_mok sm_Ts sm_P sm_N me_261 ⟨"ValleyMassModel", "flat", "(I)I"⟩ prog_12_method_106_code (some .int) [] := sm_mok_plain (own := 10) (by decide +kernel) rfl rfl (sm_ckP_all sm_k_261 (by decide +kernel)) ⟨_, rfl, rfl⟩
theorem sm_mo_262 : sm_mok sm_Ts sm_P sm_N me_262 ⟨"ValleyMassModel", "lays4", "(I)V"⟩ prog_12_method_107_code (none) [] := sm_mok_plain (own := 10) (by decide +kernel) rfl rfl (sm_ckP_all sm_k_262 (by decide +kernel)) ⟨_, rfl, rfl⟩
theorem sm_mo_263 : sm_mok sm_Ts sm_P sm_N me_263 ⟨"ValleyMassModel", "game", "(II)I"⟩ prog_12_method_108_code (some .int) [] := sm_mok_plain (own := 10) (by decide +kernel) rfl rfl (sm_ckP_all sm_k_263 (by decide +kernel)) ⟨_, rfl, rfl⟩
theorem sm_mo_264 : sm_mok sm_Ts sm_P sm_N me_264 ⟨"ValleyMassModel", "draw", "(I)I"⟩ prog_12_method_109_code (some .int) [] := sm_mok_plain (own := 10) (by decide +kernel) rfl rfl (sm_ckP_all sm_k_264 (by decide +kernel)) ⟨_, rfl, rfl⟩
theorem sm_mo_265 : sm_mok sm_Ts sm_P sm_N me_265 ⟨"ValleyMassModel", "wars", "(III)I"⟩ prog_12_method_110_code (some .int) [] := sm_mok_plain (own := 10) (by decide +kernel) rfl rfl (sm_ckP_all sm_k_265 (by decide +kernel)) ⟨_, rfl, rfl⟩
theorem sm_mo_266 : sm_mok sm_Ts sm_P sm_N me_266 ⟨"ValleyMassModel", "image", "()V"⟩ prog_12_method_111_code (none) [] := sm_mok_plain (own := 10) (by decide +kernel) rfl rfl (sm_ckP_all sm_k_266 (by decide +kernel)) ⟨_, rfl, rfl⟩
theorem sm_mo_267 : sm_mok sm_Ts sm_P sm_N me_267 ⟨"ValleyMassModel", "restore", "()Z"⟩ prog_12_method_112_code (some .boolean) [] := sm_mok_plain (own := 10) (by decide +kernel) rfl rfl (sm_ckP_all sm_k_267 (by decide +kernel)) ⟨_, rfl, rfl⟩
theorem sm_mo_268 : sm_mok sm_Ts sm_P sm_N me_268 ⟨"java/lang/Integer", "bitCount", "(I)I"⟩ prog_18_method_49_code (some .int) [] := sm_mok_plain (own := 11) (by decide +kernel) rfl rfl (sm_ckP_all sm_k_268 (by decide +kernel)) ⟨_, rfl, rfl⟩
theorem sm_mo_269 : sm_mok sm_Ts sm_P sm_N me_269 ⟨"java/lang/Math", "max", "(II)I"⟩ prog_19_method_65_code (some .int) [] := sm_mok_plain (own := 12) (by decide +kernel) rfl rfl (sm_ckP_all sm_k_269 (by decide +kernel)) ⟨_, rfl, rfl⟩
theorem sm_mo_270 : sm_mok sm_Ts sm_P sm_N me_270 ⟨"java/lang/Math", "min", "(II)I"⟩ prog_19_method_69_code (some .int) [] := sm_mok_plain (own := 12) (by decide +kernel) rfl rfl (sm_ckP_all sm_k_270 (by decide +kernel)) ⟨_, rfl, rfl⟩
theorem sm_mo_271 : sm_mok sm_Ts sm_P sm_N me_271 ⟨"ValleyMassLaw", "valley", "(LValleyMass;I[J)I"⟩ method_3_code (some .int) [(0, 9, 12, 13)] := sm_mok_hand (own := 13) (by decide +kernel) ⟨rfl, rfl⟩ (sm_ckP_all sm_k_271 (by decide +kernel)) ⟨_, rfl, rfl⟩ (by decide) (by decide) (by decide +kernel)
theorem sm_mo_272 : sm_mok sm_Ts sm_P sm_N me_272 ⟨"ValleyMassLaw", "count", "(LValleyMass;I[J)I"⟩ method_4_code (some .int) [(0, 9, 12, 18)] := sm_mok_hand (own := 13) (by decide +kernel) ⟨rfl, rfl⟩ (sm_ckP_all sm_k_272 (by decide +kernel)) ⟨_, rfl, rfl⟩ (by decide) (by decide) (by decide +kernel)
theorem sm_mo_273 : sm_mok sm_Ts sm_P sm_N me_273 ⟨"ValleyMassLaw", "singer", "(LValleyMass;II[J)I"⟩ method_5_code (some .int) [(0, 10, 13, 18)] := sm_mok_hand (own := 13) (by decide +kernel) ⟨rfl, rfl⟩ (sm_ckP_all sm_k_273 (by decide +kernel)) ⟨_, rfl, rfl⟩ (by decide) (by decide) (by decide +kernel)
theorem sm_mo_274 : sm_mok sm_Ts sm_P sm_N me_274 ⟨"ValleyMassLaw", "row", "(LValleyMass;III[J)I"⟩ method_6_code (some .int) [(0, 12, 15, 18)] := sm_mok_hand (own := 13) (by decide +kernel) ⟨rfl, rfl⟩ (sm_ckP_all sm_k_274 (by decide +kernel)) ⟨_, rfl, rfl⟩ (by decide) (by decide) (by decide +kernel)
theorem sm_mo_275 : sm_mok sm_Ts sm_P sm_N me_275 ⟨"ValleyMassLaw", "able", "(LValleyMass;II[J)I"⟩ method_7_code (some .int) [(0, 10, 13, 18)] := sm_mok_hand (own := 13) (by decide +kernel) ⟨rfl, rfl⟩ (sm_ckP_all sm_k_275 (by decide +kernel)) ⟨_, rfl, rfl⟩ (by decide) (by decide) (by decide +kernel)
theorem sm_mo_276 : sm_mok sm_Ts sm_P sm_N me_276 ⟨"ValleyMassLaw", "fall", "(LValleyMass;I[J)I"⟩ method_8_code (some .int) [(0, 16, 19, 18)] := sm_mok_hand (own := 13) (by decide +kernel) ⟨rfl, rfl⟩ (sm_ckP_all sm_k_276 (by decide +kernel)) ⟨_, rfl, rfl⟩ (by decide) (by decide) (by decide +kernel)
theorem sm_mo_277 : sm_mok sm_Ts sm_P sm_N me_277 ⟨"ValleyMassLaw", "catches", "(LValleyMass;I[J)I"⟩ method_9_code (some .int) [(0, 16, 19, 18)] := sm_mok_hand (own := 13) (by decide +kernel) ⟨rfl, rfl⟩ (sm_ckP_all sm_k_277 (by decide +kernel)) ⟨_, rfl, rfl⟩ (by decide) (by decide) (by decide +kernel)
theorem sm_mo_278 : sm_mok sm_Ts sm_P sm_N me_278 ⟨"ValleyMassLaw", "release", "(LValleyMass;I[J)I"⟩ method_10_code (some .int) [(0, 16, 19, 18)] := sm_mok_hand (own := 13) (by decide +kernel) ⟨rfl, rfl⟩ (sm_ckP_all sm_k_278 (by decide +kernel)) ⟨_, rfl, rfl⟩ (by decide) (by decide) (by decide +kernel)
theorem sm_mo_279 : sm_mok sm_Ts sm_P sm_N me_279 ⟨"ValleyMassLaw", "exchange", "(LValleyMass;II[J)I"⟩ method_11_code (some .int) [(0, 17, 20, 18)] := sm_mok_hand (own := 13) (by decide +kernel) ⟨rfl, rfl⟩ (sm_ckP_all sm_k_279 (by decide +kernel)) ⟨_, rfl, rfl⟩ (by decide) (by decide) (by decide +kernel)
theorem sm_mo_280 : sm_mok sm_Ts sm_P sm_N me_280 ⟨"ValleyMassLaw", "moved", "(LValleyMass;I[J)I"⟩ method_12_code (some .int) [(0, 9, 12, 18)] := sm_mok_hand (own := 13) (by decide +kernel) ⟨rfl, rfl⟩ (sm_ckP_all sm_k_280 (by decide +kernel)) ⟨_, rfl, rfl⟩ (by decide) (by decide) (by decide +kernel)
theorem sm_mo_281 : sm_mok sm_Ts sm_P sm_N me_281 ⟨"ValleyMassLaw", "spare", "(LValleyMass;I[J)I"⟩ method_13_code (some .int) [(0, 9, 12, 18)] := sm_mok_hand (own := 13) (by decide +kernel) ⟨rfl, rfl⟩ (sm_ckP_all sm_k_281 (by decide +kernel)) ⟨_, rfl, rfl⟩ (by decide) (by decide) (by decide +kernel)
theorem sm_mo_282 : sm_mok sm_Ts sm_P sm_N me_282 ⟨"ValleyMassLaw", "ransom", "(LValleyMass;I[J)I"⟩ method_14_code (some .int) [(0, 9, 12, 18)] := sm_mok_hand (own := 13) (by decide +kernel) ⟨rfl, rfl⟩ (sm_ckP_all sm_k_282 (by decide +kernel)) ⟨_, rfl, rfl⟩ (by decide) (by decide) (by decide +kernel)
theorem sm_mo_283 : sm_mok sm_Ts sm_P sm_N me_283 ⟨"ValleyMassLaw", "luck", "(LValleyMass;III[J)I"⟩ method_15_code (some .int) [(0, 12, 15, 18), (0, 12, 19, 13)] := sm_mok_hand (own := 13) (by decide +kernel) ⟨rfl, rfl⟩ (sm_ckP_all sm_k_283 (by decide +kernel)) ⟨_, rfl, rfl⟩ (by decide) (by decide) (by decide +kernel)
theorem sm_mo_284 : sm_mok sm_Ts sm_P sm_N me_284 ⟨"ValleyMassLaw", "codes", "(LValleyMass;II[J)I"⟩ method_16_code (some .int) [(0, 9, 12, 18), (0, 9, 16, 13)] := sm_mok_hand (own := 13) (by decide +kernel) ⟨rfl, rfl⟩ (sm_ckP_all sm_k_284 (by decide +kernel)) ⟨_, rfl, rfl⟩ (by decide) (by decide) (by decide +kernel)
theorem sm_mo_285 : sm_mok sm_Ts sm_P sm_N me_285 ⟨"ValleyMassLaw", "slips", "(LValleyMass;II[J)I"⟩ method_17_code (some .int) [(0, 10, 13, 18), (0, 10, 17, 13)] := sm_mok_hand (own := 13) (by decide +kernel) ⟨rfl, rfl⟩ (sm_ckP_all sm_k_285 (by decide +kernel)) ⟨_, rfl, rfl⟩ (by decide) (by decide) (by decide +kernel)
theorem sm_mo_286 : sm_mok sm_Ts sm_P sm_N me_286 ⟨"ValleyMassLaw", "hear", "(LValleyMass;IIII[J)I"⟩ method_18_code (some .int) [(0, 14, 17, 18)] := sm_mok_hand (own := 13) (by decide +kernel) ⟨rfl, rfl⟩ (sm_ckP_all sm_k_286 (by decide +kernel)) ⟨_, rfl, rfl⟩ (by decide) (by decide) (by decide +kernel)
theorem sm_mo_287 : sm_mok sm_Ts sm_P sm_N me_287 ⟨"ValleyMassLaw", "flat", "(LValleyMass;I[J)I"⟩ method_19_code (some .int) [(0, 9, 12, 18)] := sm_mok_hand (own := 13) (by decide +kernel) ⟨rfl, rfl⟩ (sm_ckP_all sm_k_287 (by decide +kernel)) ⟨_, rfl, rfl⟩ (by decide) (by decide) (by decide +kernel)
theorem sm_mo_288 : sm_mok sm_Ts sm_P sm_N me_288 ⟨"ValleyMassLaw", "game", "(LValleyMass;II[J)I"⟩ method_20_code (some .int) [(0, 10, 13, 18), (0, 10, 17, 13)] := sm_mok_hand (own := 13) (by decide +kernel) ⟨rfl, rfl⟩ (sm_ckP_all sm_k_288 (by decide +kernel)) ⟨_, rfl, rfl⟩ (by decide) (by decide) (by decide +kernel)
theorem sm_mo_289 : sm_mok sm_Ts sm_P sm_N me_289 ⟨"ValleyMassLaw", "wars", "(LValleyMass;III[J)I"⟩ method_21_code (some .int) [(0, 12, 15, 18), (0, 12, 19, 13)] := sm_mok_hand (own := 13) (by decide +kernel) ⟨rfl, rfl⟩ (sm_ckP_all sm_k_289 (by decide +kernel)) ⟨_, rfl, rfl⟩ (by decide) (by decide) (by decide +kernel)
theorem sm_mo_290 : sm_mok sm_Ts sm_P sm_N me_290 ⟨"ValleyMassLaw", "cast", "(LValleyMass;II[J)I"⟩ method_22_code (some .int) [(0, 10, 13, 18)] := sm_mok_hand (own := 13) (by decide +kernel) ⟨rfl, rfl⟩ (sm_ckP_all sm_k_290 (by decide +kernel)) ⟨_, rfl, rfl⟩ (by decide) (by decide) (by decide +kernel)
theorem sm_mo_291 : sm_mok sm_Ts sm_P sm_N me_291 ⟨"ValleyMassLaw", "transposed", "(LValleyMass;I[J)I"⟩ method_23_code (some .int) [(0, 9, 12, 18)] := sm_mok_hand (own := 13) (by decide +kernel) ⟨rfl, rfl⟩ (sm_ckP_all sm_k_291 (by decide +kernel)) ⟨_, rfl, rfl⟩ (by decide) (by decide) (by decide +kernel)
theorem sm_mo_292 : sm_mok sm_Ts sm_P sm_N me_292 ⟨"ValleyMassLaw", "standIns", "(LValleyMass;I[J)I"⟩ method_24_code (some .int) [(0, 9, 12, 18)] := sm_mok_hand (own := 13) (by decide +kernel) ⟨rfl, rfl⟩ (sm_ckP_all sm_k_292 (by decide +kernel)) ⟨_, rfl, rfl⟩ (by decide) (by decide) (by decide +kernel)
theorem sm_mo_293 : sm_mok sm_Ts sm_P sm_N me_293 ⟨"ValleyMassLaw", "falls", "(LValleyMass;I[J)I"⟩ method_25_code (some .int) [(0, 9, 12, 13)] := sm_mok_hand (own := 13) (by decide +kernel) ⟨rfl, rfl⟩ (sm_ckP_all sm_k_293 (by decide +kernel)) ⟨_, rfl, rfl⟩ (by decide) (by decide) (by decide +kernel)
theorem sm_mo_294 : sm_mok sm_Ts sm_P sm_N me_294 ⟨"ValleyMassLaw", "voices", "(LValleyMass;II[J)I"⟩ method_26_code (some .int) [(0, 10, 13, 18)] := sm_mok_hand (own := 13) (by decide +kernel) ⟨rfl, rfl⟩ (sm_ckP_all sm_k_294 (by decide +kernel)) ⟨_, rfl, rfl⟩ (by decide) (by decide) (by decide +kernel)
theorem sm_mo_295 : sm_mok sm_Ts sm_P sm_N me_295 ⟨"ValleyMassLaw", "lacking", "(LValleyMass;II[J)I"⟩ method_27_code (some .int) [(0, 10, 13, 18)] := sm_mok_hand (own := 13) (by decide +kernel) ⟨rfl, rfl⟩ (sm_ckP_all sm_k_295 (by decide +kernel)) ⟨_, rfl, rfl⟩ (by decide) (by decide) (by decide +kernel)
theorem sm_mo_296 : sm_mok sm_Ts sm_P sm_N me_296 ⟨"ValleyMassLaw", "widen", "(LValleyMass;II[J)I"⟩ method_28_code (some .int) [(0, 10, 13, 18)] := sm_mok_hand (own := 13) (by decide +kernel) ⟨rfl, rfl⟩ (sm_ckP_all sm_k_296 (by decide +kernel)) ⟨_, rfl, rfl⟩ (by decide) (by decide) (by decide +kernel)
theorem sm_mo_297 : sm_mok sm_Ts sm_P sm_N me_297 ⟨"ValleyMassLaw", "casts", "(LValleyMass;I[J)I"⟩ method_29_code (some .int) [(0, 8, 11, 18)] := sm_mok_hand (own := 13) (by decide +kernel) ⟨rfl, rfl⟩ (sm_ckP_all sm_k_297 (by decide +kernel)) ⟨_, rfl, rfl⟩ (by decide) (by decide) (by decide +kernel)
theorem sm_mo_298 : sm_mok sm_Ts sm_P sm_N me_298 ⟨"ValleyMassLaw", "holds", "(LValleyMass;I[J)I"⟩ method_30_code (some .int) [(0, 16, 19, 18)] := sm_mok_hand (own := 13) (by decide +kernel) ⟨rfl, rfl⟩ (sm_ckP_all sm_k_298 (by decide +kernel)) ⟨_, rfl, rfl⟩ (by decide) (by decide) (by decide +kernel)
theorem sm_mo_299 : sm_mok sm_Ts sm_P sm_N me_299 ⟨"ValleyMassLaw", "aimed", "(LValleyMass;I[J)I"⟩ method_31_code (some .int) [(0, 9, 12, 18)] := sm_mok_hand (own := 13) (by decide +kernel) ⟨rfl, rfl⟩ (sm_ckP_all sm_k_299 (by decide +kernel)) ⟨_, rfl, rfl⟩ (by decide) (by decide) (by decide +kernel)
theorem sm_mo_300 : sm_mok sm_Ts sm_P sm_N me_300 ⟨"ValleyMassLaw", "held", "(LValleyMass;II[J)I"⟩ method_32_code (some .int) [(0, 10, 13, 18), (0, 10, 17, 13)] := sm_mok_hand (own := 13) (by decide +kernel) ⟨rfl, rfl⟩ (sm_ckP_all sm_k_300 (by decide +kernel)) ⟨_, rfl, rfl⟩ (by decide) (by decide) (by decide +kernel)
theorem sm_mo_301 : sm_mok sm_Ts sm_P sm_N me_301 ⟨"ValleyMassLaw", "lost", "(LValleyMass;I[J)I"⟩ method_33_code (some .int) [(0, 9, 12, 18)] := sm_mok_hand (own := 13) (by decide +kernel) ⟨rfl, rfl⟩ (sm_ckP_all sm_k_301 (by decide +kernel)) ⟨_, rfl, rfl⟩ (by decide) (by decide) (by decide +kernel)
theorem sm_mo_302 : sm_mok sm_Ts sm_P sm_N me_302 ⟨"ValleyMassLaw", "gone", "(LValleyMass;I[J)I"⟩ method_34_code (some .int) [(0, 9, 12, 18)] := sm_mok_hand (own := 13) (by decide +kernel) ⟨rfl, rfl⟩ (sm_ckP_all sm_k_302 (by decide +kernel)) ⟨_, rfl, rfl⟩ (by decide) (by decide) (by decide +kernel)
theorem sm_mo_303 : sm_mok sm_Ts sm_P sm_N me_303 ⟨"ValleyMassLaw", "rows", "(LValleyMass;I[J)I"⟩ method_35_code (some .int) [(0, 9, 12, 18)] := sm_mok_hand (own := 13) (by decide +kernel) ⟨rfl, rfl⟩ (sm_ckP_all sm_k_303 (by decide +kernel)) ⟨_, rfl, rfl⟩ (by decide) (by decide) (by decide +kernel)
set_option maxRecDepth 100000 in
theorem sm_lawlen : mc_304.length = 1544 := by decide +kernel
theorem sm_lawk (k : Nat) (e : sm_E) (hk : mc_304[k]? = some e) : sm_ckE 13 code mc_304 (some .boolean) k e = true := by
  have h1 := (List.getElem?_eq_some_iff.mp hk).1
  have hl := sm_lawlen
  rcases (show (0 ≤ k ∧ k < 50) ∨ (50 ≤ k ∧ k < 100) ∨ (100 ≤ k ∧ k < 150) ∨ (150 ≤ k ∧ k < 200) ∨ (200 ≤ k ∧ k < 250) ∨ (250 ≤ k ∧ k < 300) ∨ (300 ≤ k ∧ k < 350) ∨ (350 ≤ k ∧ k < 400) ∨ (400 ≤ k ∧ k < 450) ∨ (450 ≤ k ∧ k < 500) ∨ (500 ≤ k ∧ k < 550) ∨ (550 ≤ k ∧ k < 600) ∨ (600 ≤ k ∧ k < 650) ∨ (650 ≤ k ∧ k < 700) ∨ (700 ≤ k ∧ k < 750) ∨ (750 ≤ k ∧ k < 800) ∨ (800 ≤ k ∧ k < 850) ∨ (850 ≤ k ∧ k < 900) ∨ (900 ≤ k ∧ k < 950) ∨ (950 ≤ k ∧ k < 1000) ∨ (1000 ≤ k ∧ k < 1050) ∨ (1050 ≤ k ∧ k < 1100) ∨ (1100 ≤ k ∧ k < 1150) ∨ (1150 ≤ k ∧ k < 1200) ∨ (1200 ≤ k ∧ k < 1250) ∨ (1250 ≤ k ∧ k < 1300) ∨ (1300 ≤ k ∧ k < 1350) ∨ (1350 ≤ k ∧ k < 1400) ∨ (1400 ≤ k ∧ k < 1450) ∨ (1450 ≤ k ∧ k < 1500) ∨ (1500 ≤ k ∧ k < 1544) by omega) with h | h | h | h | h | h | h | h | h | h | h | h | h | h | h | h | h | h | h | h | h | h | h | h | h | h | h | h | h | h | h
  · exact sm_ckP_at sm_k_304_0 h.1 h.2 hk
  · exact sm_ckP_at sm_k_304_50 h.1 h.2 hk
  · exact sm_ckP_at sm_k_304_100 h.1 h.2 hk
  · exact sm_ckP_at sm_k_304_150 h.1 h.2 hk
  · exact sm_ckP_at sm_k_304_200 h.1 h.2 hk
  · exact sm_ckP_at sm_k_304_250 h.1 h.2 hk
  · exact sm_ckP_at sm_k_304_300 h.1 h.2 hk
  · exact sm_ckP_at sm_k_304_350 h.1 h.2 hk
  · exact sm_ckP_at sm_k_304_400 h.1 h.2 hk
  · exact sm_ckP_at sm_k_304_450 h.1 h.2 hk
  · exact sm_ckP_at sm_k_304_500 h.1 h.2 hk
  · exact sm_ckP_at sm_k_304_550 h.1 h.2 hk
  · exact sm_ckP_at sm_k_304_600 h.1 h.2 hk
  · exact sm_ckP_at sm_k_304_650 h.1 h.2 hk
  · exact sm_ckP_at sm_k_304_700 h.1 h.2 hk
  · exact sm_ckP_at sm_k_304_750 h.1 h.2 hk
  · exact sm_ckP_at sm_k_304_800 h.1 h.2 hk
  · exact sm_ckP_at sm_k_304_850 h.1 h.2 hk
  · exact sm_ckP_at sm_k_304_900 h.1 h.2 hk
  · exact sm_ckP_at sm_k_304_950 h.1 h.2 hk
  · exact sm_ckP_at sm_k_304_1000 h.1 h.2 hk
  · exact sm_ckP_at sm_k_304_1050 h.1 h.2 hk
  · exact sm_ckP_at sm_k_304_1100 h.1 h.2 hk
  · exact sm_ckP_at sm_k_304_1150 h.1 h.2 hk
  · exact sm_ckP_at sm_k_304_1200 h.1 h.2 hk
  · exact sm_ckP_at sm_k_304_1250 h.1 h.2 hk
  · exact sm_ckP_at sm_k_304_1300 h.1 h.2 hk
  · exact sm_ckP_at sm_k_304_1350 h.1 h.2 hk
  · exact sm_ckP_at sm_k_304_1400 h.1 h.2 hk
  · exact sm_ckP_at sm_k_304_1450 h.1 h.2 hk
  · exact sm_ckP_at sm_k_304_1500 h.1 h.2 hk
theorem sm_mo_304 : sm_mok sm_Ts sm_P sm_N me_304 ⟨"ValleyMassLaw", "law", "([I)Z"⟩ code (some .boolean) [] := sm_mok_plain (own := 13) (by decide +kernel) rfl rfl sm_lawk ⟨_, rfl, rfl⟩
def sm_moks : List sm_Me → List sm_In → Prop
  | me :: ms, q :: qs => sm_mok sm_Ts sm_P sm_N me q.1 q.2.1 q.2.2.1 q.2.2.2 ∧ sm_moks ms qs
  | _, _ => True
theorem sm_moks_at : ∀ {ms : List sm_Me} {qs : List sm_In} {n : Nat} {q : sm_In} {me : sm_Me}, sm_moks ms qs → ms[n]? = some me → qs[n]? = some q → sm_mok sm_Ts sm_P sm_N me q.1 q.2.1 q.2.2.1 q.2.2.2
  | me :: ms, q :: qs, 0, _, _, h, h1, h2 => by
    simp at h1 h2
    subst h1; subst h2
    exact h.1
  | me :: ms, q :: qs, n + 1, _, _, h, h1, h2 => sm_moks_at (n := n) h.2 (by simpa using h1) (by simpa using h2)
  | [], _, n, _, _, _, h1, _ => by simp at h1
  | _ :: _, [], n, _, _, _, _, h2 => by simp at h2
set_option maxRecDepth 100000 in
theorem sm_moks_all : sm_moks sm_P sm_N := ⟨sm_mo_0, sm_mo_1, sm_mo_2, sm_mo_3, sm_mo_4, sm_mo_5, sm_mo_6, sm_mo_7, sm_mo_8, sm_mo_9, sm_mo_10, sm_mo_11, sm_mo_12, sm_mo_13, sm_mo_14, sm_mo_15, sm_mo_16, sm_mo_17, sm_mo_18, sm_mo_19, sm_mo_20, sm_mo_21, sm_mo_22, sm_mo_23, sm_mo_24, sm_mo_25, sm_mo_26, sm_mo_27, sm_mo_28, sm_mo_29, sm_mo_30, sm_mo_31, sm_mo_32, sm_mo_33, sm_mo_34, sm_mo_35, sm_mo_36, sm_mo_37, sm_mo_38, sm_mo_39, sm_mo_40, sm_mo_41, sm_mo_42, sm_mo_43, sm_mo_44, sm_mo_45, sm_mo_46, sm_mo_47, sm_mo_48, sm_mo_49, sm_mo_50, sm_mo_51, sm_mo_52, sm_mo_53, sm_mo_54, sm_mo_55, sm_mo_56, sm_mo_57, sm_mo_58, sm_mo_59, sm_mo_60, sm_mo_61, sm_mo_62, sm_mo_63, sm_mo_64, sm_mo_65, sm_mo_66, sm_mo_67, sm_mo_68, sm_mo_69, sm_mo_70, sm_mo_71, sm_mo_72, sm_mo_73, sm_mo_74, sm_mo_75, sm_mo_76, sm_mo_77, sm_mo_78, sm_mo_79, sm_mo_80, sm_mo_81, sm_mo_82, sm_mo_83, sm_mo_84, sm_mo_85, sm_mo_86, sm_mo_87, sm_mo_88, sm_mo_89, sm_mo_90, sm_mo_91, sm_mo_92, sm_mo_93, sm_mo_94, sm_mo_95, sm_mo_96, sm_mo_97, sm_mo_98, sm_mo_99, sm_mo_100, sm_mo_101, sm_mo_102, sm_mo_103, sm_mo_104, sm_mo_105, sm_mo_106, sm_mo_107, sm_mo_108, sm_mo_109, sm_mo_110, sm_mo_111, sm_mo_112, sm_mo_113, sm_mo_114, sm_mo_115, sm_mo_116, sm_mo_117, sm_mo_118, sm_mo_119, sm_mo_120, sm_mo_121, sm_mo_122, sm_mo_123, sm_mo_124, sm_mo_125, sm_mo_126, sm_mo_127, sm_mo_128, sm_mo_129, sm_mo_130, sm_mo_131, sm_mo_132, sm_mo_133, sm_mo_134, sm_mo_135, sm_mo_136, sm_mo_137, sm_mo_138, sm_mo_139, sm_mo_140, sm_mo_141, sm_mo_142, sm_mo_143, sm_mo_144, sm_mo_145, sm_mo_146, sm_mo_147, sm_mo_148, sm_mo_149, sm_mo_150, sm_mo_151, sm_mo_152, sm_mo_153, sm_mo_154, sm_mo_155, sm_mo_156, sm_mo_157, sm_mo_158, sm_mo_159, sm_mo_160, sm_mo_161, sm_mo_162, sm_mo_163, sm_mo_164, sm_mo_165, sm_mo_166, sm_mo_167, sm_mo_168, sm_mo_169, sm_mo_170, sm_mo_171, sm_mo_172, sm_mo_173, sm_mo_174, sm_mo_175, sm_mo_176, sm_mo_177, sm_mo_178, sm_mo_179, sm_mo_180, sm_mo_181, sm_mo_182, sm_mo_183, sm_mo_184, sm_mo_185, sm_mo_186, sm_mo_187, sm_mo_188, sm_mo_189, sm_mo_190, sm_mo_191, sm_mo_192, sm_mo_193, sm_mo_194, sm_mo_195, sm_mo_196, sm_mo_197, sm_mo_198, sm_mo_199, sm_mo_200, sm_mo_201, sm_mo_202, sm_mo_203, sm_mo_204, sm_mo_205, sm_mo_206, sm_mo_207, sm_mo_208, sm_mo_209, sm_mo_210, sm_mo_211, sm_mo_212, sm_mo_213, sm_mo_214, sm_mo_215, sm_mo_216, sm_mo_217, sm_mo_218, sm_mo_219, sm_mo_220, sm_mo_221, sm_mo_222, sm_mo_223, sm_mo_224, sm_mo_225, sm_mo_226, sm_mo_227, sm_mo_228, sm_mo_229, sm_mo_230, sm_mo_231, sm_mo_232, sm_mo_233, sm_mo_234, sm_mo_235, sm_mo_236, sm_mo_237, sm_mo_238, sm_mo_239, sm_mo_240, sm_mo_241, sm_mo_242, sm_mo_243, sm_mo_244, sm_mo_245, sm_mo_246, sm_mo_247, sm_mo_248, sm_mo_249, sm_mo_250, sm_mo_251, sm_mo_252, sm_mo_253, sm_mo_254, sm_mo_255, sm_mo_256, sm_mo_257, sm_mo_258, sm_mo_259, sm_mo_260, sm_mo_261, sm_mo_262, sm_mo_263, sm_mo_264, sm_mo_265, sm_mo_266, sm_mo_267, sm_mo_268, sm_mo_269, sm_mo_270, sm_mo_271, sm_mo_272, sm_mo_273, sm_mo_274, sm_mo_275, sm_mo_276, sm_mo_277, sm_mo_278, sm_mo_279, sm_mo_280, sm_mo_281, sm_mo_282, sm_mo_283, sm_mo_284, sm_mo_285, sm_mo_286, sm_mo_287, sm_mo_288, sm_mo_289, sm_mo_290, sm_mo_291, sm_mo_292, sm_mo_293, sm_mo_294, sm_mo_295, sm_mo_296, sm_mo_297, sm_mo_298, sm_mo_299, sm_mo_300, sm_mo_301, sm_mo_302, sm_mo_303, sm_mo_304, trivial⟩
theorem sm_hM (y : Nat) (me : sm_Me) (nm : MethodName) (bytes : ByteArray) (ret : Option FieldType) (hh : List (Nat × Nat × Nat × Nat)) (h1 : sm_P[y]? = some me) (h2 : sm_N[y]? = some (nm, bytes, ret, hh)) : sm_mok sm_Ts sm_P sm_N me nm bytes ret hh := sm_moks_at sm_moks_all h1 h2
