/-! ===== String.length() and String.charAt(i) of the one text ===== -/
def jS : String := "java/lang/String"
def jy_coder : MethodName := ⟨jS, "coder", "()B"⟩
def jy_latin : MethodName := ⟨jS, "isLatin1", "()Z"⟩
def jy_chk : MethodName := ⟨jS, "checkIndex", "(II)V"⟩
def jy_lchr : MethodName := ⟨"java/lang/StringLatin1", "charAt", "([BI)C"⟩
def jy_pre : MethodName := ⟨"jdk/internal/util/Preconditions", "checkIndex", "(IILjava/util/function/BiFunction;)I"⟩
/-- the words that they take -/
def sm_jw : List Cond := [.code sm_strlen prog_21_method_54_code 1 (some .int), .code sm_strchr prog_21_method_56_code 2 (some .char), .code jy_coder prog_21_method_152_code 1 (some .byte), .code jy_latin prog_21_method_154_code 1 (some .boolean), .code jy_chk prog_21_method_155_code 2 none, .code jy_lchr prog_22_method_2_code 2 (some .char), .code jy_pre prog_29_method_11_code 3 (some .int),
  .fieldLink jS 38 jS "COMPACT_STRINGS" "Z", .fieldLink jS 15 jS "coder" "B", .fieldLink jS 9 jS "value" "[B", .fieldLink jS 1053 "jdk/internal/util/Preconditions" "SIOOBE_FORMATTER" "Ljava/util/function/BiFunction;",
  .methodLink jS 335 jy_coder, .instanceMethod jy_coder, .selects jS jy_coder jy_coder, .methodLink jS 492 jy_latin, .instanceMethod jy_latin, .selects jS jy_latin jy_latin, .methodLink jS 495 jy_lchr, .static jy_lchr, .methodLink "java/lang/StringLatin1" 9 jy_chk, .static jy_chk, .methodLink jS 1059 jy_pre, .static jy_pre,
  .initialized jS, .initialized "java/lang/StringLatin1", .initialized "jdk/internal/util/Preconditions", .instanceMethod sm_strlen, .selects jS sm_strlen sm_strlen, .instanceMethod sm_strchr, .selects jS sm_strchr sm_strchr]
/-- what is known of the text, at a state and a heap -/
def sm_tf (A : Nat → Prop) (a0 t0 : Nat) (U : State) (H : Heap) : Prop := va_O jS a0 A U H ∧ va_OF jS "coder" "B" (.int 0) a0 A U H ∧ va_OF jS "value" "[B" (.ref t0) a0 A U H ∧ va_T .byte t0 130 (fun j => .int (sm_byt.getD j 0)) A U H ∧ va_Z jS "COMPACT_STRINGS" "Z" (.int 1) A U H ∧ va_Zq "jdk/internal/util/Preconditions" "SIOOBE_FORMATTER" "Ljava/util/function/BiFunction;" A U H
theorem sm_tf.moved {A : Nat → Prop} {a0 t0 : Nat} {u U : State} {H : Heap} (hvm : u.vm.Alike U.vm) (h : sm_tf A a0 t0 u H) : sm_tf A a0 t0 U H :=
  ⟨h.1.moved hvm, h.2.1.moved hvm, h.2.2.1.moved hvm, h.2.2.2.1.moved hvm, h.2.2.2.2.1.moved hvm, h.2.2.2.2.2.moved hvm⟩
def sm_Pt (A : Nat → Prop) (a0 t0 : Nat) (av : List Value) : Array Value → State → Prop := fun a U => a = av.toArray ∧ sm_tf A a0 t0 U U.heap
def sm_Qt (v : Option Value) : Array Value → State → Outcome → State → Prop := fun _ st o t => o = .returned v ∧ t.heap = st.heap
theorem sm_Pt.blind {A : Nat → Prop} {a0 t0 : Nat} {av : List Value} : FrameBlind (sm_Pt A a0 t0 av) := fun a U g mk h => ⟨h.1, h.2.moved (U := U.calling g mk a) (Vm.Alike.refl U.vm)⟩
def sm_rt0 (k : Nat) : Room := { frames := k, cells := 0, slots := 0, locals := 40 * k }
section STX
variable {p : Program} {l : Launch} {e : Env} {R : Room} {s : State} {m : MethodId} {args : Array Value} {below : List Frame} {meth : Method} {c : Code} {H : Heap} {locs : List Loc} {cells slots : Nat} {Q : State → Prop} {pc : Nat} {ls : Array Slot} {rest st0 : List Value}
theorem sm_goT {v : Option Value} {aa : Array Value} (hr : va_Run p l e R s m args below meth c H locs cells slots 0 0 (F0 m pc ls st0) rest (sm_Qt v aa) (fun _ => False)) (kk : W p l e R s m args below meth c H locs cells slots Q (F0 m (pc + 3) ls (v.toList ++ rest))) : W p l e R s m args below meth c H locs cells slots Q (F0 m pc ls st0) := by
  intro T hT X
  obtain ⟨w, st₀, t, T', L, h0, X', hL, e1, e2, ⟨hv, hh⟩, st⟩ := hr T hT X
  cases hv
  have hL0 : L = [] := by
    cases L with
    | nil => rfl
    | cons q r => exact (hL q List.mem_cons_self).elim
  subst hL0
  rw [List.append_nil] at X'
  obtain ⟨t2, a1, b1⟩ := kk T' (by rw [e1, hh, h0]) X'
  exact ⟨t2, st t2 a1, b1⟩
end STX
theorem sm_gi {Ts : List Cond} {w : Cond} (hgood : Ts.all goodWord = true) (hw : w ∈ Ts) : GoodIn Ts (w :: Ts) := fun z hz => by
  have hz2 : z ∈ Ts := by
    rcases List.mem_cons.mp hz with rfl | h
    · exact hw
    · exact h
  exact ⟨hz2, good_of_word (List.all_eq_true.mp hgood z hz2)⟩
theorem dt_len_0 : decode prog_21_method_54_code 0 = .ok (.aload_n 0, 1) := by decide +kernel
theorem dt_len_1 : decode prog_21_method_54_code 1 = .ok (.getfield 9, 3) := by decide +kernel
theorem dt_len_4 : decode prog_21_method_54_code 4 = .ok (.arraylength, 1) := by decide +kernel
theorem dt_len_5 : decode prog_21_method_54_code 5 = .ok (.aload_n 0, 1) := by decide +kernel
theorem dt_len_6 : decode prog_21_method_54_code 6 = .ok (.invokevirtual 335, 3) := by decide +kernel
theorem dt_len_9 : decode prog_21_method_54_code 9 = .ok (.ishr, 1) := by decide +kernel
theorem dt_len_10 : decode prog_21_method_54_code 10 = .ok (.ireturn, 1) := by decide +kernel
theorem dt_chr_0 : decode prog_21_method_56_code 0 = .ok (.aload_n 0, 1) := by decide +kernel
theorem dt_chr_1 : decode prog_21_method_56_code 1 = .ok (.invokevirtual 492, 3) := by decide +kernel
theorem dt_chr_4 : decode prog_21_method_56_code 4 = .ok (.ifCond .eq 12, 3) := by decide +kernel
theorem dt_chr_7 : decode prog_21_method_56_code 7 = .ok (.aload_n 0, 1) := by decide +kernel
theorem dt_chr_8 : decode prog_21_method_56_code 8 = .ok (.getfield 9, 3) := by decide +kernel
theorem dt_chr_11 : decode prog_21_method_56_code 11 = .ok (.iload_n 1, 1) := by decide +kernel
theorem dt_chr_12 : decode prog_21_method_56_code 12 = .ok (.invokestatic 495, 3) := by decide +kernel
theorem dt_chr_15 : decode prog_21_method_56_code 15 = .ok (.ireturn, 1) := by decide +kernel
theorem dt_chr_16 : decode prog_21_method_56_code 16 = .ok (.aload_n 0, 1) := by decide +kernel
theorem dt_chr_17 : decode prog_21_method_56_code 17 = .ok (.getfield 9, 3) := by decide +kernel
theorem dt_chr_20 : decode prog_21_method_56_code 20 = .ok (.iload_n 1, 1) := by decide +kernel
theorem dt_chr_21 : decode prog_21_method_56_code 21 = .ok (.invokestatic 498, 3) := by decide +kernel
theorem dt_chr_24 : decode prog_21_method_56_code 24 = .ok (.ireturn, 1) := by decide +kernel
theorem dt_coder_0 : decode prog_21_method_152_code 0 = .ok (.getstatic 38, 3) := by decide +kernel
theorem dt_coder_3 : decode prog_21_method_152_code 3 = .ok (.ifCond .eq 10, 3) := by decide +kernel
theorem dt_coder_6 : decode prog_21_method_152_code 6 = .ok (.aload_n 0, 1) := by decide +kernel
theorem dt_coder_7 : decode prog_21_method_152_code 7 = .ok (.getfield 15, 3) := by decide +kernel
theorem dt_coder_10 : decode prog_21_method_152_code 10 = .ok (.goto 4, 3) := by decide +kernel
theorem dt_coder_13 : decode prog_21_method_152_code 13 = .ok (.iconst 1, 1) := by decide +kernel
theorem dt_coder_14 : decode prog_21_method_152_code 14 = .ok (.ireturn, 1) := by decide +kernel
theorem dt_latin_0 : decode prog_21_method_154_code 0 = .ok (.getstatic 38, 3) := by decide +kernel
theorem dt_latin_3 : decode prog_21_method_154_code 3 = .ok (.ifCond .eq 14, 3) := by decide +kernel
theorem dt_latin_6 : decode prog_21_method_154_code 6 = .ok (.aload_n 0, 1) := by decide +kernel
theorem dt_latin_7 : decode prog_21_method_154_code 7 = .ok (.getfield 15, 3) := by decide +kernel
theorem dt_latin_10 : decode prog_21_method_154_code 10 = .ok (.ifCond .ne 7, 3) := by decide +kernel
theorem dt_latin_13 : decode prog_21_method_154_code 13 = .ok (.iconst 1, 1) := by decide +kernel
theorem dt_latin_14 : decode prog_21_method_154_code 14 = .ok (.goto 4, 3) := by decide +kernel
theorem dt_latin_17 : decode prog_21_method_154_code 17 = .ok (.iconst 0, 1) := by decide +kernel
theorem dt_latin_18 : decode prog_21_method_154_code 18 = .ok (.ireturn, 1) := by decide +kernel
theorem dt_chk_0 : decode prog_21_method_155_code 0 = .ok (.iload_n 0, 1) := by decide +kernel
theorem dt_chk_1 : decode prog_21_method_155_code 1 = .ok (.iload_n 1, 1) := by decide +kernel
theorem dt_chk_2 : decode prog_21_method_155_code 2 = .ok (.getstatic 1053, 3) := by decide +kernel
theorem dt_chk_5 : decode prog_21_method_155_code 5 = .ok (.invokestatic 1059, 3) := by decide +kernel
theorem dt_chk_8 : decode prog_21_method_155_code 8 = .ok (.pop, 1) := by decide +kernel
theorem dt_chk_9 : decode prog_21_method_155_code 9 = .ok (.return_, 1) := by decide +kernel
theorem dt_lchr_0 : decode prog_22_method_2_code 0 = .ok (.iload_n 1, 1) := by decide +kernel
theorem dt_lchr_1 : decode prog_22_method_2_code 1 = .ok (.aload_n 0, 1) := by decide +kernel
theorem dt_lchr_2 : decode prog_22_method_2_code 2 = .ok (.arraylength, 1) := by decide +kernel
theorem dt_lchr_3 : decode prog_22_method_2_code 3 = .ok (.invokestatic 9, 3) := by decide +kernel
theorem dt_lchr_6 : decode prog_22_method_2_code 6 = .ok (.aload_n 0, 1) := by decide +kernel
theorem dt_lchr_7 : decode prog_22_method_2_code 7 = .ok (.iload_n 1, 1) := by decide +kernel
theorem dt_lchr_8 : decode prog_22_method_2_code 8 = .ok (.baload, 1) := by decide +kernel
theorem dt_lchr_9 : decode prog_22_method_2_code 9 = .ok (.sipush 255, 3) := by decide +kernel
theorem dt_lchr_12 : decode prog_22_method_2_code 12 = .ok (.iand, 1) := by decide +kernel
theorem dt_lchr_13 : decode prog_22_method_2_code 13 = .ok (.i2c, 1) := by decide +kernel
theorem dt_lchr_14 : decode prog_22_method_2_code 14 = .ok (.ireturn, 1) := by decide +kernel
theorem dt_pre_0 : decode prog_29_method_11_code 0 = .ok (.iload_n 0, 1) := by decide +kernel
theorem dt_pre_1 : decode prog_29_method_11_code 1 = .ok (.ifCond .lt 8, 3) := by decide +kernel
theorem dt_pre_4 : decode prog_29_method_11_code 4 = .ok (.iload_n 0, 1) := by decide +kernel
theorem dt_pre_5 : decode prog_29_method_11_code 5 = .ok (.iload_n 1, 1) := by decide +kernel
theorem dt_pre_6 : decode prog_29_method_11_code 6 = .ok (.if_icmp .lt 10, 3) := by decide +kernel
theorem dt_pre_9 : decode prog_29_method_11_code 9 = .ok (.aload_n 2, 1) := by decide +kernel
theorem dt_pre_10 : decode prog_29_method_11_code 10 = .ok (.iload_n 0, 1) := by decide +kernel
theorem dt_pre_11 : decode prog_29_method_11_code 11 = .ok (.iload_n 1, 1) := by decide +kernel
theorem dt_pre_12 : decode prog_29_method_11_code 12 = .ok (.invokestatic 95, 3) := by decide +kernel
theorem dt_pre_15 : decode prog_29_method_11_code 15 = .ok (.athrow, 1) := by decide +kernel
theorem dt_pre_16 : decode prog_29_method_11_code 16 = .ok (.iload_n 0, 1) := by decide +kernel
theorem dt_pre_17 : decode prog_29_method_11_code 17 = .ok (.ireturn, 1) := by decide +kernel
section STM
variable {Ts : List Cond}
theorem t_coder (hgood : Ts.all goodWord = true) (hj : ∀ w ∈ sm_jw, w ∈ Ts) (l : Launch) (A : Nat → Prop) (a0 t0 : Nat) : Met l jy_coder (.code jy_coder prog_21_method_152_code 1 (some .byte) :: Ts) (sm_rt0 1) (sm_Pt A a0 t0 [.ref a0]) (sm_Qt (some (.int 0))) 0 0 (fun _ => False) := by
  refine Met.ofW (cc := prog_21_method_152_code) (maxL := 1) (ret := some .byte) (by decide) rfl ?_
  intro p e s m args below meth c s₁ B hml hv
  obtain ⟨rfl, hT⟩ := hv
  have hx := B.exec
  have hb := B.bytes
  have hr := B.returns
  have hts := fun w (hw : w ∈ Ts) => atoms_spec (ws := .code jy_coder prog_21_method_152_code 1 (some .byte) :: Ts) B.pre w (List.mem_cons_of_mem _ hw)
  have hown : s.vm.findClass jS = some m.cls := findClass_of_methodNamed B.named
  have hlocks := B.notSynchronized
  have hl := lv_entry ([.ref a0]) (n := 1) (Nat.le_of_ble_eq_true rfl)
  rw [lg_entry_eq]
  generalize (lg_sl ([.ref a0]) ++ List.replicate (1 - (lg_sl ([.ref a0])).length) Slot.unset).toArray = ls at hl ⊢
  have hl : lv_has ls 1 [(0, .ref a0)] := hl
  refine va_gets hx hb hT.2.2.2.2.1 va_S.rf hown (hts _ (hj (.fieldLink jS 38 jS "COMPACT_STRINGS" "Z") (by decide +kernel))) (fun _ h => h) dt_coder_0 ?_
  refine lv_if_eq (tgt := 13) hx hb dt_coder_3 (by decide) (fun h => absurd h (by decide)) (fun _ => ?_)
  refine lv_aload_n hx hb dt_coder_6 rfl (lv_at hl 0 rfl) ?_
  refine vk_getf hx hb hT.2.1 va_S.rf hown (hts _ (hj (.fieldLink jS 15 jS "coder" "B") (by decide +kernel))) (fun _ h => h) dt_coder_7 ?_
  refine lv_goto (tgt := 14) hx hb dt_coder_10 (by decide) ?_
  exact W.zret (ty := .byte) hx hb hr rfl (fun t ht _ => ⟨rfl, ht⟩) (fun q hq => by cases hq) dt_coder_14 hlocks
theorem t_latin (hgood : Ts.all goodWord = true) (hj : ∀ w ∈ sm_jw, w ∈ Ts) (l : Launch) (A : Nat → Prop) (a0 t0 : Nat) : Met l jy_latin (.code jy_latin prog_21_method_154_code 1 (some .boolean) :: Ts) (sm_rt0 1) (sm_Pt A a0 t0 [.ref a0]) (sm_Qt (some (.int 1))) 0 0 (fun _ => False) := by
  refine Met.ofW (cc := prog_21_method_154_code) (maxL := 1) (ret := some .boolean) (by decide) rfl ?_
  intro p e s m args below meth c s₁ B hml hv
  obtain ⟨rfl, hT⟩ := hv
  have hx := B.exec
  have hb := B.bytes
  have hr := B.returns
  have hts := fun w (hw : w ∈ Ts) => atoms_spec (ws := .code jy_latin prog_21_method_154_code 1 (some .boolean) :: Ts) B.pre w (List.mem_cons_of_mem _ hw)
  have hown : s.vm.findClass jS = some m.cls := findClass_of_methodNamed B.named
  have hlocks := B.notSynchronized
  have hl := lv_entry ([.ref a0]) (n := 1) (Nat.le_of_ble_eq_true rfl)
  rw [lg_entry_eq]
  generalize (lg_sl ([.ref a0]) ++ List.replicate (1 - (lg_sl ([.ref a0])).length) Slot.unset).toArray = ls at hl ⊢
  have hl : lv_has ls 1 [(0, .ref a0)] := hl
  refine va_gets hx hb hT.2.2.2.2.1 va_S.rf hown (hts _ (hj (.fieldLink jS 38 jS "COMPACT_STRINGS" "Z") (by decide +kernel))) (fun _ h => h) dt_latin_0 ?_
  refine lv_if_eq (tgt := 17) hx hb dt_latin_3 (by decide) (fun h => absurd h (by decide)) (fun _ => ?_)
  refine lv_aload_n hx hb dt_latin_6 rfl (lv_at hl 0 rfl) ?_
  refine vk_getf hx hb hT.2.1 va_S.rf hown (hts _ (hj (.fieldLink jS 15 jS "coder" "B") (by decide +kernel))) (fun _ h => h) dt_latin_7 ?_
  refine lv_if_ne (tgt := 17) hx hb dt_latin_10 (by decide) (fun h => absurd rfl h) (fun _ => ?_)
  refine lv_iconst (v := 1) hx hb dt_latin_13 (by decide) ?_
  refine lv_goto (tgt := 18) hx hb dt_latin_14 (by decide) ?_
  exact W.zret (ty := .boolean) hx hb hr rfl (fun t ht _ => ⟨rfl, ht⟩) (fun q hq => by cases hq) dt_latin_18 hlocks
theorem t_preN (hgood : Ts.all goodWord = true) (hj : ∀ w ∈ sm_jw, w ∈ Ts) (l : Launch) (A : Nat → Prop) (a0 t0 : Nat) (i n : Int32) (h1 : ¬ i < 0) (h2 : i < n) : Met l jy_pre (.code jy_pre prog_29_method_11_code 3 (some .int) :: Ts) (sm_rt0 1) (sm_Pt A a0 t0 [.int i, .int n, .null]) (sm_Qt (some (.int i))) 0 0 (fun _ => False) := by
  refine Met.ofW (cc := prog_29_method_11_code) (maxL := 3) (ret := some .int) (by decide) rfl ?_
  intro p e s m args below meth c s₁ B hml hv
  obtain ⟨rfl, hT⟩ := hv
  have hx := B.exec
  have hb := B.bytes
  have hr := B.returns
  have hts := fun w (hw : w ∈ Ts) => atoms_spec (ws := .code jy_pre prog_29_method_11_code 3 (some .int) :: Ts) B.pre w (List.mem_cons_of_mem _ hw)
  have hown : s.vm.findClass "jdk/internal/util/Preconditions" = some m.cls := findClass_of_methodNamed B.named
  have hlocks := B.notSynchronized
  have hl := lv_entry ([.int i, .int n, .null]) (n := 3) (Nat.le_of_ble_eq_true rfl)
  rw [lg_entry_eq]
  generalize (lg_sl ([.int i, .int n, .null]) ++ List.replicate (3 - (lg_sl ([.int i, .int n, .null])).length) Slot.unset).toArray = ls at hl ⊢
  have hl : lv_has ls 3 [(0, .int i), (1, .int n)] := lv_sub hl [0, 1] rfl
  refine lv_iload_n hx hb dt_pre_0 rfl (lv_at hl 0 rfl) ?_
  refine lv_if_lt (tgt := 9) hx hb dt_pre_1 (by decide) (fun h => absurd h h1) (fun _ => ?_)
  refine lv_iload_n hx hb dt_pre_4 rfl (lv_at hl 0 rfl) ?_
  refine lv_iload_n hx hb dt_pre_5 rfl (lv_at hl 1 rfl) ?_
  refine lv_icmp_lt (tgt := 16) hx hb dt_pre_6 (by decide) (fun _ => ?_) (fun h => absurd h2 h)
  refine lv_iload_n hx hb dt_pre_16 rfl (lv_at hl 0 rfl) ?_
  exact W.iret hx hb hr (fun t ht _ => ⟨rfl, ht⟩) (fun q hq => by cases hq) dt_pre_17 hlocks
theorem t_preR (hgood : Ts.all goodWord = true) (hj : ∀ w ∈ sm_jw, w ∈ Ts) (l : Launch) (A : Nat → Prop) (a0 t0 : Nat) (i n : Int32) (z : Nat) (h1 : ¬ i < 0) (h2 : i < n) : Met l jy_pre (.code jy_pre prog_29_method_11_code 3 (some .int) :: Ts) (sm_rt0 1) (sm_Pt A a0 t0 [.int i, .int n, .ref z]) (sm_Qt (some (.int i))) 0 0 (fun _ => False) := by
  refine Met.ofW (cc := prog_29_method_11_code) (maxL := 3) (ret := some .int) (by decide) rfl ?_
  intro p e s m args below meth c s₁ B hml hv
  obtain ⟨rfl, hT⟩ := hv
  have hx := B.exec
  have hb := B.bytes
  have hr := B.returns
  have hts := fun w (hw : w ∈ Ts) => atoms_spec (ws := .code jy_pre prog_29_method_11_code 3 (some .int) :: Ts) B.pre w (List.mem_cons_of_mem _ hw)
  have hown : s.vm.findClass "jdk/internal/util/Preconditions" = some m.cls := findClass_of_methodNamed B.named
  have hlocks := B.notSynchronized
  have hl := lv_entry ([.int i, .int n, .ref z]) (n := 3) (Nat.le_of_ble_eq_true rfl)
  rw [lg_entry_eq]
  generalize (lg_sl ([.int i, .int n, .ref z]) ++ List.replicate (3 - (lg_sl ([.int i, .int n, .ref z])).length) Slot.unset).toArray = ls at hl ⊢
  have hl : lv_has ls 3 [(0, .int i), (1, .int n)] := lv_sub hl [0, 1] rfl
  refine lv_iload_n hx hb dt_pre_0 rfl (lv_at hl 0 rfl) ?_
  refine lv_if_lt (tgt := 9) hx hb dt_pre_1 (by decide) (fun h => absurd h h1) (fun _ => ?_)
  refine lv_iload_n hx hb dt_pre_4 rfl (lv_at hl 0 rfl) ?_
  refine lv_iload_n hx hb dt_pre_5 rfl (lv_at hl 1 rfl) ?_
  refine lv_icmp_lt (tgt := 16) hx hb dt_pre_6 (by decide) (fun _ => ?_) (fun h => absurd h2 h)
  refine lv_iload_n hx hb dt_pre_16 rfl (lv_at hl 0 rfl) ?_
  exact W.iret hx hb hr (fun t ht _ => ⟨rfl, ht⟩) (fun q hq => by cases hq) dt_pre_17 hlocks
theorem t_chk (hgood : Ts.all goodWord = true) (hj : ∀ w ∈ sm_jw, w ∈ Ts) (l : Launch) (A : Nat → Prop) (a0 t0 : Nat) (i n : Int32) (h1 : ¬ i < 0) (h2 : i < n) : Met l jy_chk (.code jy_chk prog_21_method_155_code 2 none :: Ts) (sm_rt0 3) (sm_Pt A a0 t0 [.int i, .int n]) (sm_Qt none) 0 0 (fun _ => False) := by
  refine Met.ofW (cc := prog_21_method_155_code) (maxL := 2) (ret := none) (by decide) rfl ?_
  intro p e s m args below meth c s₁ B hml hv
  obtain ⟨rfl, hT⟩ := hv
  have hx := B.exec
  have hb := B.bytes
  have hr := B.returns
  have hts := fun w (hw : w ∈ Ts) => atoms_spec (ws := .code jy_chk prog_21_method_155_code 2 none :: Ts) B.pre w (List.mem_cons_of_mem _ hw)
  have hown : s.vm.findClass jS = some m.cls := findClass_of_methodNamed B.named
  have hlocks := B.notSynchronized
  have hl := lv_entry ([.int i, .int n]) (n := 2) (Nat.le_of_ble_eq_true rfl)
  rw [lg_entry_eq]
  generalize (lg_sl ([.int i, .int n]) ++ List.replicate (2 - (lg_sl ([.int i, .int n])).length) Slot.unset).toArray = ls at hl ⊢
  have hl : lv_has ls 2 [(0, .int i), (1, .int n)] := hl
  refine lv_iload_n hx hb dt_chk_0 rfl (lv_at hl 0 rfl) ?_
  refine lv_iload_n hx hb dt_chk_1 rfl (lv_at hl 1 rfl) ?_
  rcases hT.2.2.2.2.2 with hZ | ⟨z, hZ⟩
  · refine va_gets hx hb hZ va_S.rf hown (hts _ (hj (.fieldLink jS 1053 "jdk/internal/util/Preconditions" "SIOOBE_FORMATTER" "Ljava/util/function/BiFunction;") (by decide +kernel))) (fun _ h => h) dt_chk_2 ?_
    refine sm_goT (va_runS (Ts := Ts) (bytes := prog_29_method_11_code) (maxL := 3) (ret := some .int) (n := 3) (As := [.int i, .int n, .null]) ⟨hx, hb, hml, hown, hts⟩ (t_preN hgood hj l A a0 t0 i n h1 h2)
      ⟨⟨rfl, rfl, Nat.le_of_ble_eq_true rfl, Nat.le_of_ble_eq_true rfl, pay_in hts (sm_gi hgood (hj _ (by decide +kernel))), List.mem_cons_self, hts _ (hj _ (by decide +kernel)), hts _ (hj _ (by decide +kernel)), ⟨by decide, by decide⟩, fun sig h => by rw [show parseMethodDescriptor jy_pre.desc = _ from rfl] at h; cases h; rfl, hts _ (hj (.methodLink jS 1059 jy_pre) (by decide +kernel))⟩, hts _ (hj _ (by decide +kernel))⟩
      ⟨sm_Pt.blind, fun U hU hW => ⟨rfl, by rw [hU]; exact hT.moved hW.alike⟩⟩ rfl rfl hl.1 rfl (lv_room (Nat.le_of_ble_eq_true rfl)) dt_chk_5 ⟨Nat.zero_le _, Nat.zero_le _⟩) ?_
    refine lv_pop hx hb dt_chk_8 rfl ?_
    exact W.vret hx hb hr (fun t ht _ => ⟨rfl, ht⟩) (fun q hq => by cases hq) dt_chk_9 hlocks
  · refine va_gets hx hb hZ va_S.rf hown (hts _ (hj (.fieldLink jS 1053 "jdk/internal/util/Preconditions" "SIOOBE_FORMATTER" "Ljava/util/function/BiFunction;") (by decide +kernel))) (fun _ h => h) dt_chk_2 ?_
    refine sm_goT (va_runS (Ts := Ts) (bytes := prog_29_method_11_code) (maxL := 3) (ret := some .int) (n := 3) (As := [.int i, .int n, .ref z]) ⟨hx, hb, hml, hown, hts⟩ (t_preR hgood hj l A a0 t0 i n z h1 h2)
      ⟨⟨rfl, rfl, Nat.le_of_ble_eq_true rfl, Nat.le_of_ble_eq_true rfl, pay_in hts (sm_gi hgood (hj _ (by decide +kernel))), List.mem_cons_self, hts _ (hj _ (by decide +kernel)), hts _ (hj _ (by decide +kernel)), ⟨by decide, by decide⟩, fun sig h => by rw [show parseMethodDescriptor jy_pre.desc = _ from rfl] at h; cases h; rfl, hts _ (hj (.methodLink jS 1059 jy_pre) (by decide +kernel))⟩, hts _ (hj _ (by decide +kernel))⟩
      ⟨sm_Pt.blind, fun U hU hW => ⟨rfl, by rw [hU]; exact hT.moved hW.alike⟩⟩ rfl rfl hl.1 rfl (lv_room (Nat.le_of_ble_eq_true rfl)) dt_chk_5 ⟨Nat.zero_le _, Nat.zero_le _⟩) ?_
    refine lv_pop hx hb dt_chk_8 rfl ?_
    exact W.vret hx hb hr (fun t ht _ => ⟨rfl, ht⟩) (fun q hq => by cases hq) dt_chk_9 hlocks
theorem t_lchr (hgood : Ts.all goodWord = true) (hj : ∀ w ∈ sm_jw, w ∈ Ts) (l : Launch) (A : Nat → Prop) (a0 t0 : Nat) (i : Int32) (h1 : ¬ i < 0) (h2 : i < 130) (r : Int32) (hr0 : (((sm_byt.getD i.toNatClampNeg 0) &&& 255).toUInt32 % 65536).toInt32 = r) (hr1 : narrow .char (.int r) = .int r) : Met l jy_lchr (.code jy_lchr prog_22_method_2_code 2 (some .char) :: Ts) (sm_rt0 5) (sm_Pt A a0 t0 [.ref t0, .int i]) (sm_Qt (some (.int r))) 0 0 (fun _ => False) := by
  refine Met.ofW (cc := prog_22_method_2_code) (maxL := 2) (ret := some .char) (by decide) rfl ?_
  intro p e s m args below meth c s₁ B hml hv
  obtain ⟨rfl, hT⟩ := hv
  have hx := B.exec
  have hb := B.bytes
  have hr := B.returns
  have hts := fun w (hw : w ∈ Ts) => atoms_spec (ws := .code jy_lchr prog_22_method_2_code 2 (some .char) :: Ts) B.pre w (List.mem_cons_of_mem _ hw)
  have hown : s.vm.findClass "java/lang/StringLatin1" = some m.cls := findClass_of_methodNamed B.named
  have hlocks := B.notSynchronized
  have hl := lv_entry ([.ref t0, .int i]) (n := 2) (Nat.le_of_ble_eq_true rfl)
  rw [lg_entry_eq]
  generalize (lg_sl ([.ref t0, .int i]) ++ List.replicate (2 - (lg_sl ([.ref t0, .int i])).length) Slot.unset).toArray = ls at hl ⊢
  have hl : lv_has ls 2 [(0, .ref t0), (1, .int i)] := hl
  refine lv_iload_n hx hb dt_lchr_0 rfl (lv_at hl 1 rfl) ?_
  refine lv_aload_n hx hb dt_lchr_1 rfl (lv_at hl 0 rfl) ?_
  refine va_tlen hx hb hT.2.2.2.1 va_S.rf (v := 130) (by decide) dt_lchr_2 ?_
  refine sm_goT (va_runS (Ts := Ts) (bytes := prog_21_method_155_code) (maxL := 2) (ret := none) (n := 2) (As := [.int i, .int 130]) ⟨hx, hb, hml, hown, hts⟩ (t_chk hgood hj l A a0 t0 i 130 h1 h2)
    ⟨⟨rfl, rfl, Nat.le_of_ble_eq_true rfl, Nat.le_of_ble_eq_true rfl, pay_in hts (sm_gi hgood (hj _ (by decide +kernel))), List.mem_cons_self, hts _ (hj _ (by decide +kernel)), hts _ (hj _ (by decide +kernel)), ⟨by decide, by decide⟩, fun sig h => by rw [show parseMethodDescriptor jy_chk.desc = _ from rfl] at h; cases h; rfl, hts _ (hj (.methodLink "java/lang/StringLatin1" 9 jy_chk) (by decide +kernel))⟩, hts _ (hj _ (by decide +kernel))⟩
    ⟨sm_Pt.blind, fun U hU hW => ⟨rfl, by rw [hU]; exact hT.moved hW.alike⟩⟩ rfl rfl hl.1 rfl (lv_room (Nat.le_of_ble_eq_true rfl)) dt_lchr_3 ⟨Nat.zero_le _, Nat.zero_le _⟩) ?_
  refine lv_aload_n hx hb dt_lchr_6 rfl (lv_at hl 0 rfl) ?_
  refine lv_iload_n hx hb dt_lchr_7 rfl (lv_at hl 1 rfl) ?_
  refine va_tb hx hb hT.2.2.2.1 va_S.rf (i := i) (by
    have e1 : (130 : Int32) = nI 130 := by decide
    obtain ⟨j, hj2, rfl⟩ := nI_of h1
    rw [e1] at h2
    exact vp_in_nI (by rcases Nat.lt_or_ge j 130 with q | q; exact q; exact absurd h2 (nI_nlt q hj2)) (by decide)) rfl dt_lchr_8 ?_
  refine lv_sipush (v := 255) hx hb dt_lchr_9 (by decide) ?_
  refine lv_iand hx hb dt_lchr_12 ?_
  refine lv_i2c (v := r) hx hb dt_lchr_13 hr0 ?_
  exact W.zret (ty := .char) hx hb hr hr1 (fun t ht _ => ⟨rfl, ht⟩) (fun q hq => by cases hq) dt_lchr_14 hlocks
theorem t_len (hgood : Ts.all goodWord = true) (hj : ∀ w ∈ sm_jw, w ∈ Ts) (l : Launch) (A : Nat → Prop) (a0 t0 : Nat) : Met l sm_strlen (.code sm_strlen prog_21_method_54_code 1 (some .int) :: Ts) (sm_rt0 3) (sm_Pt A a0 t0 [.ref a0]) (sm_Qt (some (.int (Int32.ofNat 130)))) 0 0 (fun _ => False) := by
  refine Met.ofW (cc := prog_21_method_54_code) (maxL := 1) (ret := some .int) (by decide) rfl ?_
  intro p e s m args below meth c s₁ B hml hv
  obtain ⟨rfl, hT⟩ := hv
  have hx := B.exec
  have hb := B.bytes
  have hr := B.returns
  have hts := fun w (hw : w ∈ Ts) => atoms_spec (ws := .code sm_strlen prog_21_method_54_code 1 (some .int) :: Ts) B.pre w (List.mem_cons_of_mem _ hw)
  have hown : s.vm.findClass jS = some m.cls := findClass_of_methodNamed B.named
  have hlocks := B.notSynchronized
  have hl := lv_entry ([.ref a0]) (n := 1) (Nat.le_of_ble_eq_true rfl)
  rw [lg_entry_eq]
  generalize (lg_sl ([.ref a0]) ++ List.replicate (1 - (lg_sl ([.ref a0])).length) Slot.unset).toArray = ls at hl ⊢
  have hl : lv_has ls 1 [(0, .ref a0)] := hl
  refine lv_aload_n hx hb dt_len_0 rfl (lv_at hl 0 rfl) ?_
  refine vk_getf hx hb hT.2.2.1 va_S.rf hown (hts _ (hj (.fieldLink jS 9 jS "value" "[B") (by decide +kernel))) (fun _ h => h) dt_len_1 ?_
  refine va_tlen hx hb hT.2.2.2.1 va_S.rf (v := 130) (by decide) dt_len_4 ?_
  refine lv_aload_n hx hb dt_len_5 rfl (lv_at hl 0 rfl) ?_
  refine sm_goT (va_runV (Ts := Ts) (C := jS) (bytes := prog_21_method_152_code) (maxL := 1) (ret := some .byte) (n := 0) (As := []) ⟨hx, hb, hml, hown, hts⟩ (t_coder hgood hj l A a0 t0)
    ⟨⟨rfl, rfl, Nat.le_of_ble_eq_true rfl, Nat.le_of_ble_eq_true rfl, pay_in hts (sm_gi hgood (hj _ (by decide +kernel))), List.mem_cons_self, hts _ (hj _ (by decide +kernel)), hts _ (hj _ (by decide +kernel)), ⟨by decide, by decide⟩, fun sig h => by rw [show parseMethodDescriptor jy_coder.desc = _ from rfl] at h; cases h; rfl, hts _ (hj (.methodLink jS 335 jy_coder) (by decide +kernel))⟩, hts _ (hj _ (by decide +kernel)), hts _ (hj _ (by decide +kernel))⟩
    ⟨sm_Pt.blind, (by obtain ⟨cell, h1, h2, h3, -⟩ := hT.1; exact ⟨cell, h1, h2, h3⟩), fun U hU hW => ⟨rfl, by rw [hU]; exact hT.moved hW.alike⟩⟩ rfl rfl hl.1 rfl (lv_room (Nat.le_of_ble_eq_true rfl)) dt_len_6 ⟨Nat.zero_le _, Nat.zero_le _⟩) ?_
  refine lv_ishr hx hb dt_len_9 ?_
  exact W.iret hx hb hr (fun t ht _ => ⟨by decide, ht⟩) (fun q hq => by cases hq) dt_len_10 hlocks
theorem t_chr (hgood : Ts.all goodWord = true) (hj : ∀ w ∈ sm_jw, w ∈ Ts) (l : Launch) (A : Nat → Prop) (a0 t0 : Nat) (i : Int32) (h1 : ¬ i < 0) (h2 : i < 130) (r : Int32) (hr0 : (((sm_byt.getD i.toNatClampNeg 0) &&& 255).toUInt32 % 65536).toInt32 = r) (hr1 : narrow .char (.int r) = .int r) : Met l sm_strchr (.code sm_strchr prog_21_method_56_code 2 (some .char) :: Ts) (sm_rt0 7) (sm_Pt A a0 t0 [.ref a0, .int i]) (sm_Qt (some (.int r))) 0 0 (fun _ => False) := by
  refine Met.ofW (cc := prog_21_method_56_code) (maxL := 2) (ret := some .char) (by decide) rfl ?_
  intro p e s m args below meth c s₁ B hml hv
  obtain ⟨rfl, hT⟩ := hv
  have hx := B.exec
  have hb := B.bytes
  have hr := B.returns
  have hts := fun w (hw : w ∈ Ts) => atoms_spec (ws := .code sm_strchr prog_21_method_56_code 2 (some .char) :: Ts) B.pre w (List.mem_cons_of_mem _ hw)
  have hown : s.vm.findClass jS = some m.cls := findClass_of_methodNamed B.named
  have hlocks := B.notSynchronized
  have hl := lv_entry ([.ref a0, .int i]) (n := 2) (Nat.le_of_ble_eq_true rfl)
  rw [lg_entry_eq]
  generalize (lg_sl ([.ref a0, .int i]) ++ List.replicate (2 - (lg_sl ([.ref a0, .int i])).length) Slot.unset).toArray = ls at hl ⊢
  have hl : lv_has ls 2 [(0, .ref a0), (1, .int i)] := hl
  refine lv_aload_n hx hb dt_chr_0 rfl (lv_at hl 0 rfl) ?_
  refine sm_goT (va_runV (Ts := Ts) (C := jS) (bytes := prog_21_method_154_code) (maxL := 1) (ret := some .boolean) (n := 0) (As := []) ⟨hx, hb, hml, hown, hts⟩ (t_latin hgood hj l A a0 t0)
    ⟨⟨rfl, rfl, Nat.le_of_ble_eq_true rfl, Nat.le_of_ble_eq_true rfl, pay_in hts (sm_gi hgood (hj _ (by decide +kernel))), List.mem_cons_self, hts _ (hj _ (by decide +kernel)), hts _ (hj _ (by decide +kernel)), ⟨by decide, by decide⟩, fun sig h => by rw [show parseMethodDescriptor jy_latin.desc = _ from rfl] at h; cases h; rfl, hts _ (hj (.methodLink jS 492 jy_latin) (by decide +kernel))⟩, hts _ (hj _ (by decide +kernel)), hts _ (hj _ (by decide +kernel))⟩
    ⟨sm_Pt.blind, (by obtain ⟨cell, h1, h2, h3, -⟩ := hT.1; exact ⟨cell, h1, h2, h3⟩), fun U hU hW => ⟨rfl, by rw [hU]; exact hT.moved hW.alike⟩⟩ rfl rfl hl.1 rfl (lv_room (Nat.le_of_ble_eq_true rfl)) dt_chr_1 ⟨Nat.zero_le _, Nat.zero_le _⟩) ?_
  refine lv_if_eq (tgt := 16) hx hb dt_chr_4 (by decide) (fun h => absurd h (by decide)) (fun _ => ?_)
  refine lv_aload_n hx hb dt_chr_7 rfl (lv_at hl 0 rfl) ?_
  refine vk_getf hx hb hT.2.2.1 va_S.rf hown (hts _ (hj (.fieldLink jS 9 jS "value" "[B") (by decide +kernel))) (fun _ h => h) dt_chr_8 ?_
  refine lv_iload_n hx hb dt_chr_11 rfl (lv_at hl 1 rfl) ?_
  refine sm_goT (va_runS (Ts := Ts) (bytes := prog_22_method_2_code) (maxL := 2) (ret := some .char) (n := 2) (As := [.ref t0, .int i]) ⟨hx, hb, hml, hown, hts⟩ (t_lchr hgood hj l A a0 t0 i h1 h2 r hr0 hr1)
    ⟨⟨rfl, rfl, Nat.le_of_ble_eq_true rfl, Nat.le_of_ble_eq_true rfl, pay_in hts (sm_gi hgood (hj _ (by decide +kernel))), List.mem_cons_self, hts _ (hj _ (by decide +kernel)), hts _ (hj _ (by decide +kernel)), ⟨by decide, by decide⟩, fun sig h => by rw [show parseMethodDescriptor jy_lchr.desc = _ from rfl] at h; cases h; rfl, hts _ (hj (.methodLink jS 495 jy_lchr) (by decide +kernel))⟩, hts _ (hj _ (by decide +kernel))⟩
    ⟨sm_Pt.blind, fun U hU hW => ⟨rfl, by rw [hU]; exact hT.moved hW.alike⟩⟩ rfl rfl hl.1 rfl (lv_room (Nat.le_of_ble_eq_true rfl)) dt_chr_12 ⟨Nat.zero_le _, Nat.zero_le _⟩) ?_
  exact W.zret (ty := .char) hx hb hr hr1 (fun t ht _ => ⟨rfl, ht⟩) (fun q hq => by cases hq) dt_chr_15 hlocks
end STM
/-- the sign at every place of the text -/
theorem sm_txt_at : ∀ j, j < 130 → (((sm_byt.getD j 0) &&& 255).toUInt32 % 65536).toInt32 = Int32.ofNat (sm_text.getD j 0) ∧ narrow .char (.int (Int32.ofNat (sm_text.getD j 0))) = .int (Int32.ofNat (sm_text.getD j 0)) := by decide +kernel
section STZ
variable {p : Program} {l : Launch} {e : Env} {R : Room} {s : State} {m : MethodId} {args : Array Value} {below : List Frame} {meth : Method} {c : Code} {Qf : State → Prop} {D : va_G} {sh : List (Nat × Nat)} {cA : Nat → ClassId} {ρ : Nat → Nat} {nL : Nat} {cc : ByteArray} {own : String} {Ts : List Cond} {X : Nat × (Nat → Int32)}
theorem sm_tf.of {A : Nat → Prop} {H : Heap} {locs : List Loc} (hev : sm_ev ρ X A s s.heap) (hS : va_S A s.heap H locs) : ∃ t0, sm_tf A (ρ sm_STR) t0 s H := by
  obtain ⟨-, -, -, -, -, -, -, ⟨adV, h8⟩, h9, h10⟩ := hev
  obtain ⟨a1, a2, a3, a4⟩ := h8.1 0 (by decide)
  simp only [List.getD_cons_zero] at a4
  exact ⟨adV 0, a1.kept hS.2.1, a2.kept hS.2.1, a3.kept hS.2.1, a4.kept hS.2.1, h9.kept hS.2.1, h10.kept hS.2.1⟩
theorem sz_strlen (hgood : Ts.all goodWord = true) (hj : ∀ w ∈ sm_jw, w ∈ Ts) (hx : p.tables.exec = Jvm.exec) (hb : c.code = cc) (hml : c.maxLocals = nL) (hts : ∀ w ∈ Ts, w.before args s = true) (ho : s.vm.findClass own = some m.cls) (hev : sm_ev ρ X (sm_A sh ρ s.heap.size) s s.heap) (hR : 60 ≤ R.frames ∧ 1000 ≤ R.locals) :
    ∀ (bp idx : Nat) (L : sm_L) (st : List Value) (nc ns : Nat) (M : sm_M), nc ≤ R.cells → ns ≤ R.slots → decode cc bp = .ok (.invokevirtual idx, 3) → Cond.methodLink own idx sm_strlen ∈ Ts → (st.map fun v => v.category).sum ≤ 8 → sm_Z p l e R s m args below meth c Qf D (sm_A sh ρ s.heap.size) sh cA ρ nL (bp + 3) L (.int (Int32.ofNat 130) :: st) nc ns M → sm_Z p l e R s m args below meth c Qf D (sm_A sh ρ s.heap.size) sh cA ρ nL bp L (.ref sm_STR :: st) nc ns M := by
  intro bp idx L st nc ns M hnc hns hd hlk hw k H locs ls hRl hl
  obtain ⟨t0, hT⟩ := sm_tf.of hev hRl.2.2
  refine sm_goT (va_runV (Ts := Ts) (C := jS) (bytes := prog_21_method_54_code) (maxL := 1) (ret := some .int) (n := 0) (As := []) ⟨hx, hb, hml, ho, hts⟩ (t_len hgood hj l (sm_A sh ρ s.heap.size) (ρ sm_STR) t0)
    ⟨⟨rfl, rfl, by show 3 + 1 ≤ _; omega, by show 8 + (1 + 11) + 40 * 3 ≤ _; omega, pay_in hts (sm_gi hgood (hj _ (by decide +kernel))), List.mem_cons_self, hts _ (hj _ (by decide +kernel)), hts _ (hj _ (by decide +kernel)), ⟨by decide, by decide⟩, fun sig h => by rw [show parseMethodDescriptor sm_strlen.desc = _ from rfl] at h; cases h; rfl, hts _ hlk⟩, hts _ (hj _ (by decide +kernel)), hts _ (hj _ (by decide +kernel))⟩
    ⟨sm_Pt.blind, (by obtain ⟨cell, h1, h2, h3, -⟩ := hT.1; exact ⟨cell, h1, h2, h3⟩), fun U hU hW => ⟨rfl, by rw [hU]; exact hT.moved hW.alike⟩⟩ rfl rfl hl.1 (rest := st.map (sm_v ρ)) rfl (lv_room (by rw [sm_cat_map]; exact hw)) hd ⟨hnc, hns⟩) ?_
  exact k H locs ls hRl hl
theorem sz_strchr (hgood : Ts.all goodWord = true) (hj : ∀ w ∈ sm_jw, w ∈ Ts) (hx : p.tables.exec = Jvm.exec) (hb : c.code = cc) (hml : c.maxLocals = nL) (hts : ∀ w ∈ Ts, w.before args s = true) (ho : s.vm.findClass own = some m.cls) (hev : sm_ev ρ X (sm_A sh ρ s.heap.size) s s.heap) (hR : 60 ≤ R.frames ∧ 1000 ≤ R.locals) :
    ∀ (bp idx : Nat) (i : Int32) (L : sm_L) (st : List Value) (nc ns : Nat) (M : sm_M), nc ≤ R.cells → ns ≤ R.slots → decode cc bp = .ok (.invokevirtual idx, 3) → Cond.methodLink own idx sm_strchr ∈ Ts → sm_in i 130 = true → (st.map fun v => v.category).sum ≤ 8 → sm_Z p l e R s m args below meth c Qf D (sm_A sh ρ s.heap.size) sh cA ρ nL (bp + 3) L (.int (Int32.ofNat (sm_text.getD i.toNatClampNeg 0)) :: st) nc ns M → sm_Z p l e R s m args below meth c Qf D (sm_A sh ρ s.heap.size) sh cA ρ nL bp L (.int i :: .ref sm_STR :: st) nc ns M := by
  intro bp idx i L st nc ns M hnc hns hd hlk hi hw k H locs ls hRl hl
  obtain ⟨t0, hT⟩ := sm_tf.of hev hRl.2.2
  obtain ⟨j, hjn, rfl⟩ := vp_in_of (sm_in_vp hi) (by decide)
  have hcl : (nI j).toNatClampNeg = j := nI_clamp (by omega)
  have hat := sm_txt_at j hjn
  have h1 : ¬ nI j < 0 := nI_pos (by omega)
  have h2 : nI j < 130 := by
    have := nI_lt hjn (show 130 < 2 ^ 31 by decide)
    exact this
  refine sm_goT (va_runV (Ts := Ts) (C := jS) (bytes := prog_21_method_56_code) (maxL := 2) (ret := some .char) (n := 1) (As := [.int (nI j)]) ⟨hx, hb, hml, ho, hts⟩ (t_chr hgood hj l (sm_A sh ρ s.heap.size) (ρ sm_STR) t0 (nI j) h1 h2 (Int32.ofNat (sm_text.getD j 0)) (by rw [hcl]; exact hat.1) hat.2)
    ⟨⟨rfl, rfl, by show 7 + 1 ≤ _; omega, by show 8 + (2 + 11) + 40 * 7 ≤ _; omega, pay_in hts (sm_gi hgood (hj _ (by decide +kernel))), List.mem_cons_self, hts _ (hj _ (by decide +kernel)), hts _ (hj _ (by decide +kernel)), ⟨by decide, by decide⟩, fun sig h => by rw [show parseMethodDescriptor sm_strchr.desc = _ from rfl] at h; cases h; rfl, hts _ hlk⟩, hts _ (hj _ (by decide +kernel)), hts _ (hj _ (by decide +kernel))⟩
    ⟨sm_Pt.blind, (by obtain ⟨cell, h1, h2, h3, -⟩ := hT.1; exact ⟨cell, h1, h2, h3⟩), fun U hU hW => ⟨rfl, by rw [hU]; exact hT.moved hW.alike⟩⟩ rfl rfl hl.1 (rest := st.map (sm_v ρ)) rfl (lv_room (by rw [sm_cat_map]; exact hw)) hd ⟨hnc, hns⟩) ?_
  rw [hcl] at k
  exact k H locs ls hRl hl
end STZ
