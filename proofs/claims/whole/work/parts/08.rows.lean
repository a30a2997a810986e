/-! ===== a row of the small machine is a row of the machine ===== -/
/-- the heap holds M; nothing else has changed -/
def sm_Rl (D : va_G) (A : Nat → Prop) (sh : List (Nat × Nat)) (cA : Nat → ClassId) (ρ : Nat → Nat) (H0 : Heap) (M : sm_M) (H : Heap) (locs : List Loc) : Prop := va_P D sm_cls (sm_ws sh cA ρ M) H ∧ va_D A (sm_ws sh cA ρ M) ∧ va_S A H0 H locs
/-- from byte bp on, with these locals and operands over any heap that holds M, the machine comes to Qf -/
def sm_Z (p : Program) (l : Launch) (e : Env) (R : Room) (s : State) (m : MethodId) (args : Array Value) (below : List Frame) (meth : Method) (c : Code) (Qf : State → Prop) (D : va_G) (A : Nat → Prop) (sh : List (Nat × Nat)) (cA : Nat → ClassId) (ρ : Nat → Nat) (nL : Nat) (bp : Nat) (L : sm_L) (st : List Value) (nc ns : Nat) (M : sm_M) : Prop :=
  ∀ (H : Heap) (locs : List Loc) (ls : Array Slot), sm_Rl D A sh cA ρ s.heap M H locs → sm_has ls nL ρ L → W p l e R s m args below meth c H locs nc ns Qf (F0 m bp ls (st.map (sm_v ρ)))
section SZ
variable {p : Program} {l : Launch} {e : Env} {R : Room} {s : State} {m : MethodId} {args : Array Value} {below : List Frame} {meth : Method} {c : Code} {Qf : State → Prop} {D : va_G} {A : Nat → Prop} {sh : List (Nat × Nat)} {cA : Nat → ClassId} {ρ : Nat → Nat} {nL : Nat}
variable {cc : ByteArray} {bp : Nat} {L : sm_L} {st : List Value} {nc ns : Nat} {M : sm_M}
theorem sz_iconst (hx : p.tables.exec = Jvm.exec) (hb : c.code = cc) {n : Int} (hd : decode cc bp = .ok (.iconst n, 1)) (k : sm_Z p l e R s m args below meth c Qf D A sh cA ρ nL (bp + 1) L (.int (Int32.ofInt n) :: st) nc ns M) : sm_Z p l e R s m args below meth c Qf D A sh cA ρ nL bp L st nc ns M :=
  fun H locs ls hR hl => lv_iconst hx hb hd rfl (k H locs ls hR hl)
theorem sz_bipush (hx : p.tables.exec = Jvm.exec) (hb : c.code = cc) {n : Int} (hd : decode cc bp = .ok (.bipush n, 2)) (k : sm_Z p l e R s m args below meth c Qf D A sh cA ρ nL (bp + 2) L (.int (Int8.ofInt n).toInt32 :: st) nc ns M) : sm_Z p l e R s m args below meth c Qf D A sh cA ρ nL bp L st nc ns M :=
  fun H locs ls hR hl => lv_bipush hx hb hd rfl (k H locs ls hR hl)
theorem sz_sipush (hx : p.tables.exec = Jvm.exec) (hb : c.code = cc) {n : Int} (hd : decode cc bp = .ok (.sipush n, 3)) (k : sm_Z p l e R s m args below meth c Qf D A sh cA ρ nL (bp + 3) L (.int (Int16.ofInt n).toInt32 :: st) nc ns M) : sm_Z p l e R s m args below meth c Qf D A sh cA ρ nL bp L st nc ns M :=
  fun H locs ls hR hl => lv_sipush hx hb hd rfl (k H locs ls hR hl)
theorem sz_lconst (hx : p.tables.exec = Jvm.exec) (hb : c.code = cc) {n : Fin 2} (hd : decode cc bp = .ok (.lconst n, 1)) (k : sm_Z p l e R s m args below meth c Qf D A sh cA ρ nL (bp + 1) L (.long (Int64.ofNat n.val) :: st) nc ns M) : sm_Z p l e R s m args below meth c Qf D A sh cA ρ nL bp L st nc ns M :=
  fun H locs ls hR hl => lv_lconst hx hb hd rfl (k H locs ls hR hl)
theorem sz_ldc (hx : p.tables.exec = Jvm.exec) (hb : c.code = cc) {own : String} {i : Nat} {v : Int32} (ho : s.vm.findClass own = some m.cls) (hc : (Jvm.Cond.constant own i v).before args s = true) (hd : decode cc bp = .ok (.ldc i, 2)) (k : sm_Z p l e R s m args below meth c Qf D A sh cA ρ nL (bp + 2) L (.int v :: st) nc ns M) : sm_Z p l e R s m args below meth c Qf D A sh cA ρ nL bp L st nc ns M :=
  fun H locs ls hR hl => lv_ldc hx hb ho hc hd (k H locs ls hR hl)
theorem sz_ldcw (hx : p.tables.exec = Jvm.exec) (hb : c.code = cc) {own : String} {i : Nat} {v : Int32} (ho : s.vm.findClass own = some m.cls) (hc : (Jvm.Cond.constant own i v).before args s = true) (hd : decode cc bp = .ok (.ldc_w i, 3)) (k : sm_Z p l e R s m args below meth c Qf D A sh cA ρ nL (bp + 3) L (.int v :: st) nc ns M) : sm_Z p l e R s m args below meth c Qf D A sh cA ρ nL bp L st nc ns M :=
  fun H locs ls hR hl => lv_ldcw hx hb ho hc hd (k H locs ls hR hl)
theorem sz_ldc2 (hx : p.tables.exec = Jvm.exec) (hb : c.code = cc) {own : String} {i : Nat} {v : Int64} (ho : s.vm.findClass own = some m.cls) (hc : (Jvm.Cond.constantLong own i v).before args s = true) (hd : decode cc bp = .ok (.ldc2_w i, 3)) (k : sm_Z p l e R s m args below meth c Qf D A sh cA ρ nL (bp + 3) L (.long v :: st) nc ns M) : sm_Z p l e R s m args below meth c Qf D A sh cA ρ nL bp L st nc ns M :=
  fun H locs ls hR hl => lv_ldc2 hx hb ho hc hd (k H locs ls hR hl)
theorem sz_ldcS (hx : p.tables.exec = Jvm.exec) (hb : c.code = cc) {own tx : String} {i : Nat} (ho : s.vm.findClass own = some m.cls) (hc : vk_R own i tx (ρ sm_STR) s) (hd : decode cc bp = .ok (.ldc i, 2)) (k : sm_Z p l e R s m args below meth c Qf D A sh cA ρ nL (bp + 2) L (.ref sm_STR :: st) nc ns M) : sm_Z p l e R s m args below meth c Qf D A sh cA ρ nL bp L st nc ns M :=
  fun H locs ls hR hl => va_ldcS hx hb ho hc hd (k H locs ls hR hl)
theorem sz_iload_n (hx : p.tables.exec = Jvm.exec) (hb : c.code = cc) {n : Fin 4} {x : Int32} (hL : L[n.val]? = some (some (.int x))) (hd : decode cc bp = .ok (.iload_n n, 1)) (k : sm_Z p l e R s m args below meth c Qf D A sh cA ρ nL (bp + 1) L (.int x :: st) nc ns M) : sm_Z p l e R s m args below meth c Qf D A sh cA ρ nL bp L st nc ns M :=
  fun H locs ls hR hl => lv_iload_n hx hb hd rfl (hl.2.2.2 _ _ hL) (k H locs ls hR hl)
theorem sz_iload (hx : p.tables.exec = Jvm.exec) (hb : c.code = cc) {n : Nat} {x : Int32} (hL : L[n]? = some (some (.int x))) (hd : decode cc bp = .ok (.iload n, 2)) (k : sm_Z p l e R s m args below meth c Qf D A sh cA ρ nL (bp + 2) L (.int x :: st) nc ns M) : sm_Z p l e R s m args below meth c Qf D A sh cA ρ nL bp L st nc ns M :=
  fun H locs ls hR hl => lv_iload hx hb hd (hl.2.2.2 _ _ hL) (k H locs ls hR hl)
theorem sz_lload_n (hx : p.tables.exec = Jvm.exec) (hb : c.code = cc) {n : Fin 4} {x : Int64} (hL : L[n.val]? = some (some (.long x))) (hd : decode cc bp = .ok (.lload_n n, 1)) (k : sm_Z p l e R s m args below meth c Qf D A sh cA ρ nL (bp + 1) L (.long x :: st) nc ns M) : sm_Z p l e R s m args below meth c Qf D A sh cA ρ nL bp L st nc ns M :=
  fun H locs ls hR hl => lv_lload_n hx hb hd rfl (hl.2.2.2 _ _ hL) (k H locs ls hR hl)
theorem sz_lload (hx : p.tables.exec = Jvm.exec) (hb : c.code = cc) {n : Nat} {x : Int64} (hL : L[n]? = some (some (.long x))) (hd : decode cc bp = .ok (.lload n, 2)) (k : sm_Z p l e R s m args below meth c Qf D A sh cA ρ nL (bp + 2) L (.long x :: st) nc ns M) : sm_Z p l e R s m args below meth c Qf D A sh cA ρ nL bp L st nc ns M :=
  fun H locs ls hR hl => lv_lload hx hb hd (hl.2.2.2 _ _ hL) (k H locs ls hR hl)
theorem sz_aload_n (hx : p.tables.exec = Jvm.exec) (hb : c.code = cc) {n : Fin 4} {x : Nat} (hL : L[n.val]? = some (some (.ref x))) (hd : decode cc bp = .ok (.aload_n n, 1)) (k : sm_Z p l e R s m args below meth c Qf D A sh cA ρ nL (bp + 1) L (.ref x :: st) nc ns M) : sm_Z p l e R s m args below meth c Qf D A sh cA ρ nL bp L st nc ns M :=
  fun H locs ls hR hl => lv_aload_n hx hb hd rfl (hl.2.2.2 _ _ hL) (k H locs ls hR hl)
theorem sz_aload (hx : p.tables.exec = Jvm.exec) (hb : c.code = cc) {n : Nat} {x : Nat} (hL : L[n]? = some (some (.ref x))) (hd : decode cc bp = .ok (.aload n, 2)) (k : sm_Z p l e R s m args below meth c Qf D A sh cA ρ nL (bp + 2) L (.ref x :: st) nc ns M) : sm_Z p l e R s m args below meth c Qf D A sh cA ρ nL bp L st nc ns M :=
  fun H locs ls hR hl => lv_aload hx hb hd (hl.2.2.2 _ _ hL) (k H locs ls hR hl)
/-- a store of one word -/
theorem sm_has.st1 {ls ls' : Array Slot} {L : sm_L} {i : Nat} {v : Value} (h : sm_has ls nL ρ L) (h' : lv_has ls' nL ((i, sm_v ρ v) :: (sm_ll ρ L).filter (fun q => !(q.1 == i) && !(q.1 + 1 == i && q.2.category == 2)))) : sm_has ls' nL ρ (sm_st1 L i (some v)) := by
  refine sm_has.ofList h' ((sm_st1_len _ _ _).trans h.2.1) (fun j w hw => ?_)
  rcases sm_st1_at hw with ⟨rfl, e⟩ | ⟨hne, hL, hc⟩
  · cases e
    exact List.mem_cons_self
  · refine List.mem_cons_of_mem _ (List.mem_filter.mpr ⟨sm_ll_mem hL, ?_⟩)
    simp only [Bool.and_eq_true, Bool.not_eq_true', beq_eq_false_iff_ne, Bool.and_eq_false_iff]
    refine ⟨hne, ?_⟩
    by_cases hj : j + 1 = i
    · right
      rw [sm_v_cat]
      intro z
      exact hc ⟨hj, z⟩
    · exact Or.inl hj
theorem sm_has.st1n {ls ls' : Array Slot} {L : sm_L} {i : Nat} {v : Value} (h : sm_has ls nL ρ L) (h' : lv_has ls' nL ((i, v) :: (sm_ll ρ L).filter (fun q => !(q.1 == i) && !(q.1 + 1 == i && q.2.category == 2)))) : sm_has ls' nL ρ (sm_st1 L i none) := by
  refine sm_has.ofList h' ((sm_st1_len _ _ _).trans h.2.1) (fun j w hw => ?_)
  rcases sm_st1_at hw with ⟨rfl, e⟩ | ⟨hne, hL, hc⟩
  · cases e
  · refine List.mem_cons_of_mem _ (List.mem_filter.mpr ⟨sm_ll_mem hL, ?_⟩)
    simp only [Bool.and_eq_true, Bool.not_eq_true', beq_eq_false_iff_ne, Bool.and_eq_false_iff]
    refine ⟨hne, ?_⟩
    by_cases hj : j + 1 = i
    · right
      rw [sm_v_cat]
      intro z
      exact hc ⟨hj, z⟩
    · exact Or.inl hj
theorem sm_has.st2 {ls ls' : Array Slot} {L : sm_L} {i : Nat} {v : Value} (h : sm_has ls nL ρ L) (h' : lv_has ls' nL ((i, sm_v ρ v) :: (sm_ll ρ L).filter (fun q => !(q.1 == i) && (!(q.1 == i + 1) && !(q.1 + 1 == i && q.2.category == 2))))) : sm_has ls' nL ρ (sm_st2 L i (some v)) := by
  refine sm_has.ofList h' (by rw [sm_st2, List.length_set, sm_st1_len]; exact h.2.1) (fun j w hw => ?_)
  have hj1 : j ≠ i + 1 := by
    intro e
    subst e
    rw [sm_st2] at hw
    by_cases hl : i + 1 < (sm_st1 L i (some v)).length
    · rw [List.getElem?_set_self hl] at hw; cases hw
    · rw [List.getElem?_eq_none (by rw [List.length_set]; omega)] at hw; cases hw
  rw [sm_st2, List.getElem?_set_ne (Ne.symm hj1)] at hw
  rcases sm_st1_at hw with ⟨rfl, e⟩ | ⟨hne, hL, hc⟩
  · cases e
    exact List.mem_cons_self
  · refine List.mem_cons_of_mem _ (List.mem_filter.mpr ⟨sm_ll_mem hL, ?_⟩)
    simp only [Bool.and_eq_true, Bool.not_eq_true', beq_eq_false_iff_ne, Bool.and_eq_false_iff]
    refine ⟨hne, hj1, ?_⟩
    by_cases hj : j + 1 = i
    · right
      rw [sm_v_cat]
      intro z
      exact hc ⟨hj, z⟩
    · exact Or.inl hj
theorem sz_istore_n (hx : p.tables.exec = Jvm.exec) (hb : c.code = cc) {n : Fin 4} {x : Int32} (hn : n.val < L.length) (hd : decode cc bp = .ok (.istore_n n, 1)) (k : sm_Z p l e R s m args below meth c Qf D A sh cA ρ nL (bp + 1) (sm_st1 L n.val (some (.int x))) st nc ns M) : sm_Z p l e R s m args below meth c Qf D A sh cA ρ nL bp L (.int x :: st) nc ns M :=
  fun H locs ls hR hl => lv_istore_n hx hb hd rfl hl.list (by rw [← hl.2.1]; exact hn) rfl fun ls' hl' => k H locs ls' hR (hl.st1 (v := .int x) hl')
theorem sz_istore (hx : p.tables.exec = Jvm.exec) (hb : c.code = cc) {n : Nat} {x : Int32} (hn : n < L.length) (hd : decode cc bp = .ok (.istore n, 2)) (k : sm_Z p l e R s m args below meth c Qf D A sh cA ρ nL (bp + 2) (sm_st1 L n (some (.int x))) st nc ns M) : sm_Z p l e R s m args below meth c Qf D A sh cA ρ nL bp L (.int x :: st) nc ns M :=
  fun H locs ls hR hl => lv_istore hx hb hd hl.list (by rw [← hl.2.1]; exact hn) rfl fun ls' hl' => k H locs ls' hR (hl.st1 (v := .int x) hl')
theorem sz_astore_n (hx : p.tables.exec = Jvm.exec) (hb : c.code = cc) {n : Fin 4} {x : Nat} (hn : n.val < L.length) (hd : decode cc bp = .ok (.astore_n n, 1)) (k : sm_Z p l e R s m args below meth c Qf D A sh cA ρ nL (bp + 1) (sm_st1 L n.val (some (.ref x))) st nc ns M) : sm_Z p l e R s m args below meth c Qf D A sh cA ρ nL bp L (.ref x :: st) nc ns M :=
  fun H locs ls hR hl => lv_astore_n hx hb hd rfl hl.list (by rw [← hl.2.1]; exact hn) rfl fun ls' hl' => k H locs ls' hR (hl.st1 (v := .ref x) hl')
theorem sz_astore (hx : p.tables.exec = Jvm.exec) (hb : c.code = cc) {n : Nat} {x : Nat} (hn : n < L.length) (hd : decode cc bp = .ok (.astore n, 2)) (k : sm_Z p l e R s m args below meth c Qf D A sh cA ρ nL (bp + 2) (sm_st1 L n (some (.ref x))) st nc ns M) : sm_Z p l e R s m args below meth c Qf D A sh cA ρ nL bp L (.ref x :: st) nc ns M :=
  fun H locs ls hR hl => lv_astore hx hb hd hl.list (by rw [← hl.2.1]; exact hn) rfl fun ls' hl' => k H locs ls' hR (hl.st1 (v := .ref x) hl')
theorem sz_lstore_n (hx : p.tables.exec = Jvm.exec) (hb : c.code = cc) {n : Fin 4} {x : Int64} (hn : n.val + 1 < L.length) (hd : decode cc bp = .ok (.lstore_n n, 1)) (k : sm_Z p l e R s m args below meth c Qf D A sh cA ρ nL (bp + 1) (sm_st2 L n.val (some (.long x))) st nc ns M) : sm_Z p l e R s m args below meth c Qf D A sh cA ρ nL bp L (.long x :: st) nc ns M :=
  fun H locs ls hR hl => lv_lstore_n hx hb hd rfl hl.list (by rw [← hl.2.1]; exact hn) rfl fun ls' hl' => k H locs ls' hR (hl.st2 (v := .long x) hl')
theorem sz_lstore (hx : p.tables.exec = Jvm.exec) (hb : c.code = cc) {n : Nat} {x : Int64} (hn : n + 1 < L.length) (hd : decode cc bp = .ok (.lstore n, 2)) (k : sm_Z p l e R s m args below meth c Qf D A sh cA ρ nL (bp + 2) (sm_st2 L n (some (.long x))) st nc ns M) : sm_Z p l e R s m args below meth c Qf D A sh cA ρ nL bp L (.long x :: st) nc ns M :=
  fun H locs ls hR hl => lv_lstore hx hb hd hl.list (by rw [← hl.2.1]; exact hn) rfl fun ls' hl' => k H locs ls' hR (hl.st2 (v := .long x) hl')
theorem sz_iinc (hx : p.tables.exec = Jvm.exec) (hb : c.code = cc) {n : Nat} {i : Int} {x : Int32} (hL : L[n]? = some (some (.int x))) (hd : decode cc bp = .ok (.iinc n i, 3)) (k : sm_Z p l e R s m args below meth c Qf D A sh cA ρ nL (bp + 3) (sm_st1 L n (some (.int (x + Int32.ofInt i)))) st nc ns M) : sm_Z p l e R s m args below meth c Qf D A sh cA ρ nL bp L st nc ns M := by
  intro H locs ls hR hl
  obtain ⟨q, hq⟩ := List.mem_iff_getElem?.mp (sm_ll_mem (ρ := ρ) hL)
  exact lv_iinc hx hb hd hl.list hq rfl (by rw [← hl.2.1]; exact (List.getElem?_eq_some_iff.mp hL).1) rfl fun ls' hl' => k H locs ls' hR (hl.st1 (v := .int (x + Int32.ofInt i)) hl')
end SZ
