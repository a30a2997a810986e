/-! ===== constructors ===== -/
def cz_nests : List (String × Nat × MethodName) := [("ValleyMass", 18, ⟨"ValleyMass$Reader", "<init>", "()V"⟩), ("ValleyMass$Reader", 11, ⟨"ValleyMass$Tape", "<init>", "()V"⟩), ("ValleyMass", 25, ⟨"ValleyMass$Chronicle", "<init>", "()V"⟩), ("ValleyMass$Chronicle", 11, ⟨"ValleyMass$State", "<init>", "()V"⟩), ("ValleyMass", 35, ⟨"ValleyMass$State", "<init>", "()V"⟩), ("ValleyMass", 42, ⟨"ValleyMass$Valley", "<init>", "()V"⟩), ("ValleyMass$Valley", 57, ⟨"ValleyMass$Rules", "<init>", "()V"⟩)]
def cz_nw (U : State) : Prop := ∀ q ∈ cz_nests, va_Nw (.methodLinkNest q.1 q.2.1 q.2.2 "ValleyMass") U
theorem cz_nw.warm {s U : State} (hW : s.WarmedH U.vm) (h : cz_nw s) : cz_nw U := fun q hq => (h q hq).warmM hW
theorem cz_nw.same {u U : State} (hv : U.vm = u.vm) (h : cz_nw u) : cz_nw U := fun q hq => (h q hq).same rfl hv.symm
theorem cz_nd {l : List Nat} (h : l.Nodup) : va_nd l = true := by
  induction l with
  | nil => rfl
  | cons a l ih =>
    rw [List.nodup_cons] at h
    show (decide (a ∉ l) && va_nd l) = true
    rw [decide_eq_true h.1, ih h.2]; rfl
theorem cz_at {α : Type} {w : List α} {x : α} : (w ++ [x])[w.length]? = some x := by simp
theorem cz_rng {α : Type} {w : List α} {x : α} : (List.range w.length).map (fun i => (w ++ [x])[i]?) = w.map some := by
  apply List.ext_getElem?
  intro i
  rw [List.getElem?_map, List.getElem?_map]
  by_cases h : i < w.length
  · rw [List.getElem?_range h, Option.map_some, List.getElem?_append_left h, List.getElem?_eq_getElem h, Option.map_some]
  · rw [List.getElem?_eq_none (by rw [List.length_range]; omega), List.getElem?_eq_none (by omega)]; rfl
/-- behind a constructor's call: its cell was the last of the world -/
theorem cz_join {A0 : Nat → Prop} {D : va_G} {cl : List vw_C} {ws w1 : va_W} {x : Nat × va_E} {H H1 : Heap} (hP : va_P D cl (ws ++ [x]) H) (hD : va_D A0 (ws ++ [x])) (hk : ∀ q : Nat, q < H.size → ¬ va_A [x] H.size q → H1[q]? = H[q]?) (hF : ∀ q, va_A [x] H.size q → A0 q) (hP1 : va_P D cl w1 H1) (hD1 : va_D (va_A [x] H.size) w1) : va_P D cl (ws ++ w1) H1 ∧ va_D A0 (ws ++ w1) :=
  va_join (wc := [x]) hP hD [ws.length] (List.range ws.length) (by rw [List.map_cons, cz_at]; rfl) cz_rng (cz_nd List.nodup_range) (fun i hi hn => by rw [List.mem_range] at hi; rcases List.mem_cons.mp hn with z | z; omega; cases z) hk hF hP1 hD1
theorem cz_set {α : Type} {w : List α} {x y : α} : (w ++ [x]).set w.length y = w ++ [y] := by
  rw [List.set_append_right _ _ (Nat.le_refl _), Nat.sub_self]; rfl
/-- the contract of a constructor: of the object alone it makes a world of a shape -/
def cz_Met (l : Launch) (D : va_G) (cA : Nat → ClassId) (y : MethodName) (bytes : ByteArray) (ci : Nat) (d : List Value) (Sh : Nat → va_W → Prop) (mc ms fr : Nat) : Prop :=
  ∀ h0 sz : Nat, Met l y (.code y bytes 1 none :: sm_Ts) ({ frames := fr, cells := mc, slots := ms, locals := 20 * fr }) (va_Pc [.ref h0] (fun U => U.heap.size = sz ∧ va_P D sm_cls [(h0, .inr (ci, d))] U.heap ∧ va_K D sm_cls (sm_tys cA) U ∧ va_D (fun _ => True) [(h0, .inr (ci, d))] ∧ cz_nw U))
    (va_Qv (fun _ : Unit => True) (fun _ t => ∃ w1, Sh h0 w1 ∧ va_P D sm_cls w1 t.heap ∧ va_D (va_A [(h0, .inr (ci, d))] sz) w1) (va_A [(h0, .inr (ci, d))] sz)) mc ms (va_A [(h0, .inr (ci, d))] sz)
theorem cz_par : (parseMethodDescriptor "()V").map (fun d => d.parameters.length) = some 0 := by decide +kernel
section CZ
variable {p : Program} {l : Launch} {e : Env} {R : Room} {s : State} {m : MethodId} {args : Array Value} {below : List Frame} {meth : Method} {c : Code} {Qf : State → Prop} {D : va_G} {A : Nat → Prop} {cA : Nat → ClassId} {H0 : Heap}
variable {cc : ByteArray} {own : String} {h0 ci : Nat} {ls : Array Slot} {pc k n : Nat} {fs : List Value} {wr : va_W}
/-- an object under construction -/
def cz_I (p : Program) (l : Launch) (e : Env) (R : Room) (s : State) (m : MethodId) (args : Array Value) (below : List Frame) (meth : Method) (c : Code) (Qf : State → Prop) (D : va_G) (A : Nat → Prop) (H0 : Heap) (h0 ci : Nat) (ls : Array Slot) (pc : Nat) (fs : List Value) (wr : va_W) (k n : Nat) : Prop :=
  ∀ (H : Heap) (locs : List Loc), va_P D sm_cls ((h0, .inr (ci, fs)) :: wr) H → va_D A ((h0, .inr (ci, fs)) :: wr) → va_S A H0 H locs → W p l e R s m args below meth c H locs k n Qf (F0 m pc ls [])
def cz_H (p : Program) (s : State) (m : MethodId) (args : Array Value) (meth : Method) (c : Code) (D : va_G) (A : Nat → Prop) (H0 : Heap) (cA : Nat → ClassId) (cc : ByteArray) (own : String) (h0 ci : Nat) (ls : Array Slot) : Prop :=
  (p.tables.exec = Jvm.exec ∧ c.code = cc ∧ c.maxLocals = 1 ∧ s.vm.findClass own = some m.cls ∧ ∀ w ∈ sm_Ts, w.before args s = true) ∧ va_K D sm_cls (sm_tys cA) s ∧ (∀ q : Nat, H0.size ≤ q → A q) ∧ meth.name = "<init>" ∧ lv_has ls 1 [(0, .ref h0)] ∧ cz_nw s ∧ ∃ (T : u_T) (N : Nat), sm_cls[ci]? = some (own, T, N)
theorem cz_put (h : cz_H p s m args meth c D A H0 cA cc own h0 ci ls) {idx a b : Nat} {fin : Bool} {v : Value} {H : Heap} {locs : List Loc} (hF : sm_fok sm_Ts own idx ci a b fin) (hv : (b = 0 ∧ ∃ x, v = .int x) ∨ (b = 3 ∧ ∃ q, v = .ref q)) (hlen : a < fs.length) (hd : decode cc pc = .ok (.putfield idx, 3)) (hP : va_P D sm_cls ((h0, .inr (ci, fs)) :: wr) H) (hD : va_D A ((h0, .inr (ci, fs)) :: wr)) (hS : va_S A H0 H locs)
    (kk : cz_I p l e R s m args below meth c Qf D A H0 h0 ci ls (pc + 3) (fs.set a v) wr k n) : W p l e R s m args below meth c H locs k n Qf (F0 m pc ls [v, .ref h0]) := by
  obtain ⟨⟨hx, hb, hml, ho, hts⟩, hK, hA, hin, hl, -, T0, N0, hcl⟩ := h
  obtain ⟨h8, C, T, N', hc, ha, hk, hlk, h1, hfin, hw, hnm, hty, ty, hp, hkd⟩ := hF
  rw [hc] at hcl
  cases hcl
  obtain ⟨ty0, hty0⟩ : ∃ ty0 : Nat → FieldType, ∀ k, k < N0 → parseFieldDescriptor (T0 k).2.2.1 = some (ty0 k) := by
    refine ⟨fun k => (parseFieldDescriptor (T0 k).2.2.1).getD .int, fun k hk => ?_⟩
    obtain ⟨t, ht⟩ := hty k hk
    simp [ht]
  have hn : narrow ty v = v ∧ fits ty v = true := by
    rcases hv with ⟨rfl, x, rfl⟩ | ⟨rfl, q, rfl⟩
    · rcases hkd with ⟨-, rfl⟩ | ⟨z, -⟩ | ⟨z, -⟩ | ⟨z, -⟩
      · exact ⟨rfl, rfl⟩
      · cases z
      · cases z
      · cases z
    · rcases hkd with ⟨z, -⟩ | ⟨z, -⟩ | ⟨z, -⟩ | ⟨-, ⟨n, rfl⟩ | ⟨t, rfl⟩⟩
      · cases z
      · cases z
      · cases z
      · exact ⟨rfl, rfl⟩
      · exact ⟨rfl, rfl⟩
  cases fin
  · exact va_put (ref := own) hx hb hts hw ty0 hty0 hnm ho hK hP hD hS 0 rfl hc a ha (hts _ hlk) (fun x hx => by rw [h1] at hx; exact hx) hfin hp hn.1 hn.2 hlen hd (fun H1 locs1 hP1 hD1 hS1 => kk H1 locs1 hP1 hD1 hS1)
  · exact va_putF (ref := own) hx hb hts hw ty0 hty0 hnm ho hK hP hD hS 0 rfl hc a ha (hts _ hlk) (fun x hx => by rw [h1] at hx; exact hx) hfin hin h1 hp hn.1 hn.2 hlen hd (fun H1 locs1 hP1 hD1 hS1 => kk H1 locs1 hP1 hD1 hS1)
/-- a field that holds a number -/
theorem cz_int (h : cz_H p s m args meth c D A H0 cA cc own h0 ci ls) {idx a pc2 : Nat} {fin : Bool} {x : Int32} (d0 : decode cc pc = .ok (.aload_n 0, 1)) (hpush : ∀ (H : Heap) (locs : List Loc) (st : List Value), W p l e R s m args below meth c H locs k n Qf (F0 m pc2 ls (.int x :: st)) → W p l e R s m args below meth c H locs k n Qf (F0 m (pc + 1) ls st)) (hF : sm_fok sm_Ts own idx ci a 0 fin) (hlen : a < fs.length) (hd : decode cc pc2 = .ok (.putfield idx, 3))
    (kk : cz_I p l e R s m args below meth c Qf D A H0 h0 ci ls (pc2 + 3) (fs.set a (.int x)) wr k n) : cz_I p l e R s m args below meth c Qf D A H0 h0 ci ls pc fs wr k n := by
  intro H locs hP hD hS
  refine lv_aload_n h.1.1 h.1.2.1 d0 rfl (lv_at h.2.2.2.2.1 0 rfl) ?_
  exact hpush H locs _ (cz_put h hF (Or.inl ⟨rfl, x, rfl⟩) hlen hd hP hD hS kk)
theorem cz_same {U : State} {t0 : Nat} {c1 : ClassId} {ty : FieldType} (hK : va_K D sm_cls (sm_tys cA) U) (hi : (sm_tys cA)[t0]? = some (cA t0, ty)) (hK1 : va_K D sm_cls (sm_tys cA ++ [(c1, ty)]) U) (ht : ty = .int ∨ ty = .boolean ∨ ty = .long) : c1 = cA t0 := by
  have h1 := (hK.2 t0 _ hi).2
  have h2 := (hK1.2 3 (c1, ty) rfl).2
  rcases ht with rfl | rfl | rfl
  · exact Option.some.inj (h2.symm.trans h1)
  · exact Option.some.inj (h2.symm.trans h1)
  · exact Option.some.inj (h2.symm.trans h1)
/-- a new row, on the stack -/
theorem cz_new (h : cz_H p s m args meth c D A H0 cA cc own h0 ci ls) {ws : va_W} {N t0 : Nat} {x : Int32} {at0 : ArrayType} {ty : FieldType} {st : List Value} {H : Heap} {locs : List Loc} (hat : newarray.typeOf at0 = ty) (ht : (ty = .int ∧ t0 = 0) ∨ (ty = .boolean ∧ t0 = 1)) (harr : Cond.arrayClass ty ∈ sm_Ts) (hx : ¬ x < 0) (hN : x.toNatClampNeg = N) (hby : N ≤ 10000) (hc : k + 1 ≤ R.cells) (hs : n + N ≤ R.slots) (hd : decode cc pc = .ok (.newarray at0, 2)) (hP : va_P D sm_cls ws H) (hD : va_D A ws) (hS : va_S A H0 H locs)
    (kk : ∀ (q : Nat) (H : Heap), va_P D sm_cls (ws ++ [(q, .inl (cA t0, N, .inl fun _ => 0))]) H → va_D A (ws ++ [(q, .inl (cA t0, N, .inl fun _ => 0))]) → va_S A H0 H locs → W p l e R s m args below meth c H locs (k + 1) (n + N) Qf (F0 m (pc + 2) ls (.ref q :: st))) : W p l e R s m args below meth c H locs k n Qf (F0 m pc ls (.int x :: st)) := by
  have hb4 : N * componentBytes ty ≤ 536870912 := by
    rcases ht with ⟨rfl, -⟩ | ⟨rfl, -⟩
    · show N * 4 ≤ _; omega
    · show N * 1 ≤ _; omega
  refine va_newa h.1.1 h.1.2.1 (by rw [hat]; exact h.1.2.2.2.2 _ harr) hat h.2.1 hP hD hS h.2.2.1 (a0 := (N, .inl fun _ => 0)) (fun cA => by rcases ht with ⟨rfl, -⟩ | ⟨rfl, -⟩ <;> rfl) hx hN hb4 hc hs hd (fun q c1 H1 hK1 hP1 hD1 hS1 => ?_)
  have e : c1 = cA t0 := by
    rcases ht with ⟨rfl, rfl⟩ | ⟨rfl, rfl⟩
    · exact cz_same (ty := .int) h.2.1 rfl hK1 (Or.inl rfl)
    · exact cz_same (ty := .boolean) h.2.1 rfl hK1 (Or.inr (Or.inl rfl))
  rw [e] at hP1 hD1
  exact kk q H1 hP1 hD1 hS1
/-- a field that holds a new row -/
theorem cz_arr (h : cz_H p s m args meth c D A H0 cA cc own h0 ci ls) {idx a pc2 N t0 : Nat} {x : Int32} {at0 : ArrayType} {ty : FieldType} (d0 : decode cc pc = .ok (.aload_n 0, 1)) (hpush : ∀ (H : Heap) (locs : List Loc) (st : List Value), W p l e R s m args below meth c H locs k n Qf (F0 m pc2 ls (.int x :: st)) → W p l e R s m args below meth c H locs k n Qf (F0 m (pc + 1) ls st)) (hat : newarray.typeOf at0 = ty) (ht : (ty = .int ∧ t0 = 0) ∨ (ty = .boolean ∧ t0 = 1)) (harr : Cond.arrayClass ty ∈ sm_Ts) (hx : ¬ x < 0) (hN : x.toNatClampNeg = N) (hby : N ≤ 10000) (hc : k + 1 ≤ R.cells) (hs : n + N ≤ R.slots) (hd : decode cc pc2 = .ok (.newarray at0, 2))
    {fin : Bool} (hF : sm_fok sm_Ts own idx ci a 3 fin) (hlen : a < fs.length) (hd2 : decode cc (pc2 + 2) = .ok (.putfield idx, 3)) (kk : ∀ q : Nat, cz_I p l e R s m args below meth c Qf D A H0 h0 ci ls (pc2 + 5) (fs.set a (.ref q)) (wr ++ [(q, .inl (cA t0, N, .inl fun _ => 0))]) (k + 1) (n + N)) : cz_I p l e R s m args below meth c Qf D A H0 h0 ci ls pc fs wr k n := by
  intro H locs hP hD hS
  refine lv_aload_n h.1.1 h.1.2.1 d0 rfl (lv_at h.2.2.2.2.1 0 rfl) ?_
  exact hpush H locs _ (cz_new h hat ht harr hx hN hby hc hs hd hP hD hS (fun q H1 hP1 hD1 hS1 => cz_put h hF (Or.inr ⟨rfl, q, rfl⟩) hlen hd2 hP1 hD1 hS1 (kk q)))
/-- a number into the row that is on the stack, the world's last -/
theorem cz_sto (h : cz_H p s m args meth c D A H0 cA cc own h0 ci ls) {ws : va_W} {q N : Nat} {f : Nat → Int32} {i : Nat} {v : Int32} {st : List Value} {H : Heap} {locs : List Loc} (d0 : decode cc pc = .ok (.dup, 1)) (d1 : decode cc (pc + 1) = .ok (.iconst i, 1)) (d2 : decode cc (pc + 2) = .ok (.iconst (-1), 1)) (d3 : decode cc (pc + 3) = .ok (.iastore, 1)) (hi : i < N) (hN : N < 100) (hP : va_P D sm_cls (ws ++ [(q, .inl (cA 0, N, .inl f))]) H) (hD : va_D A (ws ++ [(q, .inl (cA 0, N, .inl f))])) (hS : va_S A H0 H locs)
    (kk : ∀ (H : Heap) (locs : List Loc), va_P D sm_cls (ws ++ [(q, .inl (cA 0, N, .inl (upd f i (-1))))]) H → va_D A (ws ++ [(q, .inl (cA 0, N, .inl (upd f i (-1))))]) → va_S A H0 H locs → W p l e R s m args below meth c H locs k n Qf (F0 m (pc + 4) ls (.ref q :: st))) : W p l e R s m args below meth c H locs k n Qf (F0 m pc ls (.ref q :: st)) := by
  refine lv_dup h.1.1 h.1.2.1 d0 rfl ?_
  refine lv_iconst h.1.1 h.1.2.1 (v := nI i) d1 rfl ?_
  refine lv_iconst h.1.1 h.1.2.1 (v := -1) d2 rfl ?_
  refine va_iast h.1.1 h.1.2.1 h.2.1 hP hD hS ws.length 0 cz_at rfl (i := nI i) (sm_in_vp (sn_in' hi (by omega))) d3 (fun H1 locs1 hP1 hD1 hS1 => ?_)
  rw [nI_clamp (by omega), cz_set] at hP1 hD1
  exact kk H1 locs1 hP1 hD1 hS1
/-- a field that holds a new object, by its constructor, a nest mate's -/
theorem cz_obj (h : cz_H p s m args meth c D A H0 cA cc own h0 ci ls) {ic im idx a cj mc ms fr N' : Nat} {C' : String} {T' : u_T} {dj : List Value} {bytes : ByteArray} {Sh : Nat → va_W → Prop} {fin : Bool} {idx2 a2 : Nat} {fin2 : Bool} {b2 : Nat} {own2 : String} (d0 : decode cc pc = .ok (.aload_n 0, 1)) (d1 : decode cc (pc + 1) = .ok (.new ic, 3)) (d2 : decode cc (pc + 4) = .ok (.dup, 1)) (d3 : decode cc (pc + 5) = .ok (.invokespecial im, 3)) (d4 : decode cc (pc + 8) = .ok (.putfield idx, 3))
    (hcl : Cond.classLink own ic C' ∈ sm_Ts) (hinst : Cond.instantiable C' N' ∈ sm_Ts) (hini : Cond.initialized C' ∈ sm_Ts) (hcj : sm_cls[cj]? = some (C', T', N')) (hfj : sm_fok sm_Ts own2 idx2 cj a2 b2 fin2) (hdj : ∀ j, j < N' → defaultValue ((parseFieldDescriptor (T' j).2.2.1).getD .int) = vp_V dj j) (hM : cz_Met l D cA ⟨C', "<init>", "()V"⟩ bytes cj dj Sh mc ms fr) (hcode : Cond.code ⟨C', "<init>", "()V"⟩ bytes 1 none ∈ sm_Ts) (hnest : (own, im, (⟨C', "<init>", "()V"⟩ : MethodName)) ∈ cz_nests) (hinm : Cond.instanceMethod ⟨C', "<init>", "()V"⟩ ∈ sm_Ts) (hno : C' ≠ "java/lang/invoke/MethodHandle" ∧ C' ≠ "java/lang/invoke/VarHandle")
    (hfr : fr + 1 ≤ R.frames) (hlo : 20 + 20 * fr ≤ R.locals) (hc : k + 1 + mc ≤ R.cells) (hs : n + N' + ms ≤ R.slots) (hF : sm_fok sm_Ts own idx ci a 3 fin) (hlen : a < fs.length) (kk : ∀ (q : Nat) (w1 : va_W), Sh q w1 → cz_I p l e R s m args below meth c Qf D A H0 h0 ci ls (pc + 11) (fs.set a (.ref q)) (wr ++ w1) (k + 1 + mc) (n + N' + ms)) : cz_I p l e R s m args below meth c Qf D A H0 h0 ci ls pc fs wr k n := by
  intro H locs hP hD hS
  have hx := h.1.1
  have hb := h.1.2.1
  have hml := h.1.2.2.1
  have ho := h.1.2.2.2.1
  have hts := h.1.2.2.2.2
  have hK := h.2.1
  have hA := h.2.2.1
  have hl := h.2.2.2.2.1
  have hnw := h.2.2.2.2.2.1
  obtain ⟨-, C, T, N, hcj2, -, -, -, -, -, hw, -, hty, -⟩ := hfj
  rw [hcj] at hcj2
  cases hcj2
  refine lv_aload_n hx hb d0 rfl (lv_at hl 0 rfl) ?_
  refine va_new (ci := cj) (fs := dj) (C := C') (T := T') (N := N') hx hb hts hw (fun k => (parseFieldDescriptor (T' k).2.2.1).getD .int) (fun k hk => by obtain ⟨t, ht⟩ := hty k hk; simp [ht]) ho (hts _ hcl) (hts _ hinst) (hts _ hini) hK hP hD hS hA hcj hdj (by omega) (by omega) d1 (fun q H hP hD hS => ?_)
  refine lv_dup hx hb d2 rfl ?_
  have hP : va_P D sm_cls (((h0, .inr (ci, fs)) :: wr) ++ [(q, .inr (cj, dj))]) H := hP
  have hD : va_D A (((h0, .inr (ci, fs)) :: wr) ++ [(q, .inr (cj, dj))]) := hD
  have hPc : va_P D sm_cls [(q, .inr (cj, dj))] H := fun i z hz => by
    cases i with
    | zero => cases hz; exact hP _ _ cz_at
    | succ i => cases hz
  have hDc : va_D (fun _ => True) [(q, .inr (cj, dj))] := ⟨fun i j x y hi hj _ => by
    have h1 := at_lt hi
    have h2 := at_lt hj
    rw [List.length_singleton] at h1 h2
    omega, fun _ _ _ => trivial⟩
  have hFc : ∀ z, va_A [(q, .inr (cj, dj))] H.size z → A z := fun z hz => by
    rcases hz with ⟨i, e, hi⟩ | hz
    · cases i with
      | zero => cases hi; exact hD.2 _ _ cz_at
      | succ i => cases hi
    · exact hA z (Nat.le_trans hS.1 hz)
  have hG : GoodIn sm_Ts (.code ⟨C', "<init>", "()V"⟩ bytes 1 none :: sm_Ts) := by
    intro w hw
    have hw2 : w ∈ sm_Ts := by
      rcases List.mem_cons.mp hw with rfl | h2
      · exact hcode
      · exact h2
    exact ⟨hw2, good_of_word (List.all_eq_true.mp sm_Tg w hw2)⟩
  refine va_callv (va_runIN (As := []) (rest := [.ref q, .ref h0]) (host := "ValleyMass") ⟨hx, hb, hml, ho, hts⟩ (hM q H.size) ⟨va_cnB 0 hts hG rfl rfl rfl (hnw _ hnest) (hts _ hini) ⟨hno.1, hno.2, cz_par⟩ ⟨hfr, by show 8 + (1 + 11) + 20 * fr ≤ R.locals; omega⟩, rfl, hts _ hinm⟩ ⟨fun a U g mk z => by obtain ⟨z0, z1, z2, z3, z4, z5⟩ := z; exact ⟨z0, z1, z2, va_K.moved (u := U) (U := U.calling g mk a) (Vm.Alike.refl U.vm) z3, z4, cz_nw.same (u := U) (U := U.calling g mk a) rfl z5⟩, fun U hU hW => ⟨rfl, by rw [hU], by rw [hU]; exact hPc, va_K.moved hW.alike hK, hDc, cz_nw.warm hW hnw⟩⟩ rfl rfl hl.1 rfl (lv_room (Nat.le_of_ble_eq_true rfl)) d3 ⟨hc, hs⟩) hS (fun z _ hz => hFc z hz) hFc (fun u t H1 locs1 ht hvm hp1 hB hz1 hk1 hS1 => ?_)
  obtain ⟨w1, g1, g2, g3⟩ := hB
  rw [ht] at g2
  obtain ⟨j1, j2⟩ := cz_join hP hD hk1 hFc g2 g3
  exact cz_put h hF (Or.inr ⟨rfl, q, rfl⟩) hlen d4 j1 j2 hS1 (kk q w1 g1)
end CZ
/-- a constructor, from its body -/
theorem cz_go {l : Launch} {D : va_G} {cA : Nat → ClassId} {own : String} {bytes : ByteArray} {ci : Nat} {d : List Value} {Sh : Nat → va_W → Prop} {mc ms fr io pcr : Nat} (hno : own ≠ "java/lang/invoke/MethodHandle" ∧ own ≠ "java/lang/invoke/VarHandle") (hfr : 1 ≤ fr) (d0 : decode bytes 0 = .ok (.aload_n 0, 1)) (d1 : decode bytes 1 = .ok (.invokespecial io, 3)) (hlk : Cond.methodLink own io objectInit ∈ sm_Ts) (hoi : Cond.instanceMethod objectInit ∈ sm_Ts) (hoc : Cond.code objectInit ⟨#[0xb1]⟩ 1 none ∈ sm_Ts) (hcl : ∃ (T : u_T) (N : Nat), sm_cls[ci]? = some (own, T, N)) (dr : decode bytes pcr = .ok (.return_, 1)) (hpl : plainName own = true)
    (body : ∀ {p : Program} {e : Env} {s : State} {m : MethodId} {args : Array Value} {below : List Frame} {meth : Method} {c : Code} {Qf : State → Prop} {A : Nat → Prop} {H0 : Heap} {h0 : Nat} {ls : Array Slot}, cz_H p s m args meth c D A H0 cA bytes own h0 ci ls → (∀ (fs : List Value) (wr : va_W), Sh h0 ((h0, .inr (ci, fs)) :: wr) → cz_I p l e ({ frames := fr, cells := mc, slots := ms, locals := 20 * fr }) s m args below meth c Qf D A H0 h0 ci ls pcr fs wr mc ms) → cz_I p l e ({ frames := fr, cells := mc, slots := ms, locals := 20 * fr }) s m args below meth c Qf D A H0 h0 ci ls 4 d [] 0 0) : cz_Met l D cA ⟨own, "<init>", "()V"⟩ bytes ci d Sh mc ms fr := by
  intro h0 sz
  refine Met.ofW (cc := bytes) (maxL := 1) (ret := none) hpl rfl ?_
  intro p e s m args below meth c s₁ B hml hv
  obtain ⟨rfl, hsz, hP, hK, hD0, hnw⟩ := hv
  have hx := B.exec
  have hb := B.bytes
  have hr := B.returns
  have hts0 := atoms_spec (ws := .code ⟨own, "<init>", "()V"⟩ bytes 1 none :: sm_Ts) B.pre
  have hts : ∀ w ∈ sm_Ts, w.before _ s = true := fun w hw => hts0 w (List.mem_cons_of_mem _ hw)
  have hown : s.vm.findClass own = some m.cls := findClass_of_methodNamed B.named
  have hin : meth.name = "<init>" := (name_of_methodNamed B.named B.method).1
  subst hsz
  have hD := hD0.self (sz := s.heap.size)
  generalize hAe : va_A [(h0, .inr (ci, d))] s.heap.size = A at hD ⊢
  have hA : ∀ q : Nat, s.heap.size ≤ q → A q := fun q h => by rw [← hAe]; exact Or.inr h
  have hS : va_S A s.heap s.heap [] := va_S.rf
  have hl := lv_entry ([.ref h0]) (n := 1) (Nat.le_of_ble_eq_true rfl)
  rw [lg_entry_eq]
  generalize (lg_sl ([.ref h0]) ++ List.replicate (1 - (lg_sl ([.ref h0])).length) Slot.unset).toArray = ls at hl ⊢
  have hl : lv_has ls 1 [(0, .ref h0)] := hl
  refine lv_aload_n hx hb d0 rfl (lv_at hl 0 rfl) ?_
  refine W.objInit hx hb hown (hts _ hlk) (hts _ hoi) (hts _ hoc) rfl (by rw [hml]; exact hl.1) rfl d1 hfr (by show _ ≤ 20 * fr; show 0 + 12 ≤ 20 * fr; omega) ?_
  refine W.eq (g2 := F0 m 4 ls []) rfl ?_
  have H1 : cz_H p s m ([Value.ref h0] : List Value).toArray meth c D A s.heap cA bytes own h0 ci ls := ⟨⟨hx, hb, hml, hown, hts⟩, hK, hA, hin, hl, hnw, hcl⟩
  refine body H1 (fun fs wr hsh => ?_) s.heap [] hP hD hS
  intro H locs hP hD hS
  exact W.vret hx hb hr (fun t ht hW => ⟨⟨(), rfl, trivial, _, hsh, by rw [ht]; exact hP, hD⟩, hS.F ht⟩) hS.2.2 dr
