/-! ===== what the small machine says, the machine does: a method's contract out of a run of the small machine ===== -/
/-- a handler: the row of the table that takes the exception, and the store with which it begins -/
def sm_hk (Ts : List Cond) (own : String) (cc : ByteArray) (code : List sm_E) (maxL : Nat) (hh : List (Nat × Nat × Nat × Nat)) (bp n h j : Nat) : Prop :=
  ∃ (pre : List ExceptionTableEntry) (x : ExceptionTableEntry) (suf : List ExceptionTableEntry) (name : String), tableOf hh = pre ++ x :: suf ∧ (∀ z ∈ pre, covers z bp = false ∨ (z.catchType ≠ 0 ∧ ∃ nm : String, Cond.classLink own z.catchType nm ∈ Ts ∧ (sm_xn n, nm) ∈ sm_ncs)) ∧ covers x bp = true ∧ x.catchType ≠ 0 ∧ Cond.classLink own x.catchType name ∈ Ts ∧ (sm_xn n, name) ∈ sm_cs ∧ j < maxL ∧
    ∃ eh : sm_E, code[h]? = some eh ∧ ((∃ jf : Fin 4, jf.val = j ∧ decode cc x.handlerPc = .ok (.astore_n jf, 1) ∧ eh.2.1 = x.handlerPc + 1) ∨ (decode cc x.handlerPc = .ok (.astore j, 2) ∧ eh.2.1 = x.handlerPc + 2))
def sm_mok (Ts : List Cond) (P : List sm_Me) (N : List sm_In) (me : sm_Me) (nm : MethodName) (bytes : ByteArray) (ret : Option FieldType) (hh : List (Nat × Nat × Nat × Nat)) : Prop :=
  plainFor nm = true ∧ (∀ (pc : Nat) (e0 : sm_E), me.1[pc]? = some e0 → sm_ent Ts P N nm.cls bytes me.1 ret pc e0) ∧ (∃ e0 : sm_E, me.1[0]? = some e0 ∧ e0.2.1 = 0) ∧
  ((hh = [] ∧ me.2.2.1 = []) ∨ (hh ≠ [] ∧ me.2.2.1 ≠ [] ∧ (∀ (pc : Nat) (e0 : sm_E) (ik : Nat), me.1[pc]? = some e0 → e0.1 ≠ .new ik) ∧ ∀ (pc : Nat) (e0 : sm_E) (n h j : Nat), me.1[pc]? = some e0 → n ≤ 1 → sm_hd me.2.2.1 pc n = some (h, j) → sm_hk Ts nm.cls bytes me.1 me.2.2.2 hh e0.2.1 n h j))
theorem sm_ar_len (ρ : Nat → Nat) : ∀ as : List Value, (lg_sl (as.map (sm_v ρ))).length = (sm_ar as).length
  | [] => rfl
  | v :: r => by
    have ih := sm_ar_len ρ r
    have e : lg_sl ((v :: r).map (sm_v ρ)) = (if (sm_v ρ v).category = 2 then [Slot.val (sm_v ρ v), .second] else [Slot.val (sm_v ρ v)]) ++ lg_sl (r.map (sm_v ρ)) := rfl
    rw [e, List.length_append, ih, sm_v_cat]
    cases v <;> simp [sm_ar, Value.category] <;> omega
theorem sm_ar_args (ρ : Nat → Nat) : ∀ (as : List Value) (k i : Nat) (v : Value), (sm_ar as)[i]? = some (some v) → (k + i, sm_v ρ v) ∈ lv_args k (as.map (sm_v ρ))
  | [], _, i, _, h => by simp [sm_ar] at h
  | w :: r, k, i, v, h => by
    have ih := sm_ar_args ρ r
    have one : ∀ (u : Value), u.category = 1 → sm_ar (u :: r) = some u :: sm_ar r → (sm_ar (u :: r))[i]? = some (some v) → (k + i, sm_v ρ v) ∈ lv_args k ((u :: r).map (sm_v ρ)) := by
      intro u hu e h
      rw [e] at h
      rw [List.map_cons, lv_args, sm_v_cat, hu, if_neg (by decide)]
      cases i with
      | zero => simp at h; subst h; exact List.mem_cons_self
      | succ i =>
        have := ih (k + 1) i v (by simpa using h)
        rw [show k + 1 + i = k + (i + 1) by omega] at this
        exact List.mem_cons_of_mem _ this
    have two : ∀ (u : Value), u.category = 2 → sm_ar (u :: r) = some u :: none :: sm_ar r → (sm_ar (u :: r))[i]? = some (some v) → (k + i, sm_v ρ v) ∈ lv_args k ((u :: r).map (sm_v ρ)) := by
      intro u hu e h
      rw [e] at h
      rw [List.map_cons, lv_args, sm_v_cat, hu, if_pos rfl]
      match i, h with
      | 0, h => simp at h; subst h; exact List.mem_cons_self
      | 1, h => simp at h
      | i + 2, h =>
        have := ih (k + 2) i v (by simpa using h)
        rw [show k + 2 + i = k + (i + 2) by omega] at this
        exact List.mem_cons_of_mem _ this
    cases w with
    | long x => exact two _ rfl rfl h
    | double x => exact two _ rfl rfl h
    | int x => exact one _ rfl rfl h
    | float x => exact one _ rfl rfl h
    | ref x => exact one _ rfl rfl h
    | null => exact one _ rfl rfl h
    | _ => exact one _ rfl rfl h
theorem sm_entry {ρ : Nat → Nat} {as : List Value} {n : Nat} (h : (sm_ar as).length ≤ n) : sm_has ((lg_sl (as.map (sm_v ρ)) ++ List.replicate (n - (lg_sl (as.map (sm_v ρ))).length) Slot.unset).toArray) n ρ (sm_en n as) := by
  have hl := lv_entry (as.map (sm_v ρ)) (n := n) (by rw [sm_ar_len]; exact h)
  refine sm_has.ofList hl (by simp [sm_en]; omega) (fun i v hv => ?_)
  have hv2 : (sm_ar as)[i]? = some (some v) := by
    rw [sm_en] at hv
    by_cases hi : i < (sm_ar as).length
    · rw [List.getElem?_append_left hi] at hv; exact hv
    · rw [List.getElem?_append_right (by omega), List.getElem?_replicate] at hv
      split at hv <;> simp at hv
  have := sm_ar_args ρ as 0 i v hv2
  rw [Nat.zero_add] at this
  exact this
set_option maxHeartbeats 2000000 in
theorem sm_sound (l : Launch) (hl : l.stackTraces = false) {Ts : List Cond} {P : List sm_Me} {N : List sm_In} {sh : List (Nat × Nat)} {X : Nat × (Nat → Int32)} (hgood : Ts.all goodWord = true) (hj : ∀ w ∈ sm_jw, w ∈ Ts) (hsh : ∀ k ci N : Nat, sh[k]? = some (ci, N) → ci < 11)
    (hM : ∀ (y : Nat) (me : sm_Me) (nm : MethodName) (bytes : ByteArray) (ret : Option FieldType) (hh : List (Nat × Nat × Nat × Nat)), P[y]? = some me → N[y]? = some (nm, bytes, ret, hh) → sm_mok Ts P N me nm bytes ret hh) :
    ∀ (d y : Nat) (as : List Value) (M : sm_M) (Q : sm_Q), sm_C sh X P d y as M Q → sm_Mt l Ts P N sh X d y as M Q
  | 0, _, _, _, _, h => h.elim
  | d + 1, y, as, M, Q, h => by
    intro me nm bytes ret hh hP hN D cA ρ sz
    rw [sm_C, hP] at h
    obtain ⟨hlen, hW⟩ := h
    obtain ⟨hpl, hent, ⟨e0, he0, hbp0⟩, hhs⟩ := hM y me nm bytes ret hh hP hN
    have IH := sm_sound l hl (X := X) hgood hj hsh hM d
    have body : ∀ (p : Program) (e : Env) (s : State) (m : MethodId) (below : List Frame) (meth : Method) (c : Code), p.tables.exec = Jvm.exec → c.code = bytes → c.maxLocals = me.2.2.2 → meth.sig.returnType = ret → meth.locks = false → (∀ w ∈ Ts, w.before (as.map (sm_v ρ)).toArray s = true) → s.vm.findClass nm.cls = some m.cls → s.heap.size = sz → va_P D sm_cls (sm_ws sh cA ρ M) s.heap → va_D (fun _ => True) (sm_ws sh cA ρ M) → va_K D sm_cls (sm_tys cA) s → sm_ev ρ X (sm_A sh ρ sz) s s.heap → c.exceptionTable.toList = tableOf hh →
        W p l e (sm_rm (d + 1) me.2.1) s m (as.map (sm_v ρ)).toArray below meth c s.heap [] 0 0 (vx_MQ below (sm_Qc sh D cA ρ Q (sm_A sh ρ sz)) (sm_XC sh D cA ρ Q (sm_A sh ρ sz)) (as.map (sm_v ρ)).toArray s me.2.1.1 me.2.1.2 (sm_A sh ρ sz)) (entryFrame m (as.map (sm_v ρ)).toArray me.2.2.2) := by
      intro p e s m below meth c hx hb hml hr hlocks hts ho hsz hP1 hD1 hK hev htab
      subst hsz
      have hfr : 61 + d ≤ (sm_rm (d + 1) me.2.1).frames ∧ 1060 + 60 * d ≤ (sm_rm (d + 1) me.2.1).locals := by simp only [sm_rm]; omega
      have hfr2 : 60 ≤ (sm_rm (d + 1) me.2.1).frames ∧ 1000 ≤ (sm_rm (d + 1) me.2.1).locals := by simp only [sm_rm]; omega
      have clos := sm_frame (p := p) (l := l) (e := e) (R := sm_rm (d + 1) me.2.1) (s := s) (m := m) (args := (as.map (sm_v ρ)).toArray) (below := below) (meth := meth) (c := c) (Qf := vx_MQ below (sm_Qc sh D cA ρ Q (sm_A sh ρ s.heap.size)) (sm_XC sh D cA ρ Q (sm_A sh ρ s.heap.size)) (as.map (sm_v ρ)).toArray s me.2.1.1 me.2.1.2 (sm_A sh ρ s.heap.size)) (D := D) (sh := sh) (cA := cA) (ρ := ρ) (nL := me.2.2.2) (cc := bytes) (own := nm.cls) (Ts := Ts) (X := X) (me := me) (call := sm_C sh X P d) (Q := Q) (P := P) (N := N) (d := d) (ret := ret)
        hx hb hml hts hgood ho hK hev hfr ⟨rfl, rfl⟩ hsh IH hent (sz_strlen hgood hj hx hb hml hts ho hev hfr2) (sz_strchr hgood hj hx hb hml hts ho hev hfr2) ?_ ?_
      · have hY := hW (sm_YY p l e (sm_rm (d + 1) me.2.1) s m (as.map (sm_v ρ)).toArray below meth c (vx_MQ below (sm_Qc sh D cA ρ Q (sm_A sh ρ s.heap.size)) (sm_XC sh D cA ρ Q (sm_A sh ρ s.heap.size)) (as.map (sm_v ρ)).toArray s me.2.1.1 me.2.1.2 (sm_A sh ρ s.heap.size)) D (sm_A sh ρ s.heap.size) sh cA ρ me.2.2.2 me.1) clos sm_YY_forget
        have hZ := hY e0 he0 s.heap [] _ ⟨hP1, sm_D_any hD1 (fun k hk => Or.inl ⟨k, hk, rfl⟩), va_S.rf⟩ (sm_entry (ρ := ρ) hlen)
        rw [hbp0] at hZ
        rw [lg_entry_eq]
        exact hZ
      · intro pc e1 L st nc ns M1 he1 hisr hpost
        have hE := hent pc e1 he1
        obtain ⟨i, bp, a, b, cN, t⟩ := e1
        cases i with
        | new ik =>
          have hnil : c.exceptionTable.toList = [] := by
            rcases hhs with ⟨rfl, -⟩ | ⟨-, -, hno, -⟩
            · rw [htab]; rfl
            · exact absurd rfl (hno pc _ ik he1)
          exact sm_closeT hx hb hml hl hts ho hev hfr2 ⟨rfl, rfl⟩ (fun x hx => by rw [hnil] at hx; cases hx) hlocks hE hpost
        | ireturn => exact sm_closeR hx hb hr hlocks hE hpost
        | lreturn => exact sm_closeR hx hb hr hlocks hE hpost
        | return_ => exact sm_closeR hx hb hr hlocks hE hpost
        | _ => cases hisr
      · intro pc e1 n nc' ns' L M' H1 locs1 ls rest q ce he1 hn1 haf hRl hl2 hce hcv hcl hc1 hc2
        simp only [sm_af] at haf
        cases hhd : sm_hd me.2.2.1 pc n with
        | none =>
          rw [hhd] at haf
          have hnil : c.exceptionTable.toList = [] := by
            rcases hhs with ⟨rfl, -⟩ | ⟨-, hne, -⟩
            · rw [htab]; rfl
            · exact absurd haf.1 hne
          exact vx_out (fun x hx => by rw [hnil] at hx; cases hx) hlocks hce hcv hcl (fun t ht _ => ⟨n, M', hn1, haf.2, rfl, by rw [ht]; exact hRl.1, hRl.2.2.F ht⟩) (fun z hz => hRl.2.2.2.2 z hz) hc1 hc2
        | some hjj =>
          obtain ⟨hI, jI⟩ := hjj
          rw [hhd] at haf
          rcases hhs with ⟨-, hnil⟩ | ⟨-, -, -, hok⟩
          · rw [hnil] at hhd; cases hhd
          · obtain ⟨pre, x, suf, name, hsplit, hpass, hcov, h0, hlk, hcs, hjl, eh, heh, hst⟩ := hok pc e1 n hI jI he1 hn1 hhd
            refine sm_catch ho pre x suf (htab.trans hsplit) (fun z hz => ?_) hcov h0 (hts _ hlk) (va_Nw.use rfl (hev.2.2.2.2.2.1.2.2.1 _ hcs)) hce hcv hcl ?_
            · rcases hpass z hz with h1 | ⟨h1, nm2, h2, h3⟩
              · exact Or.inl h1
              · exact Or.inr ⟨h1, nm2, hts _ h2, hev.2.2.2.2.2.1.2.2.2 _ h3⟩
            · have hY2 : sm_YY p l e (sm_rm (d + 1) me.2.1) s m (as.map (sm_v ρ)).toArray below meth c _ D (sm_A sh ρ s.heap.size) sh cA ρ me.2.2.2 me.1 (hI, sm_st1 L jI none, [], nc', ns') M' := haf
              have hZ2 := hY2 eh heh
              rcases hst with ⟨jf, hjf, hdec, hbp⟩ | ⟨hdec, hbp⟩
              · refine lv_astore_n hx hb hdec hjf hl2.list hjl rfl fun ls' hl' => ?_
                rw [hbp] at hZ2
                exact hZ2 H1 locs1 ls' hRl (hl2.st1n hl')
              · refine lv_astore hx hb hdec hl2.list hjl rfl fun ls' hl' => ?_
                rw [hbp] at hZ2
                exact hZ2 H1 locs1 ls' hRl (hl2.st1n hl')
    rcases hhs with ⟨rfl, hnil⟩ | ⟨hne, hrest⟩
    · refine sm_ofW (cc := bytes) (maxL := me.2.2.2) (ret := ret) hpl rfl ?_
      intro p e s m args below meth c s₁ B hml hout hPc
      obtain ⟨rfl, hsz, hP1, hD1, hK, hev⟩ := hPc
      have hts := fun w (hw : w ∈ Ts) => atoms_spec (ws := .code nm bytes me.2.2.2 ret :: Ts) B.pre w (List.mem_cons_of_mem _ hw)
      refine body p e s m below meth c B.exec B.bytes hml B.returns B.notSynchronized hts (findClass_of_methodNamed B.named) hsz hP1 hD1 hK hev ?_
      have : c.exceptionTable.toList = [] := by
        cases hc : c.exceptionTable.toList with
        | nil => rfl
        | cons x r => exact (hout x (by rw [hc]; exact List.mem_cons_self)).elim
      rw [this]; rfl
    · obtain ⟨h0, r0, rfl⟩ : ∃ h0 r0, hh = h0 :: r0 := by
        cases hh with
        | nil => exact absurd rfl hne
        | cons a b => exact ⟨a, b, rfl⟩
      refine sm_ofWH (cc := bytes) (maxL := me.2.2.2) (ret := ret) (hh := h0 :: r0) hpl rfl ?_
      intro p e s m args below meth c s₁ B hml hPc
      obtain ⟨rfl, hsz, hP1, hD1, hK, hev⟩ := hPc
      have hts := fun w (hw : w ∈ Ts) => atoms_spec (ws := .codeWith nm bytes me.2.2.2 ret (h0 :: r0) :: Ts) B.pre w (List.mem_cons_of_mem _ hw)
      exact body p e s m below meth c B.exec B.bytes hml B.returns B.notSynchronized hts (findClass_of_methodNamed B.named) hsz hP1 hD1 hK hev (vx_table (x := nm) B (atoms_spec (ws := .codeWith nm bytes me.2.2.2 ret (h0 :: r0) :: Ts) B.pre _ List.mem_cons_self))
