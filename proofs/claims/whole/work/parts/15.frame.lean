/-! ===== a frame of the small machine is one of the machine ===== -/
def sm_strlen : MethodName := ⟨"java/lang/String", "length", "()I"⟩
def sm_strchr : MethodName := ⟨"java/lang/String", "charAt", "(I)C"⟩
/-- what holds of every entry of a method's code -/
def sm_ent (Ts : List Cond) (P : List sm_Me) (N : List sm_In) (own : String) (cc : ByteArray) (code : List sm_E) (ret : Option FieldType) (pc : Nat) (e : sm_E) : Prop := match e with
  | (i, bp, a, b, c, t) => match i with
    | .nop => True
    | .invokestatic idx => decode cc bp = .ok (.invokestatic idx, 3) ∧ sm_nx code pc bp i ∧ ((c = 3 ∧ Cond.methodLink own idx arraycopyName ∈ Ts ∧ Cond.native arraycopyName ∈ Ts ∧ Cond.static arraycopyName ∈ Ts ∧ Cond.initialized "java/lang/System" ∈ Ts) ∨ sm_iok Ts P N own idx a b c t false)
    | .invokevirtual idx => decode cc bp = .ok (.invokevirtual idx, 3) ∧ sm_nx code pc bp i ∧ ((c = 1 ∧ Cond.methodLink own idx sm_strlen ∈ Ts) ∨ (c = 2 ∧ Cond.methodLink own idx sm_strchr ∈ Ts) ∨ sm_iok Ts P N own idx a b c t true)
    | .new ik => sm_tok Ts own cc bp ik a
    | .ireturn => sm_rok cc ret i bp a
    | .lreturn => sm_rok cc ret i bp a
    | .return_ => sm_rok cc ret i bp a
    | _ => sm_eok Ts own cc code pc e
def sm_isr : Instr → Bool
  | .new _ => true
  | .ireturn => true
  | .lreturn => true
  | .return_ => true
  | _ => false
section SFR
variable {p : Program} {l : Launch} {e : Env} {R : Room} {s : State} {m : MethodId} {args : Array Value} {below : List Frame} {meth : Method} {c : Code} {Qf : State → Prop} {D : va_G} {sh : List (Nat × Nat)} {cA : Nat → ClassId} {ρ : Nat → Nat} {nL : Nat}
variable {cc : ByteArray}
set_option maxHeartbeats 2000000 in
theorem sm_frame {own : String} {Ts : List Cond} {X : Nat × (Nat → Int32)} {me : sm_Me} {call : sm_K} {Q : sm_Q} {P : List sm_Me} {N : List sm_In} {d : Nat} {ret : Option FieldType}
    (hx : p.tables.exec = Jvm.exec) (hb : c.code = cc) (hml : c.maxLocals = nL) (hts : ∀ w ∈ Ts, w.before args s = true) (hgood : Ts.all goodWord = true) (ho : s.vm.findClass own = some m.cls) (hK : va_K D sm_cls (sm_tys cA) s)
    (hev : sm_ev ρ X (sm_A sh ρ s.heap.size) s s.heap) (hR : 61 + d ≤ R.frames ∧ 1060 + 60 * d ≤ R.locals) (hRc : R.cells = me.2.1.1 ∧ R.slots = me.2.1.2) (hsh : ∀ k ci N : Nat, sh[k]? = some (ci, N) → ci < 11)
    (hcall : ∀ y as M Q', call y as M Q' → sm_Mt l Ts P N sh X d y as M Q')
    (hent : ∀ (pc : Nat) (e0 : sm_E), me.1[pc]? = some e0 → sm_ent Ts P N own cc me.1 ret pc e0)
    (hs1 : ∀ (bp idx : Nat) (L : sm_L) (st : List Value) (nc ns : Nat) (M : sm_M), nc ≤ R.cells → ns ≤ R.slots → decode cc bp = .ok (.invokevirtual idx, 3) → Cond.methodLink own idx sm_strlen ∈ Ts → (st.map fun v => v.category).sum ≤ 8 → sm_Z p l e R s m args below meth c Qf D (sm_A sh ρ s.heap.size) sh cA ρ nL (bp + 3) L (.int (Int32.ofNat 130) :: st) nc ns M → sm_Z p l e R s m args below meth c Qf D (sm_A sh ρ s.heap.size) sh cA ρ nL bp L (.ref sm_STR :: st) nc ns M)
    (hs2 : ∀ (bp idx : Nat) (i : Int32) (L : sm_L) (st : List Value) (nc ns : Nat) (M : sm_M), nc ≤ R.cells → ns ≤ R.slots → decode cc bp = .ok (.invokevirtual idx, 3) → Cond.methodLink own idx sm_strchr ∈ Ts → sm_in i 130 = true → (st.map fun v => v.category).sum ≤ 8 → sm_Z p l e R s m args below meth c Qf D (sm_A sh ρ s.heap.size) sh cA ρ nL (bp + 3) L (.int (Int32.ofNat (sm_text.getD i.toNatClampNeg 0)) :: st) nc ns M → sm_Z p l e R s m args below meth c Qf D (sm_A sh ρ s.heap.size) sh cA ρ nL bp L (.int i :: .ref sm_STR :: st) nc ns M)
    (hret : ∀ (pc : Nat) (e0 : sm_E) (L : sm_L) (st : List Value) (nc ns : Nat) (M : sm_M), me.1[pc]? = some e0 → sm_isr e0.1 = true → sm_post call me.2.2.1 pc Q (sm_YY p l e R s m args below meth c Qf D (sm_A sh ρ s.heap.size) sh cA ρ nL me.1) M (sm_do sh X me.2.1 e0 pc L st nc ns M) → sm_Z p l e R s m args below meth c Qf D (sm_A sh ρ s.heap.size) sh cA ρ nL e0.2.1 L st nc ns M)
    (hcx : ∀ (pc : Nat) (e0 : sm_E) (n nc' ns' : Nat) (L : sm_L) (M' : sm_M) (H1 : Heap) (locs1 : List Loc) (ls : Array Slot) (rest : List Value) (q : Addr) (ce : Cell), me.1[pc]? = some e0 → n ≤ 1 → sm_af me.2.2.1 pc Q (sm_YY p l e R s m args below meth c Qf D (sm_A sh ρ s.heap.size) sh cA ρ nL me.1) (pc + 1, L, rest, nc', ns') (.inr n) M' → sm_Rl D (sm_A sh ρ s.heap.size) sh cA ρ s.heap M' H1 locs1 → sm_has ls nL ρ L → H1[q]? = some ce → ce.vm = .none → s.vm.findClass (sm_xn n) = some ce.cls → nc' ≤ me.2.1.1 → ns' ≤ me.2.1.2 →
      vx_W p l e R s m args below meth c H1 locs1 nc' ns' Qf (F0 m e0.2.1 ls (rest.map (sm_v ρ))) q) :
    ∀ fr M, sm_Pre sh X call me Q (sm_YY p l e R s m args below meth c Qf D (sm_A sh ρ s.heap.size) sh cA ρ nL me.1) fr M → sm_YY p l e R s m args below meth c Qf D (sm_A sh ρ s.heap.size) sh cA ρ nL me.1 fr M := by
  rintro ⟨pc, L, st, nc, ns⟩ M hpre e0 he0
  have h : sm_post call me.2.2.1 pc Q (sm_YY p l e R s m args below meth c Qf D (sm_A sh ρ s.heap.size) sh cA ρ nL me.1) M (sm_do sh X me.2.1 e0 pc L st nc ns M) := by
    have e1 : sm_step sh X me (pc, L, st, nc, ns) M = sm_do sh X me.2.1 e0 pc L st nc ns M := by simp only [sm_step, he0]
    unfold sm_Pre at hpre
    rw [e1] at hpre
    exact hpre
  have hE := hent pc e0 he0
  by_cases hr : sm_isr e0.1 = true
  · exact hret pc e0 L st nc ns M he0 hr h
  · have hcx' := fun n nc' ns' L M' H1 locs1 ls rest q ce => hcx pc e0 n nc' ns' L M' H1 locs1 ls rest q ce he0
    obtain ⟨i, bp, a, b, cN, t⟩ := e0
    cases i with
    | nop => exact (show False from h).elim
    | new n => exact absurd rfl hr
    | ireturn => exact absurd rfl hr
    | lreturn => exact absurd rfl hr
    | return_ => exact absurd rfl hr
    | invokestatic idx =>
      obtain ⟨hd, hn, hc⟩ := hE
      rcases hc with ⟨rfl, k1, k2, k3, k4⟩ | hi
      · obtain ⟨n, dp, k1', sp, k0', st2, n0, n1, rfl, g0, g1, g2, g3, hY⟩ := sp_cp (show sm_post _ _ _ _ _ _ (sm_cp sh pc L st nc ns M) from h)
        exact sz_copy hx hb hml hts ho hK k1 k2 k3 k4 g0 g1 g3 g2 (by omega) (by omega) hd (hn.go hY)
      · exact sm_closeC (virt := false) hx hb hml hts hgood ho hK hev hR hRc hcall hcx' hi hd hn h
    | invokevirtual idx =>
      obtain ⟨hd, hn, hc⟩ := hE
      rcases hc with ⟨rfl, k1⟩ | ⟨rfl, k1⟩ | hi
      · obtain ⟨st2, rfl, g1, y1, y2, hY⟩ := sp_cls1 (sh := sh) (B := me.2.1) (a := a) (b := b) (t := t) h
        exact hs1 bp idx L st2 nc ns M (by rw [hRc.1]; exact y1) (by rw [hRc.2]; exact y2) hd k1 g1 (hn.go hY)
      · obtain ⟨i, st2, rfl, g1, y1, y2, g2, hY⟩ := sp_cls2 (sh := sh) (B := me.2.1) (a := a) (b := b) (t := t) h
        exact hs2 bp idx i L st2 nc ns M (by rw [hRc.1]; exact y1) (by rw [hRc.2]; exact y2) hd k1 g2 g1 (hn.go hY)
      · exact sm_closeC (virt := true) hx hb hml hts hgood ho hK hev hR hRc hcall hcx' hi hd hn h
    | _ => exact sm_close1 hx hb hts ho hK hev.1 hev.2.1 hev.2.2.1 hev.2.2.2.2.2.2.1 hsh hE rfl h
theorem sm_YY_forget {code : List sm_E} {A : Nat → Prop} : ∀ (pc : Nat) (L L' : sm_L) (st : List Value) (n : Nat × Nat) (M : sm_M), sm_sub L' L → sm_YY p l e R s m args below meth c Qf D A sh cA ρ nL code (pc, L', st, n) M → sm_YY p l e R s m args below meth c Qf D A sh cA ρ nL code (pc, L, st, n) M := by
  intro pc L L' st n M hs h e0 he0 H locs ls hR hl
  exact h e0 he0 H locs ls hR (hl.sub hs)
end SFR
