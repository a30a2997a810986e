/-! ===== every plain instruction of the small machine is one of the machine ===== -/
def sm_ln : Instr → Nat
  | .bipush _ => 2
  | .ldc _ => 2
  | .iload _ => 2
  | .lload _ => 2
  | .aload _ => 2
  | .istore _ => 2
  | .lstore _ => 2
  | .astore _ => 2
  | .sipush _ => 3
  | .ldc_w _ => 3
  | .ldc2_w _ => 3
  | .iinc _ _ => 3
  | .goto _ => 3
  | .ifCond _ _ => 3
  | .if_icmp _ _ => 3
  | .getfield _ => 3
  | .putfield _ => 3
  | .invokestatic _ => 3
  | .invokevirtual _ => 3
  | .new _ => 3
  | _ => 1
def sm_nx (code : List sm_E) (pc bp : Nat) (i : Instr) : Prop := ∃ e1 : sm_E, code[pc + 1]? = some e1 ∧ e1.2.1 = bp + sm_ln i
def sm_tg (code : List sm_E) (a : Nat) (x : Int) : Prop := ∃ e1 : sm_E, code[a]? = some e1 ∧ x = (e1.2.1 : Int)
/-- the ways of a table: place by place the same bytes -/
def sm_tgs (code : List sm_E) (bp : Nat) : List Int → List Nat → Prop
  | [], [] => True
  | o :: os, a :: as => sm_tg code a ((bp : Int) + o) ∧ sm_tgs code bp os as
  | _, _ => False
/-- what holds of an entry of the code: it is what the bytes say, and its numbers are what the tables say -/
def sm_eok (Ts : List Cond) (own : String) (cc : ByteArray) (code : List sm_E) (pc : Nat) (e : sm_E) : Prop := match e with
  | (i, bp, a, b, c, t) => match i with
    | .goto off => decode cc bp = .ok (i, sm_ln i) ∧ sm_tg code a ((bp : Int) + off)
    | .ifCond _ off => decode cc bp = .ok (i, sm_ln i) ∧ sm_nx code pc bp i ∧ sm_tg code a ((bp : Int) + off)
    | .if_icmp _ off => decode cc bp = .ok (i, sm_ln i) ∧ sm_nx code pc bp i ∧ sm_tg code a ((bp : Int) + off)
    | .tableswitch d lo hi offs => (∃ len, decode cc bp = .ok (i, len)) ∧ sm_tg code a ((bp : Int) + d) ∧ sm_tgs code bp offs.toList t ∧ hi = lo + (offs.size : Int) - 1
    | .lookupswitch d ps => (∃ len, decode cc bp = .ok (i, len)) ∧ sm_tg code a ((bp : Int) + d) ∧ sm_tgs code bp (ps.toList.map Prod.snd) t ∧ (ps.toList.zip (ps.toList.drop 1)).all (fun (a, next) => a.1 < next.1) = true
    | .getfield idx => decode cc bp = .ok (i, sm_ln i) ∧ sm_nx code pc bp i ∧ ∃ fin, sm_fok Ts own idx c a b fin
    | .putfield idx => decode cc bp = .ok (i, sm_ln i) ∧ sm_nx code pc bp i ∧ sm_fok Ts own idx c a b false
    | .ldc idx => decode cc bp = .ok (i, sm_ln i) ∧ sm_nx code pc bp i ∧ ((c = 0 ∧ Cond.constant own idx (Int32.ofNat a) ∈ Ts) ∨ (c = 1 ∧ own = "ValleyMass$Tape" ∧ idx = 67))
    | .ldc_w idx => decode cc bp = .ok (i, sm_ln i) ∧ sm_nx code pc bp i ∧ Cond.constant own idx (Int32.ofNat a) ∈ Ts
    | .ldc2_w idx => decode cc bp = .ok (i, sm_ln i) ∧ sm_nx code pc bp i ∧ Cond.constantLong own idx (Int64.ofNat a) ∈ Ts
    | _ => decode cc bp = .ok (i, sm_ln i) ∧ sm_nx code pc bp i
def sm_plain : Instr → Bool
  | .invokestatic _ => false
  | .invokevirtual _ => false
  | .new _ => false
  | .ireturn => false
  | .lreturn => false
  | .return_ => false
  | _ => true
section SC
variable {p : Program} {l : Launch} {e : Env} {R : Room} {s : State} {m : MethodId} {args : Array Value} {below : List Frame} {meth : Method} {c : Code} {Qf : State → Prop} {D : va_G} {A : Nat → Prop} {sh : List (Nat × Nat)} {cA : Nat → ClassId} {ρ : Nat → Nat} {nL : Nat}
variable {cc : ByteArray} {L : sm_L} {st : List Value} {nc ns : Nat} {M M0 : sm_M}
/-- the code's places, as what the machine comes to from there -/
def sm_YY (p : Program) (l : Launch) (e : Env) (R : Room) (s : State) (m : MethodId) (args : Array Value) (below : List Frame) (meth : Method) (c : Code) (Qf : State → Prop) (D : va_G) (A : Nat → Prop) (sh : List (Nat × Nat)) (cA : Nat → ClassId) (ρ : Nat → Nat) (nL : Nat) (code : List sm_E) (fr : sm_F) (M : sm_M) : Prop := match fr with
  | (pc, L, st, nc, ns) => ∀ e0 : sm_E, code[pc]? = some e0 → sm_Z p l e R s m args below meth c Qf D A sh cA ρ nL e0.2.1 L st nc ns M
theorem sm_nx.go {code : List sm_E} {pc bp : Nat} {i : Instr} (h : sm_nx code pc bp i) {L : sm_L} {st : List Value} {nc ns : Nat} {M : sm_M} (hY : sm_YY p l e R s m args below meth c Qf D A sh cA ρ nL code (pc + 1, L, st, nc, ns) M) : sm_Z p l e R s m args below meth c Qf D A sh cA ρ nL (bp + sm_ln i) L st nc ns M := by
  obtain ⟨e1, h1, h2⟩ := h
  rw [← h2]
  exact hY e1 h1
theorem sm_tgs_at {code : List sm_E} {bp : Nat} : ∀ {os : List Int} {as : List Nat}, sm_tgs code bp os as → ∀ (n : Nat) (o : Int), os[n]? = some o → ∃ a, as[n]? = some a ∧ sm_tg code a ((bp : Int) + o)
  | [], [], _, n, o, h => by simp at h
  | o :: os, a :: as, hs, 0, o', h => by simp at h; subst h; exact ⟨a, rfl, hs.1⟩
  | o :: os, a :: as, hs, n + 1, o', h => by simpa using sm_tgs_at (os := os) (as := as) hs.2 n o' (by simpa using h)
  | [], _ :: _, hs, _, _, _ => hs.elim
  | _ :: _, [], hs, _, _, _ => hs.elim
theorem sm_tgs_len {code : List sm_E} {bp : Nat} : ∀ {os : List Int} {as : List Nat}, sm_tgs code bp os as → os.length = as.length
  | [], [], _ => rfl
  | o :: os, a :: as, h => by simp [sm_tgs_len (os := os) (as := as) h.2]
  | [], _ :: _, h => h.elim
  | _ :: _, [], h => h.elim
theorem sm_sl_tg {code : List sm_E} {bp d : Nat} {dflt x : Int} (hd : sm_tg code d ((bp : Int) + dflt)) : ∀ {ps : List (Int × Int)} {as : List Nat}, sm_tgs code bp (ps.map Prod.snd) as → sm_tg code (sm_sl x d ps as) ((bp : Int) + Op.lookupswitch.offset ps dflt x)
  | [], [], _ => hd
  | (k, o) :: ps, a :: as, h => by
    rw [sm_sl, Op.lookupswitch.offset]
    by_cases hx : x = k
    · rw [if_pos hx, if_pos hx.symm]; exact h.1
    · rw [if_neg hx, if_neg (fun z => hx z.symm)]; exact sm_sl_tg (ps := ps) (as := as) hd h.2
  | [], _ :: _, h => h.elim
  | (_, _) :: _, [], h => h.elim
set_option maxHeartbeats 4000000 in
theorem sm_close1 {own : String} {Ts : List Cond} {code : List sm_E} {X : Nat × (Nat → Int32)} {B : Nat × Nat} {call : sm_K} {hs : List (Nat × Nat × Nat × Nat × Nat)} {pc0 pc : Nat} {Q : sm_Q} {en : sm_E}
    (hx : p.tables.exec = Jvm.exec) (hb : c.code = cc) (hts : ∀ w ∈ Ts, w.before args s = true) (ho : s.vm.findClass own = some m.cls) (hK : va_K D sm_cls (sm_tys cA) s)
    (hX : va_X (ρ sm_SCR) X.1 X.2 s s.heap) (hbl : ρ sm_SCR < s.heap.size) (hbA : ¬ A (ρ sm_SCR)) (hT : ∃ tx, vk_R "ValleyMass$Tape" 67 tx (ρ sm_STR) s) (hsh : ∀ k ci N : Nat, sh[k]? = some (ci, N) → ci < 11)
    (hE : sm_eok Ts own cc code pc en) (hP : sm_plain en.1 = true) (h : sm_post call hs pc0 Q (sm_YY p l e R s m args below meth c Qf D A sh cA ρ nL code) M0 (sm_do sh X B en pc L st nc ns M)) :
    sm_Z p l e R s m args below meth c Qf D A sh cA ρ nL en.2.1 L st nc ns M := by
  obtain ⟨i, bp, a, b, cN, t⟩ := en
  cases i with
  | iconst n =>
    obtain ⟨hd, hn⟩ := hE
    exact sz_iconst hx hb hd (hn.go (sp_go h))
  | bipush n =>
    obtain ⟨hd, hn⟩ := hE
    exact sz_bipush hx hb hd (hn.go (sp_go h))
  | sipush n =>
    obtain ⟨hd, hn⟩ := hE
    exact sz_sipush hx hb hd (hn.go (sp_go h))
  | lconst n =>
    obtain ⟨hd, hn⟩ := hE
    exact sz_lconst hx hb hd (hn.go (sp_go h))
  | ldc n =>
    obtain ⟨hd, hn, hc⟩ := hE
    rcases hc with ⟨rfl, hc⟩ | ⟨rfl, rfl, rfl⟩
    · exact sz_ldc hx hb ho (hts _ hc) hd (hn.go (sp_go h))
    · obtain ⟨tx, hT⟩ := hT
      exact sz_ldcS hx hb ho hT hd (hn.go (sp_go h))
  | ldc_w n =>
    obtain ⟨hd, hn, hc⟩ := hE
    exact sz_ldcw hx hb ho (hts _ hc) hd (hn.go (sp_go h))
  | ldc2_w n =>
    obtain ⟨hd, hn, hc⟩ := hE
    exact sz_ldc2 hx hb ho (hts _ hc) hd (hn.go (sp_go h))
  | iload_n n =>
    obtain ⟨hd, hn⟩ := hE
    obtain ⟨x, hL, hY⟩ := sp_ldi h
    exact sz_iload_n hx hb hL hd (hn.go hY)
  | iload n =>
    obtain ⟨hd, hn⟩ := hE
    obtain ⟨x, hL, hY⟩ := sp_ldi h
    exact sz_iload hx hb hL hd (hn.go hY)
  | lload_n n =>
    obtain ⟨hd, hn⟩ := hE
    obtain ⟨x, hL, hY⟩ := sp_ldl h
    exact sz_lload_n hx hb hL hd (hn.go hY)
  | lload n =>
    obtain ⟨hd, hn⟩ := hE
    obtain ⟨x, hL, hY⟩ := sp_ldl h
    exact sz_lload hx hb hL hd (hn.go hY)
  | aload_n n =>
    obtain ⟨hd, hn⟩ := hE
    obtain ⟨x, hL, hY⟩ := sp_lda h
    exact sz_aload_n hx hb hL hd (hn.go hY)
  | aload n =>
    obtain ⟨hd, hn⟩ := hE
    obtain ⟨x, hL, hY⟩ := sp_lda h
    exact sz_aload hx hb hL hd (hn.go hY)
  | istore_n n =>
    obtain ⟨hd, hn⟩ := hE
    obtain ⟨x, st2, rfl, hl, hY⟩ := sp_sti h
    exact sz_istore_n hx hb hl hd (hn.go hY)
  | istore n =>
    obtain ⟨hd, hn⟩ := hE
    obtain ⟨x, st2, rfl, hl, hY⟩ := sp_sti h
    exact sz_istore hx hb hl hd (hn.go hY)
  | lstore_n n =>
    obtain ⟨hd, hn⟩ := hE
    obtain ⟨x, st2, rfl, hl, hY⟩ := sp_stl h
    exact sz_lstore_n hx hb hl hd (hn.go hY)
  | lstore n =>
    obtain ⟨hd, hn⟩ := hE
    obtain ⟨x, st2, rfl, hl, hY⟩ := sp_stl h
    exact sz_lstore hx hb hl hd (hn.go hY)
  | astore_n n =>
    obtain ⟨hd, hn⟩ := hE
    obtain ⟨x, st2, rfl, hl, hY⟩ := sp_sta h
    exact sz_astore_n hx hb hl hd (hn.go hY)
  | astore n =>
    obtain ⟨hd, hn⟩ := hE
    obtain ⟨x, st2, rfl, hl, hY⟩ := sp_sta h
    exact sz_astore hx hb hl hd (hn.go hY)
  | iinc n k =>
    obtain ⟨hd, hn⟩ := hE
    obtain ⟨x, hL, hY⟩ := sp_inc h
    exact sz_iinc hx hb hL hd (hn.go hY)
  | iadd =>
    obtain ⟨hd, hn⟩ := hE
    obtain ⟨x, y, st2, rfl, hY⟩ := sp_i2 h
    exact sz_iadd hx hb hd (hn.go hY)
  | isub =>
    obtain ⟨hd, hn⟩ := hE
    obtain ⟨x, y, st2, rfl, hY⟩ := sp_i2 h
    exact sz_isub hx hb hd (hn.go hY)
  | imul =>
    obtain ⟨hd, hn⟩ := hE
    obtain ⟨x, y, st2, rfl, hY⟩ := sp_i2 h
    exact sz_imul hx hb hd (hn.go hY)
  | iand =>
    obtain ⟨hd, hn⟩ := hE
    obtain ⟨x, y, st2, rfl, hY⟩ := sp_i2 h
    exact sz_iand hx hb hd (hn.go hY)
  | ior =>
    obtain ⟨hd, hn⟩ := hE
    obtain ⟨x, y, st2, rfl, hY⟩ := sp_i2 h
    exact sz_ior hx hb hd (hn.go hY)
  | ixor =>
    obtain ⟨hd, hn⟩ := hE
    obtain ⟨x, y, st2, rfl, hY⟩ := sp_i2 h
    exact sz_ixor hx hb hd (hn.go hY)
  | ishl =>
    obtain ⟨hd, hn⟩ := hE
    obtain ⟨x, y, st2, rfl, hY⟩ := sp_i2 h
    exact sz_ishl hx hb hd (hn.go hY)
  | ishr =>
    obtain ⟨hd, hn⟩ := hE
    obtain ⟨x, y, st2, rfl, hY⟩ := sp_i2 h
    exact sz_ishr hx hb hd (hn.go hY)
  | iushr =>
    obtain ⟨hd, hn⟩ := hE
    obtain ⟨x, y, st2, rfl, hY⟩ := sp_i2 h
    exact sz_iushr hx hb hd (hn.go hY)
  | idiv =>
    obtain ⟨hd, hn⟩ := hE
    obtain ⟨x, y, st2, rfl, h0, hY⟩ := sp_i2g h
    exact sz_idiv hx hb h0 hd (hn.go hY)
  | irem =>
    obtain ⟨hd, hn⟩ := hE
    obtain ⟨x, y, st2, rfl, h0, hY⟩ := sp_i2g h
    exact sz_irem hx hb h0 hd (hn.go hY)
  | ineg =>
    obtain ⟨hd, hn⟩ := hE
    obtain ⟨x, st2, rfl, hY⟩ := sp_i1 h
    exact sz_ineg hx hb hd (hn.go hY)
  | i2l =>
    obtain ⟨hd, hn⟩ := hE
    obtain ⟨x, st2, rfl, hY⟩ := sp_i1 h
    exact sz_i2l hx hb hd (hn.go hY)
  | l2i =>
    obtain ⟨hd, hn⟩ := hE
    simp only [sm_do] at h
    split at h
    · exact sz_l2i hx hb hd (hn.go (sp_go h))
    · exact h.elim
  | ladd =>
    obtain ⟨hd, hn⟩ := hE
    obtain ⟨x, y, st2, rfl, hY⟩ := sp_l2 h
    exact sz_ladd hx hb hd (hn.go hY)
  | lsub =>
    obtain ⟨hd, hn⟩ := hE
    obtain ⟨x, y, st2, rfl, hY⟩ := sp_l2 h
    exact sz_lsub hx hb hd (hn.go hY)
  | lmul =>
    obtain ⟨hd, hn⟩ := hE
    obtain ⟨x, y, st2, rfl, hY⟩ := sp_l2 h
    exact sz_lmul hx hb hd (hn.go hY)
  | lor =>
    obtain ⟨hd, hn⟩ := hE
    obtain ⟨x, y, st2, rfl, hY⟩ := sp_l2 h
    exact sz_lor hx hb hd (hn.go hY)
  | lcmp =>
    obtain ⟨hd, hn⟩ := hE
    obtain ⟨x, y, st2, rfl, hY⟩ := sp_l2 h
    exact sz_lcmp hx hb hd (hn.go hY)
  | ldiv =>
    obtain ⟨hd, hn⟩ := hE
    obtain ⟨x, y, st2, rfl, h0, hY⟩ := sp_l2g h
    exact sz_ldiv hx hb h0 hd (hn.go hY)
  | lrem =>
    obtain ⟨hd, hn⟩ := hE
    obtain ⟨x, y, st2, rfl, h0, hY⟩ := sp_l2g h
    exact sz_lrem hx hb h0 hd (hn.go hY)
  | lshl =>
    obtain ⟨hd, hn⟩ := hE
    simp only [sm_do] at h
    split at h
    · exact sz_lshl hx hb hd (hn.go (sp_go h))
    · exact h.elim
  | pop =>
    obtain ⟨hd, hn⟩ := hE
    simp only [sm_do] at h
    split at h
    · exact sz_popi hx hb hd (hn.go (sp_go h))
    · exact sz_popa hx hb hd (hn.go (sp_go h))
    · exact h.elim
  | dup =>
    obtain ⟨hd, hn⟩ := hE
    simp only [sm_do] at h
    split at h
    · exact sz_dupi hx hb hd (hn.go (sp_go h))
    · exact sz_dupa hx hb hd (hn.go (sp_go h))
    · exact h.elim
  | dup2 =>
    obtain ⟨hd, hn⟩ := hE
    simp only [sm_do] at h
    split at h
    · exact sz_dup2 hx hb hd (hn.go (sp_go h))
    · exact h.elim
  | goto off =>
    obtain ⟨hd, e1, h1, h2⟩ := hE
    exact sz_goto hx hb h2 hd (sp_go h e1 h1)
  | ifCond k off =>
    obtain ⟨hd, hn, e1, h1, h2⟩ := hE
    obtain ⟨x, st2, rfl, hY1, hY2⟩ := sp_b1 h
    cases k with
    | eq => exact sz_if_eq hx hb h2 hd (fun z => hY1 (decide_eq_true z) e1 h1) (fun z => hn.go (hY2 (fun w => z (of_decide_eq_true w))))
    | ne => exact sz_if_ne hx hb h2 hd (fun z => hY1 (decide_eq_true z) e1 h1) (fun z => hn.go (hY2 (fun w => z (of_decide_eq_true w))))
    | lt => exact sz_if_lt hx hb h2 hd (fun z => hY1 (decide_eq_true z) e1 h1) (fun z => hn.go (hY2 (fun w => z (of_decide_eq_true w))))
    | ge => exact sz_if_ge hx hb h2 hd (fun z => hY1 (decide_eq_true z) e1 h1) (fun z => hn.go (hY2 (fun w => z (of_decide_eq_true w))))
    | gt => exact sz_if_gt hx hb h2 hd (fun z => hY1 (decide_eq_true z) e1 h1) (fun z => hn.go (hY2 (fun w => z (of_decide_eq_true w))))
    | le => exact sz_if_le hx hb h2 hd (fun z => hY1 (decide_eq_true z) e1 h1) (fun z => hn.go (hY2 (fun w => z (of_decide_eq_true w))))
  | if_icmp k off =>
    obtain ⟨hd, hn, e1, h1, h2⟩ := hE
    obtain ⟨x, y, st2, rfl, hY1, hY2⟩ := sp_b2 h
    cases k with
    | eq => exact sz_icmp_eq hx hb h2 hd (fun z => hY1 (decide_eq_true z) e1 h1) (fun z => hn.go (hY2 (fun w => z (of_decide_eq_true w))))
    | ne => exact sz_icmp_ne hx hb h2 hd (fun z => hY1 (decide_eq_true z) e1 h1) (fun z => hn.go (hY2 (fun w => z (of_decide_eq_true w))))
    | lt => exact sz_icmp_lt hx hb h2 hd (fun z => hY1 (decide_eq_true z) e1 h1) (fun z => hn.go (hY2 (fun w => z (of_decide_eq_true w))))
    | ge => exact sz_icmp_ge hx hb h2 hd (fun z => hY1 (decide_eq_true z) e1 h1) (fun z => hn.go (hY2 (fun w => z (of_decide_eq_true w))))
    | gt => exact sz_icmp_gt hx hb h2 hd (fun z => hY1 (decide_eq_true z) e1 h1) (fun z => hn.go (hY2 (fun w => z (of_decide_eq_true w))))
    | le => exact sz_icmp_le hx hb h2 hd (fun z => hY1 (decide_eq_true z) e1 h1) (fun z => hn.go (hY2 (fun w => z (of_decide_eq_true w))))
  | tableswitch d lo hi offs =>
    obtain ⟨⟨len, hd⟩, hdf, hts2, hhi⟩ := hE
    simp only [sm_do] at h
    split at h
    · rename_i x st2
      have hY := sp_go h
      have hlen : offs.size = t.length := by
        have := sm_tgs_len hts2
        simpa using this
      by_cases h1 : x.toInt < lo
      · obtain ⟨e1, g1, g2⟩ := hdf
        rw [sm_sw, if_pos h1] at hY
        exact sz_table hx hb hd (Or.inl ⟨Or.inl h1, g2⟩) (hY e1 g1)
      · by_cases h2 : hi < x.toInt
        · obtain ⟨e1, g1, g2⟩ := hdf
          rw [sm_sw, if_neg h1, List.getD_eq_getElem?_getD, List.getElem?_eq_none (by omega)] at hY
          exact sz_table hx hb hd (Or.inl ⟨Or.inr h2, g2⟩) (hY e1 g1)
        · have hlt : (x.toInt - lo).toNat < offs.size := by omega
          have ho2 : offs.toList[(x.toInt - lo).toNat]? = some offs[(x.toInt - lo).toNat] := by simp [hlt]
          obtain ⟨a2, g0, e1, g1, g2⟩ := sm_tgs_at hts2 _ _ ho2
          rw [sm_sw, if_neg h1, List.getD_eq_getElem?_getD, g0] at hY
          exact sz_table hx hb hd (Or.inr ⟨h1, h2, _, by simp [hlt], g2⟩) (hY e1 g1)
    · exact h.elim
  | lookupswitch d ps =>
    obtain ⟨⟨len, hd⟩, hdf, hts2, hord⟩ := hE
    simp only [sm_do] at h
    split at h
    · rename_i x st2
      have hY := sp_go h
      obtain ⟨e1, g1, g2⟩ := sm_sl_tg (x := x.toInt) hdf hts2
      exact sz_look hx hb hd hord g2 (hY e1 g1)
    · exact h.elim
  | getfield idx =>
    obtain ⟨hd, hn, fin, hF⟩ := hE
    have hbb : b = 0 ∨ b = 1 ∨ b = 2 ∨ b = 3 := by
      obtain ⟨-, C, T, N, -, -, -, -, -, -, -, -, -, ty, -, hk⟩ := hF
      rcases hk with ⟨h, -⟩ | ⟨h, -⟩ | ⟨h, -⟩ | ⟨h, -⟩ <;> omega
    obtain ⟨k, N, st2, v, rfl, hs0, hv, hY⟩ := sp_gf (ρ := ρ) h hbb
    refine sz_getf hx hb hts ho hK hF hs0 hd (fun w hw => ?_) hv
    have e1 : w = v ∨ True := Or.inr trivial
    have hz := hn.go hY
    intro H locs ls hR hl
    have := hz H locs ls hR hl
    rw [List.map_cons, hv, ← hw, ← List.map_cons] at this
    exact this
  | putfield idx =>
    obtain ⟨hd, hn, hF⟩ := hE
    obtain ⟨k, N, st2, v, M', rfl, hs0, hw, hY⟩ := sp_pf h
    rcases hw with ⟨x, rfl, hbx, rfl⟩ | ⟨x, rfl, rfl, rfl⟩ | ⟨q, rfl, rfl, rfl⟩
    · refine sz_putf hx hb hts ho hK hF hs0 hd (M' := (va_up M.1 k (upd (M.1 k) a x), M.2)) ?_ ?_ ?_ (fun j hj => sm_up_ne hj) (fun _ _ => rfl) (fun _ _ => rfl) (hn.go hY)
      · rcases hbx with rfl | ⟨rfl, -⟩ <;> simp [sm_f1, sm_v, va_up, upd]
      · intro ty hk
        rcases hk with ⟨-, rfl⟩ | ⟨h1, rfl⟩ | ⟨h1, -⟩ | ⟨h1, -⟩
        · exact ⟨rfl, rfl⟩
        · rcases hbx with h2 | ⟨-, h2⟩
          · omega
          · rcases h2 with rfl | rfl <;> exact ⟨rfl, rfl⟩
        · omega
        · omega
      · intro j kd hj
        unfold sm_f1
        split <;> simp [va_up, upd, hj]
    · refine sz_putf hx hb hts ho hK hF hs0 hd (M' := (M.1, va_up M.2.1 k (vp_updL (M.2.1 k) a x), M.2.2)) ?_ ?_ ?_ (fun _ _ => rfl) (fun j hj => sm_up_ne hj) (fun _ _ => rfl) (hn.go hY)
      · simp [sm_f1, sm_v, va_up, vp_updL]
      · intro ty hk
        rcases hk with ⟨h1, -⟩ | ⟨h1, -⟩ | ⟨-, rfl⟩ | ⟨h1, -⟩
        · omega
        · omega
        · exact ⟨rfl, rfl⟩
        · omega
      · intro j kd hj
        unfold sm_f1
        split <;> simp [va_up, vp_updL, hj]
    · refine sz_putf hx hb hts ho hK hF hs0 hd (M' := (M.1, M.2.1, va_up M.2.2 k (va_up (M.2.2 k) a q))) ?_ ?_ ?_ (fun _ _ => rfl) (fun _ _ => rfl) (fun j hj => sm_up_ne hj) (hn.go hY)
      · simp [sm_f1, sm_v, va_up]
      · intro ty hk
        rcases hk with ⟨h1, -⟩ | ⟨h1, -⟩ | ⟨h1, -⟩ | ⟨-, ⟨n, rfl⟩ | ⟨t, rfl⟩⟩
        · omega
        · omega
        · omega
        · exact ⟨rfl, rfl⟩
        · exact ⟨rfl, rfl⟩
      · intro j kd hj
        unfold sm_f1
        split <;> simp [va_up, hj]
  | iaload =>
    obtain ⟨hd, hn⟩ := hE
    obtain ⟨i, k, st2, rfl, ⟨rfl, hi, hY⟩ | ⟨N, hs0, hi, hY⟩⟩ := sp_ald8 h
    · exact sz_sald hx hb hX hbl hbA hi hd (hn.go hY)
    · exact sz_iald hx hb hK hs0 hi hd (hn.go hY)
  | baload =>
    obtain ⟨hd, hn⟩ := hE
    obtain ⟨i, k, st2, N, rfl, hs0, hi, hY⟩ := sp_ald9 h
    exact sz_zald hx hb hK hs0 hi hd (hn.go hY)
  | laload =>
    obtain ⟨hd, hn⟩ := hE
    obtain ⟨i, k, st2, N, rfl, hs0, hi, hY⟩ := sp_ald10 h
    exact sz_lald hx hb hK hs0 hi hd (hn.go hY)
  | iastore =>
    obtain ⟨hd, hn⟩ := hE
    obtain ⟨x, i, k, st2, N, rfl, hs0, hi, hY⟩ := sp_ast8 h
    exact sz_iast hx hb hK hs0 hi hd (hn.go hY)
  | bastore =>
    obtain ⟨hd, hn⟩ := hE
    obtain ⟨x, i, k, st2, N, rfl, hs0, hi, hY⟩ := sp_ast9 h
    exact sz_zast hx hb hK hs0 hi hd (hn.go hY)
  | lastore =>
    obtain ⟨hd, hn⟩ := hE
    obtain ⟨x, i, k, st2, N, rfl, hs0, hi, hY⟩ := sp_ast10 h
    exact sz_last hx hb hK hs0 hi hd (hn.go hY)
  | arraylength =>
    obtain ⟨hd, hn⟩ := hE
    obtain ⟨k, st2, rfl, ⟨rfl, hY⟩ | ⟨ci, N, h8, hs0, hY⟩⟩ := sp_len h
    · exact sz_slen hx hb hX hbl hbA hd (hn.go hY)
    · have h11 := hsh _ _ _ hs0
      obtain ⟨t2, rfl⟩ : ∃ t2, ci = 8 + t2 := ⟨ci - 8, by omega⟩
      exact sz_alen hx hb hK hs0 (by omega) hd (hn.go hY)
  | invokestatic n =>
    cases hP
  | invokevirtual n =>
    cases hP
  | new n =>
    cases hP
  | ireturn =>
    cases hP
  | lreturn =>
    cases hP
  | return_ =>
    cases hP
  | _ => exact (show False from h).elim
end SC
