/-! ===== ends and throws over the machine ===== -/
theorem sm_nar (x : Int32) : narrow .boolean (.int x) = .int (vp_nar .boolean x) := by
  simp [vp_nar, narrow]
section SEND
variable {p : Program} {l : Launch} {e : Env} {R : Room} {s : State} {m : MethodId} {args : Array Value} {below : List Frame} {meth : Method} {c : Code} {D : va_G} {sh : List (Nat × Nat)} {cA : Nat → ClassId} {ρ : Nat → Nat} {nL : Nat}
variable {cc : ByteArray} {L : sm_L} {st : List Value} {nc ns : Nat} {M : sm_M} {H : Heap} {locs : List Loc} {cells slots : Nat}
theorem sm_zret {Qc : Array Value → State → Outcome → State → Prop} {free : Addr → Prop} {v : Int32} (hexec : p.tables.exec = Jvm.exec) (hb : c.code = cc) (hr : meth.sig.returnType = some .boolean)
    (hq : ∀ t : State, t.heap = H → s.WarmedH t.vm → Qc args s (.returned (some (.int (vp_nar .boolean v)))) t) (hf : ∀ q ∈ locs, free q.base)
    {pc : Nat} {ls : Array Slot} (hdg : decode cc pc = .ok (.ireturn, 1)) (hlocks : meth.locks = false) : W p l e R s m args below meth c H locs cells slots (MQ below Qc args s cells slots free) (F0 m pc ls [.int v]) := by
  intro T hT X
  obtain ⟨fs, hret, hrun, hended, hW, hframe⟩ := X.leave (v := some (.int (vp_nar .boolean v))) (fun h => by rw [hr] at h; cases h)
  have hmeth' : T.vm.method? m = some meth := X.method'
  refine ⟨T.setFrames fs, ?_, .returned (some (.int (vp_nar .boolean v))), hrun, hended, hq _ hT hW, locs, ⟨⟨_, rfl⟩, hW, hframe⟩, hf⟩
  jvm_step X.here [X.here.top, hexec, hb, hdg, hmeth', hr, sm_nar]
  (try refine ⟨rfl, ?_⟩); (try refine ⟨rfl, ?_⟩)
  first | (intro acts; rw [hret _ acts rfl rfl rfl]) | rw [hret _ _ rfl rfl rfl]
  exact Steps.refl _
/-- the end of a method's own frame -/
def sm_rok (cc : ByteArray) (ret : Option FieldType) (i : Instr) (bp a : Nat) : Prop := decode cc bp = .ok (i, 1) ∧ ((i = .ireturn ∧ ((a = 1 ∧ ret = some .boolean) ∨ (a ≠ 1 ∧ ret = some .int))) ∨ (i = .lreturn ∧ ret = some .long) ∨ (i = .return_ ∧ ret = none))
theorem sm_closeR {X : Nat × (Nat → Int32)} {B : Nat × Nat} {call : sm_K} {hs : List (Nat × Nat × Nat × Nat × Nat)} {pc0 pc : Nat} {Q : sm_Q} {Y : sm_F → sm_M → Prop} {ret : Option FieldType} {i : Instr} {bp a b cN : Nat} {t : List Nat}
    (hx : p.tables.exec = Jvm.exec) (hb : c.code = cc) (hr : meth.sig.returnType = ret) (hlocks : meth.locks = false) (hE : sm_rok cc ret i bp a)
    (h : sm_post call hs pc0 Q Y M (sm_do sh X B (i, bp, a, b, cN, t) pc L st nc ns M)) :
    sm_Z p l e R s m args below meth c (vx_MQ below (sm_Qc sh D cA ρ Q (sm_A sh ρ s.heap.size)) (sm_XC sh D cA ρ Q (sm_A sh ρ s.heap.size)) args s B.1 B.2 (sm_A sh ρ s.heap.size)) D (sm_A sh ρ s.heap.size) sh cA ρ nL bp L st nc ns M := by
  obtain ⟨hd, hE⟩ := hE
  intro H locs ls hRl hl
  rcases hE with ⟨rfl, hE⟩ | ⟨rfl, hE⟩ | ⟨rfl, hE⟩
  · simp only [sm_do, sm_rti] at h
    split at h
    · rename_i x
      simp only [cond_eq_ite] at h
      split at h
      · rename_i hc
        simp only [Bool.and_eq_true] at hc
        refine W.widen (k := B.1) (n := B.2) (Nat.le_of_ble_eq_true hc.1) (Nat.le_of_ble_eq_true hc.2) (vx_ret ?_)
        rcases hE with ⟨rfl, hE⟩ | ⟨hne, hE⟩
        · exact sm_zret hx hb (hr.trans hE) (fun t ht hW => ⟨_, M, h.2, rfl, by rw [ht]; exact hRl.1, hRl.2.2.F ht⟩) (fun q hq => hRl.2.2.2.2 q hq) hd hlocks
        · have h2 := h.2
          rw [if_neg (fun z => hne (Nat.eq_of_beq_eq_true z))] at h2
          exact W.iret hx hb (hr.trans hE) (fun t ht hW => ⟨_, M, h2, rfl, by rw [ht]; exact hRl.1, hRl.2.2.F ht⟩) (fun q hq => hRl.2.2.2.2 q hq) hd hlocks
      · exact h.elim
    · exact h.elim
  · simp only [sm_do, sm_rtl] at h
    split at h
    · rename_i x
      simp only [cond_eq_ite] at h
      split at h
      · rename_i hc
        simp only [Bool.and_eq_true] at hc
        refine W.widen (k := B.1) (n := B.2) (Nat.le_of_ble_eq_true hc.1) (Nat.le_of_ble_eq_true hc.2) (vx_ret ?_)
        exact W.lret hx hb (hr.trans hE) (fun t ht hW => ⟨_, M, h.2, rfl, by rw [ht]; exact hRl.1, hRl.2.2.F ht⟩) (fun q hq => hRl.2.2.2.2 q hq) hd hlocks
      · exact h.elim
    · exact h.elim
  · simp only [sm_do, sm_rtv] at h
    split at h
    · simp only [cond_eq_ite] at h
      split at h
      · rename_i hc
        simp only [Bool.and_eq_true] at hc
        refine W.widen (k := B.1) (n := B.2) (Nat.le_of_ble_eq_true hc.1) (Nat.le_of_ble_eq_true hc.2) (vx_ret ?_)
        exact W.vret hx hb (hr.trans hE) (fun t ht hW => ⟨none, M, h.2, rfl, by rw [ht]; exact hRl.1, hRl.2.2.F ht⟩) (fun q hq => hRl.2.2.2.2 q hq) hd hlocks
      · exact h.elim
    · exact h.elim
/-- what is known of a throw -/
def sm_tok (Ts : List Cond) (own : String) (cc : ByteArray) (bp ik a : Nat) : Prop := ∃ (is ic ix : Nat) (rx : ByteArray) (text Y0 : String) (names : List String),
  a ≤ 1 ∧ sm_rxok ix rx ∧ Bundle.fit (sm_xn a) = true ∧ Bundle.fit Y0 = true ∧ (∀ n ∈ names, Bundle.fit n = true) ∧ names.length ≤ 10 ∧ Cond.classLink own ik (sm_xn a) ∈ Ts ∧ Cond.initialized (sm_xn a) ∈ Ts ∧ (own, is, text) ∈ sm_ss ∧
  (∀ w ∈ sm_oatS own ic (sm_xn a) Y0 ix rx names, w ∈ Ts ∨ (∃ x ∈ sm_ds, w = .declares x) ∨ (∃ q ∈ sm_cs, w = .castable q.1 q.2)) ∧ (∀ w ∈ Cond.classLink own ik (sm_xn a) :: Cond.initialized (sm_xn a) :: sm_oatS own ic (sm_xn a) Y0 ix rx names, vx_ot w = true) ∧
  decode cc bp = .ok (.new ik, 3) ∧ decode cc (bp + 3) = .ok (.dup, 1) ∧ ((decode cc (bp + 4) = .ok (.ldc is, 2) ∧ decode cc (bp + 6) = .ok (.invokespecial ic, 3) ∧ decode cc (bp + 9) = .ok (.athrow, 1)) ∨ (decode cc (bp + 4) = .ok (.ldc_w is, 3) ∧ decode cc (bp + 7) = .ok (.invokespecial ic, 3) ∧ decode cc (bp + 10) = .ok (.athrow, 1)))
theorem sm_closeT {own : String} {Ts : List Cond} {X : Nat × (Nat → Int32)} {B : Nat × Nat} {call : sm_K} {hs : List (Nat × Nat × Nat × Nat × Nat)} {pc0 pc : Nat} {Q : sm_Q} {Y : sm_F → sm_M → Prop} {ik bp a b cN : Nat} {t : List Nat}
    (hx : p.tables.exec = Jvm.exec) (hb : c.code = cc) (hml : c.maxLocals = nL) (hl : l.stackTraces = false) (hts : ∀ w ∈ Ts, w.before args s = true) (ho : s.vm.findClass own = some m.cls) (hev : sm_ev ρ X (sm_A sh ρ s.heap.size) s s.heap) (hR : 60 ≤ R.frames ∧ 1000 ≤ R.locals) (hRc : R.cells = B.1 ∧ R.slots = B.2) (hout : ∀ x ∈ c.exceptionTable.toList, False) (hlocks : meth.locks = false)
    (hE : sm_tok Ts own cc bp ik a) (h : sm_post call hs pc0 Q Y M (sm_do sh X B (.new ik, bp, a, b, cN, t) pc L st nc ns M)) :
    sm_Z p l e R s m args below meth c (vx_MQ below (sm_Qc sh D cA ρ Q (sm_A sh ρ s.heap.size)) (sm_XC sh D cA ρ Q (sm_A sh ρ s.heap.size)) args s B.1 B.2 (sm_A sh ρ s.heap.size)) D (sm_A sh ρ s.heap.size) sh cA ρ nL bp L st nc ns M := by
  obtain ⟨is, ic, ix, rx, text, Y0, names, fa, frx, f1, fY, f2, f3, f4, f5, f6, f7, f8, d0, d3, dd⟩ := hE
  simp only [sm_do, cond_eq_ite] at h
  split at h
  · rename_i hc
    simp only [Bool.and_eq_true] at hc
    obtain ⟨⟨c1, c2⟩, c3⟩ := hc
    have c1 := Nat.le_of_ble_eq_true c1
    have c2 := Nat.le_of_ble_eq_true c2
    have c3 := Nat.le_of_ble_eq_true c3
    intro H locs ls hRl hl2
    obtain ⟨sa, hstr⟩ := hev.2.2.2.2.2.1.1 _ f6
    have hat : ∀ w ∈ sm_oatS own ic (sm_xn a) Y0 ix rx names, w.before args s = true := by
      intro w hw
      rcases f7 w hw with h1 | ⟨x, hx, rfl⟩ | ⟨q, hq, rfl⟩
      · exact hts w h1
      · exact va_Nw.use rfl (hev.2.2.2.2.2.1.2.1 x hx)
      · exact va_Nw.use rfl (hev.2.2.2.2.2.1.2.2.1 q hq)
    have hXC : ∀ t : State, s.vm.Alike t.vm → H.size ≤ t.heap.size → (∀ q : Nat, q < H.size → t.heap[q]? = H[q]?) → sm_XC sh D cA ρ Q (sm_A sh ρ s.heap.size) (sm_xn a) s t := by
      intro t _ hz hk
      refine ⟨a, M, fa, h.2, rfl, hRl.1.kept (fun k q hq => hk _ (hRl.1 k q hq).lt), Nat.le_trans hRl.2.2.1 hz, fun q h1 h2 => ?_⟩
      rw [hk q (Nat.lt_of_lt_of_le h1 hRl.2.2.1)]
      exact hRl.2.2.2.1 q h1 h2
    have hw : ((st.map (sm_v ρ)).map fun v => v.category).sum + (13 * (names.length + 2) + 43) ≤ R.locals := by
      rw [sm_cat_map]
      omega
    rcases dd with ⟨d4, d6, d9⟩ | ⟨d4, d6, d9⟩
    · exact sm_throwS hx hb hl (A := sm_A sh ρ s.heap.size) frx ho f1 fY f2 (hts _ f4) (hts _ f5) hstr hat f8 hev.2.2.2.1 hev.2.2.2.2.1 hRl.2.2 (hl2.1.trans hml.symm) d0 d3 d4 d6 d9 (fun x hx => (hout x hx).elim) (by omega) hw (by rw [hRc.1]; exact c1) (by rw [hRc.2]; exact c2) hlocks hXC (fun z hz => hRl.2.2.2.2 z hz) c1 c2
    · exact sm_throwSW hx hb hl (A := sm_A sh ρ s.heap.size) frx ho f1 fY f2 (hts _ f4) (hts _ f5) hstr hat f8 hev.2.2.2.1 hev.2.2.2.2.1 hRl.2.2 (hl2.1.trans hml.symm) d0 d3 d4 d6 d9 (fun x hx => (hout x hx).elim) (by omega) hw (by rw [hRc.1]; exact c1) (by rw [hRc.2]; exact c2) hlocks hXC (fun z hz => hRl.2.2.2.2 z hz) c1 c2
  · exact h.elim
end SEND
