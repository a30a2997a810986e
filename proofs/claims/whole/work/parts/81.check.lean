/-! ===== the check of every entry of the code ===== -/
/-- methods: virtual, operands, kind -/
def sm_YT : List (Bool × Nat × Nat) := [(false, 3, 0), (false, 3, 0), (false, 4, 0), (false, 3, 0), (false, 3, 0), (false, 2, 0), (false, 3, 0), (false, 2, 0), (false, 3, 0), (false, 3, 0), (false, 3, 0), (false, 2, 0), (false, 3, 0), (false, 4, 0), (false, 3, 0), (false, 3, 0), (false, 5, 0), (false, 3, 0), (true, 2, 10), (true, 2, 10), (true, 1, 10), (true, 1, 10), (true, 4, 10), (false, 2, 0), (false, 2, 0), (false, 2, 0), (true, 3, 11), (true, 1, 11), (true, 2, 11), (true, 1, 11), (true, 2, 11), (true, 1, 11), (true, 1, 11), (true, 1, 11), (true, 2, 11), (true, 2, 11), (true, 3, 11), (true, 2, 11), (true, 2, 11), (true, 2, 11), (true, 2, 11), (true, 3, 11), (true, 3, 11), (true, 3, 11), (true, 3, 11), (true, 3, 11), (true, 3, 11), (true, 3, 11), (true, 3, 11), (true, 1, 12), (true, 2, 12), (true, 2, 12), (true, 2, 12), (true, 2, 12), (true, 2, 12), (true, 2, 12), (false, 3, 0), (true, 2, 13), (true, 2, 13), (true, 3, 13), (true, 3, 13), (true, 2, 13), (true, 2, 13), (true, 2, 13), (true, 2, 13), (true, 2, 13), (true, 2, 14), (true, 2, 14), (true, 2, 14), (true, 2, 14), (true, 3, 14), (true, 2, 14), (false, 1, 0), (false, 1, 0), (true, 2, 14), (true, 3, 14), (true, 3, 14), (true, 3, 14), (true, 4, 14), (true, 1, 15), (true, 1, 15), (true, 3, 15), (true, 2, 15), (true, 2, 15), (true, 2, 15), (true, 4, 15), (true, 2, 15), (true, 2, 15), (true, 3, 15), (true, 2, 15), (true, 3, 15), (true, 3, 15), (true, 2, 15), (false, 3, 0), (false, 3, 0), (false, 4, 0), (false, 1, 0), (false, 3, 0), (false, 2, 0), (false, 5, 0), (false, 4, 0), (false, 2, 0), (false, 4, 0), (true, 6, 16), (true, 2, 16), (true, 1, 16), (true, 2, 16), (true, 3, 16), (true, 4, 16), (true, 3, 16), (true, 2, 16), (true, 3, 16), (true, 2, 16), (true, 2, 16), (true, 2, 16), (true, 2, 16), (true, 2, 16), (true, 3, 16), (true, 2, 16), (true, 1, 16), (true, 1, 16), (true, 1, 16), (true, 2, 16), (true, 2, 16), (true, 1, 16), (true, 2, 16), (true, 1, 16), (true, 1, 16), (true, 1, 16), (true, 3, 16), (true, 2, 16), (true, 2, 16), (true, 3, 16), (true, 3, 16), (true, 4, 16), (true, 3, 16), (true, 3, 16), (true, 5, 16), (true, 2, 16), (true, 3, 16), (true, 1, 16), (true, 2, 16), (true, 2, 16), (true, 1, 16), (true, 1, 16), (true, 2, 16), (true, 3, 16), (true, 2, 16), (true, 2, 16), (true, 3, 16), (true, 4, 16), (true, 2, 16), (true, 2, 16), (true, 2, 16), (true, 3, 16), (true, 2, 16), (true, 2, 16), (true, 1, 17), (true, 3, 17), (false, 3, 0), (true, 3, 17), (false, 1, 0), (true, 6, 17), (true, 2, 17), (true, 2, 17), (false, 1, 0), (false, 1, 0), (true, 1, 17), (false, 7, 0), (false, 1, 0), (true, 1, 17), (true, 2, 17), (true, 1, 17), (true, 2, 17), (true, 2, 17), (true, 3, 17), (true, 2, 17), (false, 1, 0), (false, 1, 0), (true, 2, 17), (true, 2, 17), (true, 1, 17), (true, 1, 17), (true, 2, 17), (true, 1, 17), (true, 1, 17), (true, 3, 17), (true, 2, 17), (true, 2, 17), (true, 2, 17), (true, 1, 17), (true, 2, 17), (true, 1, 17), (true, 1, 17), (true, 2, 17), (true, 1, 17), (true, 3, 17), (true, 2, 17), (true, 4, 17), (true, 4, 17), (true, 2, 17), (true, 4, 17), (true, 2, 17), (true, 2, 17), (true, 2, 17), (true, 2, 17), (true, 3, 17), (true, 3, 17), (true, 2, 17), (true, 4, 17), (true, 3, 17), (false, 3, 0), (true, 2, 17), (true, 3, 17), (true, 4, 17), (true, 3, 17), (true, 2, 17), (true, 2, 17), (true, 4, 17), (true, 2, 17), (true, 2, 17), (true, 2, 17), (true, 3, 17), (true, 4, 17), (true, 2, 17), (true, 2, 17), (true, 2, 17), (true, 1, 17), (true, 2, 17), (true, 1, 17), (true, 1, 17), (true, 2, 17), (true, 2, 17), (true, 1, 17), (true, 1, 17), (true, 3, 17), (true, 3, 17), (true, 2, 17), (true, 2, 17), (true, 3, 17), (true, 2, 17), (true, 3, 17), (true, 3, 17), (true, 3, 17), (true, 1, 17), (true, 2, 17), (true, 2, 17), (true, 2, 17), (true, 3, 17), (true, 2, 17), (true, 2, 17), (true, 2, 17), (false, 3, 0), (true, 4, 17), (true, 2, 17), (true, 3, 17), (true, 3, 17), (true, 3, 17), (true, 5, 17), (true, 1, 17), (true, 3, 17), (true, 2, 17), (true, 2, 17), (true, 3, 17), (true, 2, 17), (true, 4, 17), (true, 1, 17), (true, 1, 17), (false, 1, 0), (false, 2, 0), (false, 2, 0), (false, 3, 0), (false, 3, 0), (false, 4, 0), (false, 5, 0), (false, 4, 0), (false, 3, 0), (false, 3, 0), (false, 3, 0), (false, 4, 0), (false, 3, 0), (false, 3, 0), (false, 3, 0), (false, 5, 0), (false, 4, 0), (false, 4, 0), (false, 6, 0), (false, 3, 0), (false, 4, 0), (false, 5, 0), (false, 4, 0), (false, 3, 0), (false, 3, 0), (false, 3, 0), (false, 4, 0), (false, 4, 0), (false, 4, 0), (false, 3, 0), (false, 3, 0), (false, 3, 0), (false, 4, 0), (false, 3, 0), (false, 3, 0), (false, 3, 0), (false, 999, 999)]
/-- of a method -/
noncomputable def sm_yB (y : Nat) : Bool := match sm_YT[y]?, sm_P[y]?, sm_N[y]?, sm_NW[y]? with
    | some (virt, b, c), some me, some (nm, _, _, hh), some (_, w1, w2, w3) => Nat.ble me.2.2.2 41 && sm_wd w1 (.initialized nm.cls) && decide (nm.cls ≠ "java/lang/invoke/MethodHandle") && decide (nm.cls ≠ "java/lang/invoke/VarHandle") &&
      (bif virt then (match hh with | [] => true | _ => false) && Nat.ble 10 c && Nat.blt (c - 10) 8 && (match sm_cls[c - 10]? with | some (C, _, _) => decide (C = nm.cls) | none => false) && sm_wd w2 (.instanceMethod nm) && sm_wd w3 (.selects nm.cls nm nm) && decide ((parseMethodDescriptor nm.desc).map (fun d => d.parameters.length + 1) = some b)
       else Nat.beq c 0 && sm_wd w2 (.static nm) && decide ((parseMethodDescriptor nm.desc).map (fun d => d.parameters.length) = some b))
    | _, _, _, _ => false
/-- of a call's row -/
noncomputable def sm_ikB (r : Nat × Nat × Nat × Nat × Nat × Bool × Nat) : Bool := match r with
  | (own, idx, y, b, c, virt, w) => match sm_YT[y]?, sm_N[y]? with
    | some (virt', b', c'), some (nm, _, _, _) => (virt' == virt) && Nat.beq b' b && Nat.beq c' c && sm_wd w (.methodLink (sm_OW.getD own "") idx nm) && Nat.blt y 304
    | _, _ => false
theorem sm_ik_ok {own idx y b c w mc ms : Nat} {virt : Bool} {r : List Nat} {me : sm_Me} (hme : sm_P[y]? = some me) (hmc : mc = me.2.1.1) (hms : ms = me.2.1.2) (hcw : ∀ (nm : MethodName) (bytes : ByteArray) (ret : Option FieldType) (hh : List (Nat × Nat × Nat × Nat)), sm_N[y]? = some (nm, bytes, ret, hh) → sm_cw nm bytes me.2.2.2 ret hh ∈ sm_Ts)
    (hy : sm_yB y = true) (h : sm_ikB (own, idx, y, b, c, virt, w) = true) : sm_iok sm_Ts sm_P sm_N (sm_OW.getD own "") idx y b c (mc :: ms :: r) virt := by
  unfold sm_ikB at h
  unfold sm_yB at hy
  dsimp only at h
  split at hy
  · rename_i virt' b' c' me' nm bytes ret hh w0 w1 w2 w3 e0 e1 e2 e3
    cases hme.symm.trans e1
    rw [e0, e2] at h
    simp only [Bool.and_eq_true] at h
    obtain ⟨⟨⟨⟨k1, k2⟩, k3⟩, k4⟩, -⟩ := h
    have e4 : virt' = virt := by simpa using k1
    subst e4
    cases Nat.eq_of_beq_eq_true k2
    cases Nat.eq_of_beq_eq_true k3
    simp only [Bool.and_eq_true] at hy
    obtain ⟨⟨⟨⟨h3, h5⟩, h6⟩, h7⟩, h9⟩ := hy
    refine ⟨me, nm, bytes, ret, hh, hme, e2, hmc, hms, Nat.le_of_ble_eq_true h3, sm_wd_in k4, sm_wd_in h5, ⟨of_decide_eq_true h6, of_decide_eq_true h7⟩, hcw _ _ _ _ e2, ?_⟩
    cases virt' with
    | false =>
      simp only [cond_false, Bool.and_eq_true] at h9
      exact Or.inl ⟨rfl, Nat.eq_of_beq_eq_true h9.1.1, sm_wd_in h9.1.2, of_decide_eq_true h9.2⟩
    | true =>
      simp only [cond_true, Bool.and_eq_true] at h9
      obtain ⟨⟨⟨⟨⟨⟨k1, k2⟩, k3⟩, k4⟩, k5⟩, k6⟩, k7⟩ := h9
      refine Or.inr ⟨rfl, ?_, ?_, sm_wd_in k5, sm_wd_in k6, of_decide_eq_true k7⟩
      · cases hh with
        | nil => rfl
        | cons a b => cases k1
      · have hc : c = (c - 10) + 10 := by have := Nat.le_of_ble_eq_true k2; omega
        cases hcl : sm_cls[c - 10]? with
        | none => rw [hcl] at k4; cases k4
        | some q =>
          obtain ⟨C, T, n⟩ := q
          rw [hcl] at k4
          have e := of_decide_eq_true k4
          exact ⟨c - 10, T, n, hc, sm_blt k3, by rw [hcl, ← e]⟩
  · cases hy
/-- of a throw's row; the words that all throws share -/
def sm_xnm : List String := ["java/lang/Exception"]
def sm_xY : Nat → String
  | 0 => "java/lang/RuntimeException"
  | _ => "java/lang/RuntimeException"
def sm_xix : Nat → Nat
  | 0 => 7
  | _ => 13
def sm_xrx : Nat → ByteArray
  | 0 => Bundle.six
  | _ => prog_28_method_4_code
theorem sm_xrok : ∀ a, sm_rxok (sm_xix a) (sm_xrx a)
  | 0 => ⟨Bundle.six_0, Bundle.six_1, Bundle.six_2, Bundle.six_5⟩
  | n + 1 => by
    show sm_rxok 13 prog_28_method_4_code
    unfold sm_rxok
    decide +kernel
def sm_xcw (a : Nat) (X : String) : List Cond := Bundle.throwableAtoms ++ Bundle.throwableSAtoms ++ (Bundle.passSAtoms X (sm_xY a) (sm_xix a) (sm_xrx a) ++ Bundle.chainSAtoms (sm_xY a) sm_xnm) ++
  [.instantiable X 6, .castable X X, .selects X Bundle.tFill0 Bundle.tFill0, .selects X Bundle.tFill Bundle.tFill,
   .lays X Bundle.tN "cause" "Ljava/lang/Throwable;", .lays X Bundle.tN "stackTrace" Bundle.steD, .lays X Bundle.tN "suppressedExceptions" Bundle.listD, .lays X Bundle.tN "detailMessage" "Ljava/lang/String;",
   .isRef (.static Bundle.tN "UNASSIGNED_STACK" Bundle.steD), .isRef (.static Bundle.tN "SUPPRESSED_SENTINEL" Bundle.listD),
   .fieldLink Bundle.tN 198 Bundle.tN "backtrace" "Ljava/lang/Object;", .lays Bundle.tN Bundle.tN "backtrace" "Ljava/lang/Object;", .lays X Bundle.tN "backtrace" "Ljava/lang/Object;"]
def sm_okw (w : Cond) : Bool := (goodWord w && decide (w ∈ lw_tbl)) || sm_ds.any (fun x => decide (w = .declares x)) || sm_cs.any (fun q => decide (w = .castable q.1 q.2))
theorem sm_okw_of {w : Cond} (h : sm_okw w = true) : w ∈ sm_Ts ∨ (∃ x ∈ sm_ds, w = .declares x) ∨ (∃ q ∈ sm_cs, w = .castable q.1 q.2) := by
  simp only [sm_okw, Bool.or_eq_true, Bool.and_eq_true, List.any_eq_true, decide_eq_true_eq] at h
  rcases h with (⟨h1, h2⟩ | ⟨x, h1, h2⟩) | ⟨q, h1, h2⟩
  · exact Or.inl (List.mem_filter.mpr ⟨h2, h1⟩)
  · exact Or.inr (Or.inl ⟨x, h1, h2⟩)
  · exact Or.inr (Or.inr ⟨q, h1, h2⟩)
set_option maxRecDepth 100000 in
theorem sm_x0 : ((sm_xcw 0 (sm_xn 0)).filter vx_no).all sm_okw = true := by decide +kernel
set_option maxRecDepth 100000 in
theorem sm_x1 : ((sm_xcw 1 (sm_xn 1)).filter vx_no).all sm_okw = true := by decide +kernel
theorem sm_xw_ok {a : Nat} (ha : a ≤ 1) {own : String} {ic : Nat} (hl : Cond.methodLink own ic (Bundle.initS (sm_xn a)) ∈ sm_Ts) : ∀ w ∈ sm_oatS own ic (sm_xn a) (sm_xY a) (sm_xix a) (sm_xrx a) sm_xnm, w ∈ sm_Ts ∨ (∃ x ∈ sm_ds, w = .declares x) ∨ (∃ q ∈ sm_cs, w = .castable q.1 q.2) := by
  intro w hw
  obtain ⟨h1, h2⟩ := List.mem_filter.mp hw
  have hc : ((sm_xcw a (sm_xn a)).filter vx_no).all sm_okw = true := by
    rcases (show a = 0 ∨ a = 1 by omega) with rfl | rfl
    · exact sm_x0
    · exact sm_x1
  by_cases hwl : w = Cond.methodLink own ic (Bundle.initS (sm_xn a))
  · rw [hwl]; exact Or.inl hl
  · refine sm_okw_of (List.all_eq_true.mp hc w (List.mem_filter.mpr ⟨?_, h2⟩))
    unfold sm_oat at h1
    unfold sm_xcw
    rcases List.mem_append.mp h1 with h1 | h1
    · exact List.mem_append_left _ h1
    · rcases List.mem_cons.mp h1 with h1 | h1
      · exact absurd h1 hwl
      · exact List.mem_append_right _ h1
def sm_dk (cc : ByteArray) (bp : Nat) (i : Instr) (n : Nat) : Bool := match decode cc bp with
  | .ok (j, k) => decide (j = i) && Nat.beq k n
  | .error _ => false
theorem sm_dk_of {cc : ByteArray} {bp : Nat} {i : Instr} {n : Nat} (h : sm_dk cc bp i n = true) : decode cc bp = .ok (i, n) := by
  unfold sm_dk at h
  split at h
  · rename_i j k e
    simp only [Bool.and_eq_true] at h
    rw [e, of_decide_eq_true h.1, Nat.eq_of_beq_eq_true h.2]
  · cases h
def sm_tkB (own : Nat) (cc : ByteArray) (bp ik a : Nat) (r : Nat × Nat × Nat × Nat × Nat × Bool × Nat × Nat × Nat) : Bool := match r with
  | (own', ik', is, ic, a', wide, w1, w2, si) => Nat.beq own own' && Nat.beq ik ik' && Nat.beq a a' && Nat.ble a 1 && sm_wd w1 (.classLink (sm_OW.getD own "") ik (sm_xn a)) && sm_wd w2 (.methodLink (sm_OW.getD own "") ic (Bundle.initS (sm_xn a))) && sm_wd (sm_XW.getD a 0) (.initialized (sm_xn a)) &&
    (match sm_ss[si]? with | some (o, k, _) => decide (o = sm_OW.getD own "") && Nat.beq k is | none => false) && (Cond.classLink (sm_OW.getD own "") ik (sm_xn a) :: Cond.initialized (sm_xn a) :: sm_oatS (sm_OW.getD own "") ic (sm_xn a) (sm_xY a) (sm_xix a) (sm_xrx a) sm_xnm).all vx_ot &&
    sm_dk cc bp (.new ik) 3 && sm_dk cc (bp + 3) .dup 1 && (bif wide then sm_dk cc (bp + 4) (.ldc_w is) 3 && sm_dk cc (bp + 7) (.invokespecial ic) 3 && sm_dk cc (bp + 10) .athrow 1 else sm_dk cc (bp + 4) (.ldc is) 2 && sm_dk cc (bp + 6) (.invokespecial ic) 3 && sm_dk cc (bp + 9) .athrow 1)
theorem sm_xfit : Bundle.fit (sm_xn 0) = true ∧ Bundle.fit (sm_xn 1) = true ∧ (∀ n ∈ sm_xnm, Bundle.fit n = true) ∧ (∀ a, Bundle.fit (sm_xY a) = true) := ⟨by decide +kernel, by decide +kernel, by decide +kernel, fun a => by cases a with | zero => decide +kernel | succ n => (show Bundle.fit "java/lang/RuntimeException" = true; decide +kernel)⟩
theorem sm_tk_ok {own : Nat} {cc : ByteArray} {bp ik a : Nat} {r : Nat × Nat × Nat × Nat × Nat × Bool × Nat × Nat × Nat} (h : sm_tkB own cc bp ik a r = true) : sm_tok sm_Ts (sm_OW.getD own "") cc bp ik a := by
  obtain ⟨own', ik', is, ic, a', wide, w1, w2, si⟩ := r
  simp only [sm_tkB, Bool.and_eq_true] at h
  obtain ⟨⟨⟨⟨⟨⟨⟨⟨⟨⟨⟨h1, h2⟩, h3⟩, h4⟩, h5⟩, h6⟩, h7⟩, h8⟩, h9⟩, h10⟩, h11⟩, h12⟩ := h
  have ha := Nat.le_of_ble_eq_true h4
  cases hs : sm_ss[si]? with
  | none => rw [hs] at h8; cases h8
  | some q =>
    obtain ⟨o, k, tx⟩ := q
    rw [hs] at h8
    simp only [Bool.and_eq_true] at h8
    have e1 := of_decide_eq_true h8.1
    have e2 := Nat.eq_of_beq_eq_true h8.2
    subst e1; subst e2
    refine ⟨k, ic, sm_xix a, sm_xrx a, tx, sm_xY a, sm_xnm, ha, sm_xrok a, ?_, sm_xfit.2.2.2 a, sm_xfit.2.2.1, by decide, sm_wd_in h5, sm_wd_in h7, List.mem_of_getElem? hs, sm_xw_ok ha (sm_wd_in h6), List.all_eq_true.mp h9, sm_dk_of h10, sm_dk_of h11, ?_⟩
    · rcases (show a = 0 ∨ a = 1 by omega) with rfl | rfl
      · exact sm_xfit.1
      · exact sm_xfit.2.1
    · cases wide with
      | true =>
        simp only [cond_true, Bool.and_eq_true] at h12
        exact Or.inr ⟨sm_dk_of h12.1.1, sm_dk_of h12.1.2, sm_dk_of h12.2⟩
      | false =>
        simp only [cond_false, Bool.and_eq_true] at h12
        exact Or.inl ⟨sm_dk_of h12.1.1, sm_dk_of h12.1.2, sm_dk_of h12.2⟩
def sm_nxB (code : List sm_E) (pc bp : Nat) (i : Instr) : Bool := match code[pc + 1]? with
  | some e1 => Nat.beq e1.2.1 (bp + sm_ln i)
  | none => false
theorem sm_nxB_of {code : List sm_E} {pc bp : Nat} {i : Instr} (h : sm_nxB code pc bp i = true) : sm_nx code pc bp i := by
  unfold sm_nxB at h
  split at h
  · rename_i e1 e
    exact ⟨e1, e, Nat.eq_of_beq_eq_true h⟩
  · cases h
def sm_tgB (code : List sm_E) (a : Nat) (x : Int) : Bool := match code[a]? with
  | some e1 => decide (x = (e1.2.1 : Int))
  | none => false
theorem sm_tgB_of {code : List sm_E} {a : Nat} {x : Int} (h : sm_tgB code a x = true) : sm_tg code a x := by
  unfold sm_tgB at h
  split at h
  · rename_i e1 e
    exact ⟨e1, e, of_decide_eq_true h⟩
  · cases h
def sm_tgsB (code : List sm_E) (bp : Nat) : List Int → List Nat → Bool
  | [], [] => true
  | o :: os, a :: as => sm_tgB code a ((bp : Int) + o) && sm_tgsB code bp os as
  | _, _ => false
theorem sm_tgsB_of {code : List sm_E} {bp : Nat} : ∀ {os : List Int} {as : List Nat}, sm_tgsB code bp os as = true → sm_tgs code bp os as
  | [], [], _ => trivial
  | o :: os, a :: as, h => by
    simp only [sm_tgsB, Bool.and_eq_true] at h
    exact ⟨sm_tgB_of h.1, sm_tgsB_of h.2⟩
  | [], _ :: _, h => by cases h
  | _ :: _, [], h => by cases h
def sm_fB (own idx c a b k : Nat) (anyfin : Bool) : Bool := match sm_FT[k]? with
  | some (o, i, c', a', b', fin, _) => Nat.beq o own && Nat.beq i idx && Nat.beq c' c && Nat.beq a' a && Nat.beq b' b && (anyfin || !fin)
  | none => false
theorem sm_fB_of {own idx c a b k : Nat} {anyfin : Bool} (h : sm_fB own idx c a b k anyfin = true) : ∃ fin, (anyfin = false → fin = false) ∧ sm_fok sm_Ts (sm_OW.getD own "") idx c a b fin := by
  unfold sm_fB at h
  split at h
  · rename_i o i c' a' b' fin w e
    simp only [Bool.and_eq_true] at h
    obtain ⟨⟨⟨⟨⟨h1, h2⟩, h3⟩, h4⟩, h5⟩, h6⟩ := h
    cases Nat.eq_of_beq_eq_true h1
    cases Nat.eq_of_beq_eq_true h2
    cases Nat.eq_of_beq_eq_true h3
    cases Nat.eq_of_beq_eq_true h4
    cases Nat.eq_of_beq_eq_true h5
    exact ⟨fin, fun z => by subst z; simpa using h6, sm_ft_ok e⟩
  · cases h
/-- a row of constants is a word -/
def sm_ctB (r : Nat × Nat × Nat × Nat × Nat) : Bool := match r with
  | (0, own, idx, v, w) => sm_wd w (.constant (sm_OW.getD own "") idx (Int32.ofNat v))
  | (1, own, idx, v, w) => sm_wd w (.constantLong (sm_OW.getD own "") idx (Int64.ofNat v))
  | (2, own, idx, 1, w) => sm_wd w (.methodLink (sm_OW.getD own "") idx sm_strlen)
  | (2, own, idx, 2, w) => sm_wd w (.methodLink (sm_OW.getD own "") idx sm_strchr)
  | (2, own, idx, 3, w) => sm_wd w (.methodLink (sm_OW.getD own "") idx arraycopyName)
  | _ => false
set_option maxRecDepth 100000 in
theorem sm_ct_all : sm_CT.all sm_ctB = true := by decide +kernel
def sm_cB (kind own idx v k : Nat) : Bool := match sm_CT[k]? with
  | some (kd, o, i, v', _) => Nat.beq kd kind && Nat.beq o own && Nat.beq i idx && Nat.beq v' v
  | none => false
theorem sm_cB_of {kind own idx v k : Nat} (h : sm_cB kind own idx v k = true) : ∃ w, sm_ctB (kind, own, idx, v, w) = true := by
  unfold sm_cB at h
  split at h
  · rename_i kd o i v' w e
    simp only [Bool.and_eq_true] at h
    obtain ⟨⟨⟨h1, h2⟩, h3⟩, h4⟩ := h
    cases Nat.eq_of_beq_eq_true h1
    cases Nat.eq_of_beq_eq_true h2
    cases Nat.eq_of_beq_eq_true h3
    cases Nat.eq_of_beq_eq_true h4
    exact ⟨w, List.all_eq_true.mp sm_ct_all _ (List.mem_of_getElem? e)⟩
  · cases h
