/-! ===== the check of every entry ===== -/
noncomputable def sm_mB (own idx a b c k : Nat) (virt : Bool) (t : List Nat) : Bool := match sm_MT[k]? with
  | some (o, i, a', b', c', v, _) => Nat.beq o own && Nat.beq i idx && Nat.beq a' a && Nat.beq b' b && Nat.beq c' c && (v == virt) && Nat.blt b' 999 && (match t with
    | mc :: ms :: _ => (match sm_P[a']? with
      | some me => Nat.beq mc me.2.1.1 && Nat.beq ms me.2.1.2
      | none => false)
    | _ => false)
  | none => false
theorem sm_mB_of {own idx a b c k : Nat} {virt : Bool} {t : List Nat} (h : sm_mB own idx a b c k virt t = true) : sm_iok sm_Ts sm_P sm_N (sm_OW.getD own "") idx a b c t virt := by
  unfold sm_mB at h
  split at h
  · rename_i o i a' b' c' v w e
    simp only [Bool.and_eq_true] at h
    obtain ⟨⟨⟨⟨⟨⟨⟨h1, h2⟩, h3⟩, h4⟩, h5⟩, h6⟩, h8⟩, h7⟩ := h
    cases Nat.eq_of_beq_eq_true h1
    cases Nat.eq_of_beq_eq_true h2
    cases Nat.eq_of_beq_eq_true h3
    cases Nat.eq_of_beq_eq_true h4
    cases Nat.eq_of_beq_eq_true h5
    have e6 : v = virt := by simpa using h6
    subst e6
    have hall := sm_mt_all _ (List.mem_of_getElem? e)
    have hlt : a < 304 := sm_ike hall
    have h9 := sm_blt h8
    split at h7
    · rename_i mc ms r
      split at h7
      · rename_i me hme
        simp only [Bool.and_eq_true] at h7
        have hyt : sm_YT[a]? = some (v, b, c) := by
          have h := hall
          unfold sm_ikB at h
          dsimp only at h
          split at h
          · rename_i v2 b2 c2 _ _ _ _ e0 _
            simp only [Bool.and_eq_true] at h
            obtain ⟨⟨⟨⟨k1, k2⟩, k3⟩, -⟩, -⟩ := h
            have e4 : v2 = v := by simpa using k1
            rw [e0, e4, Nat.eq_of_beq_eq_true k2, Nat.eq_of_beq_eq_true k3]
          · cases h
        exact sm_ik_ok hme (Nat.eq_of_beq_eq_true h7.1) (Nat.eq_of_beq_eq_true h7.2) (fun nm bytes ret hh h2 => sm_cw_in hlt hme h2) (sm_y_all hlt hyt (by omega)) hall
      · cases h7
    · cases h7
  · cases h
def sm_rB (cc : ByteArray) (ret : Option FieldType) (i : Instr) (bp a : Nat) : Bool := sm_dk cc bp i 1 && (match i with
  | .ireturn => (Nat.beq a 1 && decide (ret = some .boolean)) || (!Nat.beq a 1 && decide (ret = some .int))
  | .lreturn => decide (ret = some .long)
  | .return_ => decide (ret = none)
  | _ => false)
theorem sm_rB_of {cc : ByteArray} {ret : Option FieldType} {i : Instr} {bp a : Nat} (h : sm_rB cc ret i bp a = true) : sm_rok cc ret i bp a := by
  simp only [sm_rB, Bool.and_eq_true] at h
  refine ⟨sm_dk_of h.1, ?_⟩
  have h2 := h.2
  split at h2
  · simp only [Bool.or_eq_true, Bool.and_eq_true, decide_eq_true_eq, Bool.not_eq_true'] at h2
    rcases h2 with ⟨h3, h4⟩ | ⟨h3, h4⟩
    · exact Or.inl ⟨rfl, Or.inl ⟨Nat.eq_of_beq_eq_true h3, h4⟩⟩
    · exact Or.inl ⟨rfl, Or.inr ⟨(fun z => by rw [z] at h3; exact absurd h3 (by decide)), h4⟩⟩
  · exact Or.inr (Or.inl ⟨rfl, of_decide_eq_true h2⟩)
  · exact Or.inr (Or.inr ⟨rfl, of_decide_eq_true h2⟩)
  · cases h2
def sm_dkA (cc : ByteArray) (bp : Nat) (i : Instr) : Bool := match decode cc bp with
  | .ok (j, _) => decide (j = i)
  | .error _ => false
theorem sm_dkA_of {cc : ByteArray} {bp : Nat} {i : Instr} (h : sm_dkA cc bp i = true) : ∃ len, decode cc bp = .ok (i, len) := by
  unfold sm_dkA at h
  split at h
  · rename_i j k e
    have := of_decide_eq_true h
    subst this
    exact ⟨k, e⟩
  · cases h
/-- one entry -/
noncomputable def sm_ckE (own : Nat) (cc : ByteArray) (code : List sm_E) (ret : Option FieldType) (pc : Nat) (e : sm_E) : Bool := match e with
  | (i, bp, a, b, c, t) => match i with
    | .nop => true
    | .invokestatic idx => sm_dk cc bp (.invokestatic idx) 3 && sm_nxB code pc bp i && (bif Nat.beq c 3 then sm_cB 2 own idx 3 (t.getD 2 0) else sm_mB own idx a b c (t.getD 2 0) false t)
    | .invokevirtual idx => sm_dk cc bp (.invokevirtual idx) 3 && sm_nxB code pc bp i && (bif Nat.beq c 1 then sm_cB 2 own idx 1 (t.getD 2 0) else bif Nat.beq c 2 then sm_cB 2 own idx 2 (t.getD 2 0) else sm_mB own idx a b c (t.getD 2 0) true t)
    | .new ik => (match sm_TT[t.getD 0 0]? with | some r => sm_tkB own cc bp ik a r | none => false)
    | .ireturn => sm_rB cc ret i bp a
    | .lreturn => sm_rB cc ret i bp a
    | .return_ => sm_rB cc ret i bp a
    | .goto off => sm_dk cc bp i (sm_ln i) && sm_tgB code a ((bp : Int) + off)
    | .ifCond _ off => sm_dk cc bp i (sm_ln i) && sm_nxB code pc bp i && sm_tgB code a ((bp : Int) + off)
    | .if_icmp _ off => sm_dk cc bp i (sm_ln i) && sm_nxB code pc bp i && sm_tgB code a ((bp : Int) + off)
    | .tableswitch d lo hi offs => sm_dkA cc bp i && sm_tgB code a ((bp : Int) + d) && sm_tgsB code bp offs.toList t && decide (hi = lo + (offs.size : Int) - 1)
    | .lookupswitch d ps => sm_dkA cc bp i && sm_tgB code a ((bp : Int) + d) && sm_tgsB code bp (ps.toList.map Prod.snd) t && (ps.toList.zip (ps.toList.drop 1)).all (fun (a, next) => a.1 < next.1)
    | .getfield idx => sm_dk cc bp i (sm_ln i) && sm_nxB code pc bp i && sm_fB own idx c a b (t.getD 0 0) true
    | .putfield idx => sm_dk cc bp i (sm_ln i) && sm_nxB code pc bp i && sm_fB own idx c a b (t.getD 0 0) false
    | .ldc idx => sm_dk cc bp i (sm_ln i) && sm_nxB code pc bp i && (bif Nat.beq c 0 then sm_cB 0 own idx a (t.getD 0 0) else Nat.beq c 1 && Nat.beq own 6 && Nat.beq idx 67)
    | .ldc_w idx => sm_dk cc bp i (sm_ln i) && sm_nxB code pc bp i && sm_cB 0 own idx a (t.getD 0 0)
    | .ldc2_w idx => sm_dk cc bp i (sm_ln i) && sm_nxB code pc bp i && sm_cB 1 own idx a (t.getD 0 0)
    | _ => sm_dk cc bp i (sm_ln i) && sm_nxB code pc bp i
theorem sm_cB_c {own idx a k : Nat} (h : sm_cB 0 own idx a k = true) : Cond.constant (sm_OW.getD own "") idx (Int32.ofNat a) ∈ sm_Ts := by
  obtain ⟨w, h⟩ := sm_cB_of h
  exact sm_wd_in h
theorem sm_cB_l {own idx a k : Nat} (h : sm_cB 1 own idx a k = true) : Cond.constantLong (sm_OW.getD own "") idx (Int64.ofNat a) ∈ sm_Ts := by
  obtain ⟨w, h⟩ := sm_cB_of h
  exact sm_wd_in h
theorem sm_ckE_of {own : Nat} {cc : ByteArray} {code : List sm_E} {ret : Option FieldType} {pc : Nat} {e : sm_E} (h : sm_ckE own cc code ret pc e = true) : sm_ent sm_Ts sm_P sm_N (sm_OW.getD own "") cc code ret pc e := by
  obtain ⟨i, bp, a, b, c, t⟩ := e
  have hsys := sm_wds_in sm_s_all
  cases i with
  | nop => trivial
  | invokestatic idx =>
    simp only [sm_ckE, Bool.and_eq_true] at h
    refine ⟨sm_dk_of h.1.1, sm_nxB_of h.1.2, ?_⟩
    have h2 := h.2
    cases h3 : Nat.beq c 3 with
    | true =>
      rw [h3] at h2
      obtain ⟨w, h4⟩ := sm_cB_of h2
      exact Or.inl ⟨Nat.eq_of_beq_eq_true h3, sm_wd_in h4, hsys _ (by simp), hsys _ (by simp), hsys _ (by simp)⟩
    | false =>
      rw [h3] at h2
      exact Or.inr (sm_mB_of h2)
  | invokevirtual idx =>
    simp only [sm_ckE, Bool.and_eq_true] at h
    refine ⟨sm_dk_of h.1.1, sm_nxB_of h.1.2, ?_⟩
    have h2 := h.2
    cases h3 : Nat.beq c 1 with
    | true =>
      rw [h3] at h2
      obtain ⟨w, h4⟩ := sm_cB_of h2
      exact Or.inl ⟨Nat.eq_of_beq_eq_true h3, sm_wd_in h4⟩
    | false =>
      rw [h3, cond_false] at h2
      cases h5 : Nat.beq c 2 with
      | true =>
        rw [h5] at h2
        obtain ⟨w, h4⟩ := sm_cB_of h2
        exact Or.inr (Or.inl ⟨Nat.eq_of_beq_eq_true h5, sm_wd_in h4⟩)
      | false =>
        rw [h5] at h2
        exact Or.inr (Or.inr (sm_mB_of h2))
  | new ik =>
    simp only [sm_ckE] at h
    split at h
    · exact sm_tk_ok h
    · cases h
  | ireturn => exact sm_rB_of h
  | lreturn => exact sm_rB_of h
  | return_ => exact sm_rB_of h
  | goto off =>
    simp only [sm_ckE, Bool.and_eq_true] at h
    exact ⟨sm_dk_of h.1, sm_tgB_of h.2⟩
  | ifCond k off =>
    simp only [sm_ckE, Bool.and_eq_true] at h
    exact ⟨sm_dk_of h.1.1, sm_nxB_of h.1.2, sm_tgB_of h.2⟩
  | if_icmp k off =>
    simp only [sm_ckE, Bool.and_eq_true] at h
    exact ⟨sm_dk_of h.1.1, sm_nxB_of h.1.2, sm_tgB_of h.2⟩
  | tableswitch d lo hi offs =>
    simp only [sm_ckE, Bool.and_eq_true] at h
    exact ⟨sm_dkA_of h.1.1.1, sm_tgB_of h.1.1.2, sm_tgsB_of h.1.2, of_decide_eq_true h.2⟩
  | lookupswitch d ps =>
    simp only [sm_ckE, Bool.and_eq_true] at h
    exact ⟨sm_dkA_of h.1.1.1, sm_tgB_of h.1.1.2, sm_tgsB_of h.1.2, h.2⟩
  | getfield idx =>
    simp only [sm_ckE, Bool.and_eq_true] at h
    obtain ⟨fin, -, h3⟩ := sm_fB_of h.2
    exact ⟨sm_dk_of h.1.1, sm_nxB_of h.1.2, fin, h3⟩
  | putfield idx =>
    simp only [sm_ckE, Bool.and_eq_true] at h
    obtain ⟨fin, h3, h4⟩ := sm_fB_of h.2
    rw [h3 rfl] at h4
    exact ⟨sm_dk_of h.1.1, sm_nxB_of h.1.2, h4⟩
  | ldc idx =>
    simp only [sm_ckE, Bool.and_eq_true] at h
    refine ⟨sm_dk_of h.1.1, sm_nxB_of h.1.2, ?_⟩
    have h2 := h.2
    cases h3 : Nat.beq c 0 with
    | true =>
      rw [h3] at h2
      exact Or.inl ⟨Nat.eq_of_beq_eq_true h3, sm_cB_c h2⟩
    | false =>
      rw [h3] at h2
      simp only [cond_false, Bool.and_eq_true] at h2
      cases Nat.eq_of_beq_eq_true h2.1.2
      exact Or.inr ⟨Nat.eq_of_beq_eq_true h2.1.1, rfl, Nat.eq_of_beq_eq_true h2.2⟩
  | ldc_w idx =>
    simp only [sm_ckE, Bool.and_eq_true] at h
    exact ⟨sm_dk_of h.1.1, sm_nxB_of h.1.2, sm_cB_c h.2⟩
  | ldc2_w idx =>
    simp only [sm_ckE, Bool.and_eq_true] at h
    exact ⟨sm_dk_of h.1.1, sm_nxB_of h.1.2, sm_cB_l h.2⟩
  | _ =>
    simp only [sm_ckE, Bool.and_eq_true] at h
    exact ⟨sm_dk_of h.1, sm_nxB_of h.2⟩
/-- entries one after the other -/
noncomputable def sm_ckA (own : Nat) (cc : ByteArray) (code : List sm_E) (ret : Option FieldType) : Nat → List sm_E → Bool
  | _, [] => true
  | pc, e :: r => sm_ckE own cc code ret pc e && sm_ckA own cc code ret (pc + 1) r
theorem sm_ckA_at {own : Nat} {cc : ByteArray} {code : List sm_E} {ret : Option FieldType} : ∀ {l : List sm_E} {p0 n : Nat} {e : sm_E}, sm_ckA own cc code ret p0 l = true → l[n]? = some e → sm_ckE own cc code ret (p0 + n) e = true
  | [], p0, n, e, _, h => by simp at h
  | x :: l, p0, 0, e, hs, h => by
    simp only [sm_ckA, Bool.and_eq_true] at hs
    simp at h
    subst h
    exact hs.1
  | x :: l, p0, n + 1, e, hs, h => by
    simp only [sm_ckA, Bool.and_eq_true] at hs
    have := sm_ckA_at (n := n) hs.2 (by simpa using h)
    rw [show p0 + (n + 1) = p0 + 1 + n by omega]
    exact this
/-- a part of a method's entries, from one place on -/
noncomputable def sm_ckP (own : Nat) (cc : ByteArray) (code : List sm_E) (ret : Option FieldType) (a n : Nat) : Bool := sm_ckA own cc code ret a ((code.drop a).take n)
theorem sm_ckP_at {own : Nat} {cc : ByteArray} {code : List sm_E} {ret : Option FieldType} {a n : Nat} (h : sm_ckP own cc code ret a n = true) {k : Nat} {e : sm_E} (h1 : a ≤ k) (h2 : k < a + n) (hk : code[k]? = some e) : sm_ckE own cc code ret k e = true := by
  have := sm_ckA_at (n := k - a) h (e := e) (by rw [List.getElem?_take_of_lt (by omega), List.getElem?_drop, show a + (k - a) = k by omega]; exact hk)
  rw [show a + (k - a) = k by omega] at this
  exact this
