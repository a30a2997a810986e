/-! ===== who sang flat, games, wars ===== -/
theorem fx_snoc {γ : Type} {g : Nat → Option γ} : ∀ {m j : Nat}, fx g (m + 1) j = match fx g m j with
    | some v => some v
    | none => g (j + m)
  | 0, j => by
    show (match g j with | some v => some v | none => none) = g j
    cases g j <;> rfl
  | m + 1, j => by
    have ih := fx_snoc (g := g) (m := m) (j := j + 1)
    rw [fx, fx]
    cases g j with
    | some v => rfl
    | none =>
      show fx g (m + 1) (j + 1) = match fx g m (j + 1) with | some v => some v | none => g (j + (m + 1))
      rw [ih, show j + 1 + m = j + (m + 1) by omega]
/-- is what was heard so, if one (or none) is flat by so many -/
def hrd (A : sA) (C : sm_MI) (x : Int32) (w : Option Nat) (b k : Nat) : Bool := decide ((if (match w with
  | none => false
  | some s => bt (ab A x (C 11 k).toNatClampNeg 0) s) then C 12 k - nI b else C 12 k) = C 13 k)
section QU
variable {A : sA} {R : Nat → List Nat} {t : Nat} {C M : sm_MI}
def wbit : Option Nat → Int32
  | none => 0
  | some s => b1 s
def wwho : Option Nat → Int32
  | none => -1
  | some s => nI s
theorem c_heard (h : Rel A R t C M) {w : Option Nat} {b : Nat} (hw0 : ∀ s, w = some s → s < A 0 0) : ∃ u, u ≤ 8 ∧ C 8 6 = nI u ∧ F_VM_allHeardIsSo t (wbit w) (nI b) C = some (if al (hrd A C (C 9 0) w b) u 0 then 1 else 0) := by
  have hw := h.wa
  have hn := hw.1
  have hc := h.ca
  obtain ⟨u, u1, u2, u3, u4⟩ := h.2.1.2.2
  refine ⟨u, u1, u2, ?_⟩
  unfold F_VM_allHeardIsSo
  have lp := lp_fX (fun f j => F_VM_allHeardIsSo_2 t C f (wbit w) (nI b) j) (fun k => if hrd A C (C 9 0) w b k then none else some ()) (fun _ => some 0) (some 1) u 0 (by omega) (by omega) ?_ ?_
  · have lp : F_VM_allHeardIsSo_2 t C sd_fu (wbit w) (nI b) 0 = _ := lp
    rw [lp, fxv_al, Nat.sub_zero]
    split <;> rfl
  · intro f
    show F_VM_allHeardIsSo_2B t (F_VM_allHeardIsSo_2 t C f) (wbit w) (nI b) (nI u) C = _
    unfold F_VM_allHeardIsSo_2B
    rw [u2, if_pos (Int32.le_refl _)]
  · intro f k _ hk
    obtain ⟨r, i, v, r1, r2, r3, -, -, -, r7, r8, r9⟩ := u4 k hk
    have r7 : C 11 k = nI r := r7
    have r8 : C 12 k = nI (A 8 (12 * r + i)) := r8
    have r9 : C 13 k = nI v := r9
    show F_VM_allHeardIsSo_2B t (F_VM_allHeardIsSo_2 t C f) (wbit w) (nI b) (nI k) C = fxv (if hrd A C (C 9 0) w b k then none else some ()) (fun _ => some 0) (F_VM_allHeardIsSo_2 t C f (wbit w) (nI b) (nI (k + 1)))
    unfold F_VM_allHeardIsSo_2B F_VM_allHeardIsSo_39 F_VM_allHeardIsSo_55 hrd
    have fin : ∀ (B : Bool), (if C 13 k = (if B then C 12 k - nI b else C 12 k) then F_VM_allHeardIsSo_2 t C f (wbit w) (nI b) (nI (k + 1)) else some 0) = fxv (if decide ((if B then C 12 k - nI b else C 12 k) = C 13 k) then none else some ()) (fun _ => some 0) (F_VM_allHeardIsSo_2 t C f (wbit w) (nI b) (nI (k + 1))) := by
      intro B
      by_cases e : (if B then C 12 k - nI b else C 12 k) = C 13 k
      · rw [if_pos e.symm, decide_eq_true e]; rfl
      · rw [if_neg (fun z => e z.symm), decide_eq_false e]; rfl
    have hbit : (ab A (C 9 0) r 0 &&& wbit w = 0) = ((match w with | none => false | some s => bt (ab A (C 9 0) r 0) s) = false) := by
      cases w with
      | none =>
        apply propext
        refine ⟨fun _ => rfl, fun _ => ?_⟩
        show ab A (C 9 0) r 0 &&& 0 = 0
        apply b_ext
        intro i _
        rw [b_and, b_0, Bool.and_false]
      | some s =>
        have := hw0 s rfl
        exact bs0 _ (by omega)
    rw [r7, nI_clamp (show r < 2 ^ 31 by omega)]
    rw [← fin]
    generalize (match w with | none => false | some s => bt (ab A (C 9 0) r 0) s) = B at *
    cases B
    · simp (disch := omega) only [↓g_in, ↓g_c0, ↓g_c1, ↓reduceIte, ↓y_lt, ↓y_q1, ↓y_q2, ↓sn_q3, ↓sn_t1l, ↓sn_t1r, ↓sn_t2l, ↓sn_t2r, y_q1, y_q2, sn_q3, sn_t1l, sn_t1r, sn_t2l, sn_t2r, nI_clamp, x_leT, x_leF, x_ltT, x_ltF, x_eqT, x_eqF, x_le0T, x_le0F, x_0leT, x_lt0F, x_0ltT, x_0ltF, x_eq0T, x_eq0F, x_le1T, x_le1F, x_1leT, x_1leF, x_1ltT, x_1ltF, x_lt1T, x_lt1F, x_eq1T, x_eq1F, x_m1F, nI_add, nI_1, sn_mul, x_sub, x_sub1, sn_m1, l2, l3, l4, l5, l6, l7, l8, l9, l10, l11, l12, l13, l14, l15, l20, l30, l40, l48, l60, l64, l99, l100, l700, l999, not_true_eq_false, not_false_eq_true, x_t0, x_t1, lts1, x_10, x_1sub, eq_self, Nat.reduceSub, Nat.reduceAdd, Nat.reduceMul, u2, r7, ab_fit hc r1, hbit, Bool.false_eq_true]
    · simp (disch := omega) only [↓g_in, ↓g_c0, ↓g_c1, ↓reduceIte, ↓y_lt, ↓y_q1, ↓y_q2, ↓sn_q3, ↓sn_t1l, ↓sn_t1r, ↓sn_t2l, ↓sn_t2r, y_q1, y_q2, sn_q3, sn_t1l, sn_t1r, sn_t2l, sn_t2r, nI_clamp, x_leT, x_leF, x_ltT, x_ltF, x_eqT, x_eqF, x_le0T, x_le0F, x_0leT, x_lt0F, x_0ltT, x_0ltF, x_eq0T, x_eq0F, x_le1T, x_le1F, x_1leT, x_1leF, x_1ltT, x_1ltF, x_lt1T, x_lt1F, x_eq1T, x_eq1F, x_m1F, nI_add, nI_1, sn_mul, x_sub, x_sub1, sn_m1, l2, l3, l4, l5, l6, l7, l8, l9, l10, l11, l12, l13, l14, l15, l20, l30, l40, l48, l60, l64, l99, l100, l700, l999, not_true_eq_false, not_false_eq_true, x_t0, x_t1, lts1, x_10, x_1sub, eq_self, Nat.reduceSub, Nat.reduceAdd, Nat.reduceMul, u2, r7, ab_fit hc r1, hbit, Bool.true_eq_false]
theorem m_heard (h : Rel A R t C M) {w : Option Nat} {b u : Nat} (hw0 : ∀ s, w = some s → s < A 0 0) (hu : u ≤ 8) (hC : C 8 6 = nI u) : F_Mo_isHeard (wwho w) (nI b) M = some (if al (hrd A C (C 9 0) w b) u 0 then 1 else 0) := by
  have hw := h.wa
  have hn := hw.1
  have hm := h.ma
  have hst := h.st
  obtain ⟨u', u1, u2, u3, u4⟩ := h.2.1.2.2
  have eu : u' = u := (nI_eq (by omega) (by omega)).mp (u2.symm.trans hC)
  subst eu
  have u3 : M 61 53 = nI u' := u3
  unfold F_Mo_isHeard
  have lp := lp_fX (fun f j => F_Mo_isHeard_2 M f (wwho w) (nI b) j) (fun k => if hrd A C (C 9 0) w b k then none else some ()) (fun _ => some 0) (some 1) u' 0 (by omega) (by omega) ?_ ?_
  · have lp : F_Mo_isHeard_2 M sd_fu (wwho w) (nI b) 0 = _ := lp
    rw [lp, fxv_al, Nat.sub_zero]
    split <;> rfl
  · intro f
    show F_Mo_isHeard_2B (F_Mo_isHeard_2 M f) (wwho w) (nI b) (nI u') M = _
    unfold F_Mo_isHeard_2B
    rw [u3, if_pos (Int32.le_refl _)]
  · intro f k _ hk
    obtain ⟨r, i, v, r1, r2, r3, r4, r5, r6, r7, r8, r9⟩ := u4 k hk
    have r7 : C 11 k = nI r := r7
    have r8 : C 12 k = nI (A 8 (12 * r + i)) := r8
    have r9 : C 13 k = nI v := r9
    have r4 : M 91 (3 * k) = nI r := r4
    have r5 : M 91 (3 * k + 1) = nI i := r5
    have r6 : M 91 (3 * k + 2) = nI v := r6
    have h12 := A7_le hw r1
    have hq : 0 < A 6 r := by
      rcases Nat.eq_zero_or_pos (A 6 r) with e | e
      · rw [(hw.2.2.2.2.2 r r1).2.1 e] at r2; omega
      · exact e
    have q3 := ((hm.2.2.2.2 r r1).2 hq).2 i r2
    have e9 := mo_ableOf (A := A) (I := M) (r := r) (x := C 9 0) (u := 0) hw hm r1 (by decide)
    have e9 : F_Mo_ableOf (C 9 0) (nI r) 0 M = some (ab A (C 9 0) r 0) := e9
    show F_Mo_isHeard_2B (F_Mo_isHeard_2 M f) (wwho w) (nI b) (nI k) M = fxv (if hrd A C (C 9 0) w b k then none else some ()) (fun _ => some 0) (F_Mo_isHeard_2 M f (wwho w) (nI b) (nI (k + 1)))
    unfold F_Mo_isHeard_2B F_Mo_isHeard_34 F_Mo_isHeard_55 hrd
    have fin : ∀ (B : Bool), (if nI (A 8 (12 * r + i)) - (if B then nI b else 0) = nI v then F_Mo_isHeard_2 M f (wwho w) (nI b) (nI (k + 1)) else some 0) = fxv (if decide ((if B then C 12 k - nI b else C 12 k) = C 13 k) then none else some ()) (fun _ => some 0) (F_Mo_isHeard_2 M f (wwho w) (nI b) (nI (k + 1))) := by
      intro B
      rw [r8, r9]
      cases B
      · rw [if_neg Bool.false_ne_true, if_neg Bool.false_ne_true, Int32.sub_zero]
        by_cases e : nI (A 8 (12 * r + i)) = nI v
        · rw [if_pos e, decide_eq_true e]; rfl
        · rw [if_neg e, decide_eq_false e]; rfl
      · rw [if_pos rfl, if_pos rfl]
        by_cases e : nI (A 8 (12 * r + i)) - nI b = nI v
        · rw [if_pos e, decide_eq_true e]; rfl
        · rw [if_neg e, decide_eq_false e]; rfl
    rw [r7, nI_clamp (show r < 2 ^ 31 by omega), ← fin]
    cases w with
    | none =>
      simp (disch := omega) only [↓g_in, ↓g_c0, ↓g_c1, ↓reduceIte, ↓y_lt, ↓y_q1, ↓y_q2, ↓sn_q3, ↓sn_t1l, ↓sn_t1r, ↓sn_t2l, ↓sn_t2r, y_q1, y_q2, sn_q3, sn_t1l, sn_t1r, sn_t2l, sn_t2r, nI_clamp, x_leT, x_leF, x_ltT, x_ltF, x_eqT, x_eqF, x_le0T, x_le0F, x_0leT, x_lt0F, x_0ltT, x_0ltF, x_eq0T, x_eq0F, x_le1T, x_le1F, x_1leT, x_1leF, x_1ltT, x_1ltF, x_lt1T, x_lt1F, x_eq1T, x_eq1F, x_m1F, nI_add, nI_1, sn_mul, x_sub, x_sub1, sn_m1, l2, l3, l4, l5, l6, l7, l8, l9, l10, l11, l12, l13, l14, l15, l20, l30, l40, l48, l60, l64, l99, l100, l700, l999, not_true_eq_false, not_false_eq_true, x_t0, x_t1, lts1, x_10, x_1sub, eq_self, Nat.reduceSub, Nat.reduceAdd, Nat.reduceMul, u3, r4, r5, r6, q3, Bool.false_eq_true]
      have e : wwho none = -1 := rfl
      rw [e, if_pos rfl]
    | some s =>
      have hs := hw0 s rfl
      have e : wwho (some s) = nI s := rfl
      rw [e]
      cases e2 : bt (ab A (C 9 0) r 0) s
      · simp (disch := omega) only [↓g_in, ↓g_c0, ↓g_c1, ↓reduceIte, ↓y_lt, ↓y_q1, ↓y_q2, ↓sn_q3, ↓sn_t1l, ↓sn_t1r, ↓sn_t2l, ↓sn_t2r, y_q1, y_q2, sn_q3, sn_t1l, sn_t1r, sn_t2l, sn_t2r, nI_clamp, x_leT, x_leF, x_ltT, x_ltF, x_eqT, x_eqF, x_le0T, x_le0F, x_0leT, x_lt0F, x_0ltT, x_0ltF, x_eq0T, x_eq0F, x_le1T, x_le1F, x_1leT, x_1leF, x_1ltT, x_1ltF, x_lt1T, x_lt1F, x_eq1T, x_eq1F, x_m1F, nI_add, nI_1, sn_mul, x_sub, x_sub1, sn_m1, l2, l3, l4, l5, l6, l7, l8, l9, l10, l11, l12, l13, l14, l15, l20, l30, l40, l48, l60, l64, l99, l100, l700, l999, not_true_eq_false, not_false_eq_true, x_t0, x_t1, lts1, x_10, x_1sub, eq_self, Nat.reduceSub, Nat.reduceAdd, Nat.reduceMul, u3, r4, r5, r6, q3, ↓q1_of (mo_so0 hw hm hst), e9, e2, Bool.false_eq_true]
      · simp (disch := omega) only [↓g_in, ↓g_c0, ↓g_c1, ↓reduceIte, ↓y_lt, ↓y_q1, ↓y_q2, ↓sn_q3, ↓sn_t1l, ↓sn_t1r, ↓sn_t2l, ↓sn_t2r, y_q1, y_q2, sn_q3, sn_t1l, sn_t1r, sn_t2l, sn_t2r, nI_clamp, x_leT, x_leF, x_ltT, x_ltF, x_eqT, x_eqF, x_le0T, x_le0F, x_0leT, x_lt0F, x_0ltT, x_0ltF, x_eq0T, x_eq0F, x_le1T, x_le1F, x_1leT, x_1leF, x_1ltT, x_1ltF, x_lt1T, x_lt1F, x_eq1T, x_eq1F, x_m1F, nI_add, nI_1, sn_mul, x_sub, x_sub1, sn_m1, l2, l3, l4, l5, l6, l7, l8, l9, l10, l11, l12, l13, l14, l15, l20, l30, l40, l48, l60, l64, l99, l100, l700, l999, not_true_eq_false, not_false_eq_true, x_t0, x_t1, lts1, x_10, x_1sub, eq_self, Nat.reduceSub, Nat.reduceAdd, Nat.reduceMul, u3, r4, r5, r6, q3, ↓q1_of (mo_so0 hw hm hst), e9, e2]
end QU
