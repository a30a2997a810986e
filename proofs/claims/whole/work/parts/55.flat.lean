/-! ===== who sang flat, games, wars ===== -/
def fxo {γ : Type} (o p : Option γ) : Option γ := match o with
  | some v => some v
  | none => p
theorem fx_s {γ : Type} {g : Nat → Option γ} {m j : Nat} : fx g (m + 1) j = fxo (g j) (fx g m (j + 1)) := by
  rw [fx]
  cases g j <;> rfl
theorem fx_snoc {γ : Type} {g : Nat → Option γ} : ∀ {m j : Nat}, fx g (m + 1) j = fxo (fx g m j) (g (j + m))
  | 0, j => by
    rw [fx_s]
    show fxo (g j) none = fxo none (g (j + 0))
    cases g j <;> rfl
  | m + 1, j => by
    rw [fx_s (m := m + 1) (j := j), fx_snoc (m := m) (j := j + 1), fx_s (m := m) (j := j)]
    cases g j with
    | some v => rfl
    | none =>
      show fxo (fx g m (j + 1)) (g (j + 1 + m)) = fxo (fx g m (j + 1)) (g (j + (m + 1)))
      rw [show j + 1 + m = j + (m + 1) by omega]
/-- is what was heard so, if one (or none) is flat by so many -/
def sng (A : sA) (x : Int32) (r : Nat) : Option Nat → Bool
  | none => false
  | some s => bt (ab A x r 0) s
def hrd (A : sA) (C : sm_MI) (x : Int32) (w : Option Nat) (b k : Nat) : Bool := decide ((if sng A x (C 11 k).toNatClampNeg w then C 12 k - nI b else C 12 k) = C 13 k)
section QU
variable {A : sA} {R : Nat → List Nat} {t : Nat} {C M : sm_MI}
def wbit : Option Nat → Int32
  | none => 0
  | some s => b1 s
def wwho : Option Nat → Int32
  | none => -1
  | some s => nI s
theorem c_heard (h : Rel A R t C M) {w : Option Nat} {b : Nat} (hw0 : ∀ s, w = some s → s < A 0 0) : ∃ u, u ≤ 8 ∧ C 8 6 = nI u ∧ F_VM_allHeardIsSo t (wbit w) (nI b) C = some (if al (hrd A C (C 9 0) w b) u 0 then 1 else 0) := by
  have hw := h.wa
  have hn := hw.1
  have hc := h.ca
  obtain ⟨u, u1, u2, u3, u4⟩ := h.2.1.2.2
  refine ⟨u, u1, u2, ?_⟩
  unfold F_VM_allHeardIsSo
  have lp := lp_fX (fun f j => F_VM_allHeardIsSo_2 t C f (wbit w) (nI b) j) (fun k => if hrd A C (C 9 0) w b k then none else some ()) (fun _ => some 0) (some 1) u 0 (by omega) (by omega) ?_ ?_
  · have lp : F_VM_allHeardIsSo_2 t C sd_fu (wbit w) (nI b) 0 = _ := lp
    rw [lp, fxv_al, Nat.sub_zero]
    split <;> rfl
  · intro f
    show F_VM_allHeardIsSo_2B t (F_VM_allHeardIsSo_2 t C f) (wbit w) (nI b) (nI u) C = _
    unfold F_VM_allHeardIsSo_2B
    rw [u2, if_pos (Int32.le_refl _)]
  · intro f k _ hk
    obtain ⟨r, i, v, r1, r2, r3, -, -, -, r7, r8, r9⟩ := u4 k hk
    have r7 : C 11 k = nI r := r7
    have r8 : C 12 k = nI (A 8 (12 * r + i)) := r8
    have r9 : C 13 k = nI v := r9
    show F_VM_allHeardIsSo_2B t (F_VM_allHeardIsSo_2 t C f) (wbit w) (nI b) (nI k) C = fxv (if hrd A C (C 9 0) w b k then none else some ()) (fun _ => some 0) (F_VM_allHeardIsSo_2 t C f (wbit w) (nI b) (nI (k + 1)))
    unfold F_VM_allHeardIsSo_2B F_VM_allHeardIsSo_39 F_VM_allHeardIsSo_55 hrd
    have fin : ∀ (B : Bool), (if C 13 k = (if B then C 12 k - nI b else C 12 k) then F_VM_allHeardIsSo_2 t C f (wbit w) (nI b) (nI (k + 1)) else some 0) = fxv (if decide ((if B then C 12 k - nI b else C 12 k) = C 13 k) then none else some ()) (fun _ => some 0) (F_VM_allHeardIsSo_2 t C f (wbit w) (nI b) (nI (k + 1))) := by
      intro B
      by_cases e : (if B then C 12 k - nI b else C 12 k) = C 13 k
      · rw [if_pos e.symm, decide_eq_true e]; rfl
      · rw [if_neg (fun z => e z.symm), decide_eq_false e]; rfl
    have hbit : (ab A (C 9 0) r 0 &&& wbit w = 0) = (sng A (C 9 0) r w = false) := by
      cases w with
      | none =>
        apply propext
        refine ⟨fun _ => rfl, fun _ => ?_⟩
        show ab A (C 9 0) r 0 &&& 0 = 0
        apply b_ext
        intro i _
        rw [b_and, b_0, Bool.and_false]
      | some s =>
        have := hw0 s rfl
        exact bs0 _ (by omega)
    rw [r7, nI_clamp (show r < 2 ^ 31 by omega)]
    rw [← fin]
    generalize sng A (C 9 0) r w = B at *
    cases B
    · simp (disch := omega) only [↓g_in, ↓g_c0, ↓g_c1, ↓reduceIte, ↓y_lt, ↓y_q1, ↓y_q2, ↓sn_q3, ↓sn_t1l, ↓sn_t1r, ↓sn_t2l, ↓sn_t2r, y_q1, y_q2, sn_q3, sn_t1l, sn_t1r, sn_t2l, sn_t2r, nI_clamp, x_leT, x_leF, x_ltT, x_ltF, x_eqT, x_eqF, x_le0T, x_le0F, x_0leT, x_lt0F, x_0ltT, x_0ltF, x_eq0T, x_eq0F, x_le1T, x_le1F, x_1leT, x_1leF, x_1ltT, x_1ltF, x_lt1T, x_lt1F, x_eq1T, x_eq1F, x_m1F, nI_add, nI_1, sn_mul, x_sub, x_sub1, sn_m1, l2, l3, l4, l5, l6, l7, l8, l9, l10, l11, l12, l13, l14, l15, l20, l30, l40, l48, l60, l64, l99, l100, l700, l999, not_true_eq_false, not_false_eq_true, x_t0, x_t1, lts1, x_10, x_1sub, eq_self, Nat.reduceSub, Nat.reduceAdd, Nat.reduceMul, u2, r7, ab_fit hc r1, hbit, Bool.false_eq_true]
    · simp (disch := omega) only [↓g_in, ↓g_c0, ↓g_c1, ↓reduceIte, ↓y_lt, ↓y_q1, ↓y_q2, ↓sn_q3, ↓sn_t1l, ↓sn_t1r, ↓sn_t2l, ↓sn_t2r, y_q1, y_q2, sn_q3, sn_t1l, sn_t1r, sn_t2l, sn_t2r, nI_clamp, x_leT, x_leF, x_ltT, x_ltF, x_eqT, x_eqF, x_le0T, x_le0F, x_0leT, x_lt0F, x_0ltT, x_0ltF, x_eq0T, x_eq0F, x_le1T, x_le1F, x_1leT, x_1leF, x_1ltT, x_1ltF, x_lt1T, x_lt1F, x_eq1T, x_eq1F, x_m1F, nI_add, nI_1, sn_mul, x_sub, x_sub1, sn_m1, l2, l3, l4, l5, l6, l7, l8, l9, l10, l11, l12, l13, l14, l15, l20, l30, l40, l48, l60, l64, l99, l100, l700, l999, not_true_eq_false, not_false_eq_true, x_t0, x_t1, lts1, x_10, x_1sub, eq_self, Nat.reduceSub, Nat.reduceAdd, Nat.reduceMul, u2, r7, ab_fit hc r1, hbit, Bool.true_eq_false]
theorem m_heard (h : Rel A R t C M) {w : Option Nat} {b u : Nat} (hw0 : ∀ s, w = some s → s < A 0 0) (hu : u ≤ 8) (hC : C 8 6 = nI u) : F_Mo_isHeard (wwho w) (nI b) M = some (if al (hrd A C (C 9 0) w b) u 0 then 1 else 0) := by
  have hw := h.wa
  have hn := hw.1
  have hm := h.ma
  have hst := h.st
  obtain ⟨u', u1, u2, u3, u4⟩ := h.2.1.2.2
  have eu : u' = u := (nI_eq (by omega) (by omega)).mp (u2.symm.trans hC)
  subst eu
  have u3 : M 61 53 = nI u' := u3
  unfold F_Mo_isHeard
  have lp := lp_fX (fun f j => F_Mo_isHeard_2 M f (wwho w) (nI b) j) (fun k => if hrd A C (C 9 0) w b k then none else some ()) (fun _ => some 0) (some 1) u' 0 (by omega) (by omega) ?_ ?_
  · have lp : F_Mo_isHeard_2 M sd_fu (wwho w) (nI b) 0 = _ := lp
    rw [lp, fxv_al, Nat.sub_zero]
    split <;> rfl
  · intro f
    show F_Mo_isHeard_2B (F_Mo_isHeard_2 M f) (wwho w) (nI b) (nI u') M = _
    unfold F_Mo_isHeard_2B
    rw [u3, if_pos (Int32.le_refl _)]
  · intro f k _ hk
    obtain ⟨r, i, v, r1, r2, r3, r4, r5, r6, r7, r8, r9⟩ := u4 k hk
    have r7 : C 11 k = nI r := r7
    have r8 : C 12 k = nI (A 8 (12 * r + i)) := r8
    have r9 : C 13 k = nI v := r9
    have r4 : M 91 (3 * k) = nI r := r4
    have r5 : M 91 (3 * k + 1) = nI i := r5
    have r6 : M 91 (3 * k + 2) = nI v := r6
    have h12 := A7_le hw r1
    have hq : 0 < A 6 r := by
      rcases Nat.eq_zero_or_pos (A 6 r) with e | e
      · rw [(hw.2.2.2.2.2 r r1).2.1 e] at r2; omega
      · exact e
    have q3 := ((hm.2.2.2.2 r r1).2 hq).2 i r2
    have e9 := mo_ableOf (A := A) (I := M) (r := r) (x := C 9 0) (u := 0) hw hm r1 (by decide)
    have e9 : F_Mo_ableOf (C 9 0) (nI r) 0 M = some (ab A (C 9 0) r 0) := e9
    show F_Mo_isHeard_2B (F_Mo_isHeard_2 M f) (wwho w) (nI b) (nI k) M = fxv (if hrd A C (C 9 0) w b k then none else some ()) (fun _ => some 0) (F_Mo_isHeard_2 M f (wwho w) (nI b) (nI (k + 1)))
    unfold F_Mo_isHeard_2B F_Mo_isHeard_34 F_Mo_isHeard_55 hrd
    have fin : ∀ (B : Bool), (if nI (A 8 (12 * r + i)) - (if B then nI b else 0) = nI v then F_Mo_isHeard_2 M f (wwho w) (nI b) (nI (k + 1)) else some 0) = fxv (if decide ((if B then C 12 k - nI b else C 12 k) = C 13 k) then none else some ()) (fun _ => some 0) (F_Mo_isHeard_2 M f (wwho w) (nI b) (nI (k + 1))) := by
      intro B
      rw [r8, r9]
      cases B
      · rw [if_neg Bool.false_ne_true, if_neg Bool.false_ne_true, Int32.sub_zero]
        by_cases e : nI (A 8 (12 * r + i)) = nI v
        · rw [if_pos e, decide_eq_true e]; rfl
        · rw [if_neg e, decide_eq_false e]; rfl
      · rw [if_pos rfl, if_pos rfl]
        by_cases e : nI (A 8 (12 * r + i)) - nI b = nI v
        · rw [if_pos e, decide_eq_true e]; rfl
        · rw [if_neg e, decide_eq_false e]; rfl
    rw [r7, nI_clamp (show r < 2 ^ 31 by omega), ← fin]
    cases w with
    | none =>
      have e : wwho none = -1 := rfl
      have e3 : sng A (C 9 0) r none = false := rfl
      rw [e, e3]
      simp (disch := omega) only [↓g_in, ↓g_c0, ↓g_c1, ↓reduceIte, ↓y_lt, ↓y_q1, ↓y_q2, ↓sn_q3, ↓sn_t1l, ↓sn_t1r, ↓sn_t2l, ↓sn_t2r, y_q1, y_q2, sn_q3, sn_t1l, sn_t1r, sn_t2l, sn_t2r, nI_clamp, x_leT, x_leF, x_ltT, x_ltF, x_eqT, x_eqF, x_le0T, x_le0F, x_0leT, x_lt0F, x_0ltT, x_0ltF, x_eq0T, x_eq0F, x_le1T, x_le1F, x_1leT, x_1leF, x_1ltT, x_1ltF, x_lt1T, x_lt1F, x_eq1T, x_eq1F, x_m1F, nI_add, nI_1, sn_mul, x_sub, x_sub1, sn_m1, l2, l3, l4, l5, l6, l7, l8, l9, l10, l11, l12, l13, l14, l15, l20, l30, l40, l48, l60, l64, l99, l100, l700, l999, not_true_eq_false, not_false_eq_true, x_t0, x_t1, lts1, x_10, x_1sub, eq_self, Nat.reduceSub, Nat.reduceAdd, Nat.reduceMul, u3, r4, r5, r6, q3, Bool.false_eq_true]
    | some s =>
      have hs := hw0 s rfl
      have e : wwho (some s) = nI s := rfl
      have e3 : sng A (C 9 0) r (some s) = bt (ab A (C 9 0) r 0) s := rfl
      rw [e, e3]
      cases e2 : bt (ab A (C 9 0) r 0) s
      · simp (disch := omega) only [↓g_in, ↓g_c0, ↓g_c1, ↓reduceIte, ↓y_lt, ↓y_q1, ↓y_q2, ↓sn_q3, ↓sn_t1l, ↓sn_t1r, ↓sn_t2l, ↓sn_t2r, y_q1, y_q2, sn_q3, sn_t1l, sn_t1r, sn_t2l, sn_t2r, nI_clamp, x_leT, x_leF, x_ltT, x_ltF, x_eqT, x_eqF, x_le0T, x_le0F, x_0leT, x_lt0F, x_0ltT, x_0ltF, x_eq0T, x_eq0F, x_le1T, x_le1F, x_1leT, x_1leF, x_1ltT, x_1ltF, x_lt1T, x_lt1F, x_eq1T, x_eq1F, x_m1F, nI_add, nI_1, sn_mul, x_sub, x_sub1, sn_m1, l2, l3, l4, l5, l6, l7, l8, l9, l10, l11, l12, l13, l14, l15, l20, l30, l40, l48, l60, l64, l99, l100, l700, l999, not_true_eq_false, not_false_eq_true, x_t0, x_t1, lts1, x_10, x_1sub, eq_self, Nat.reduceSub, Nat.reduceAdd, Nat.reduceMul, u3, r4, r5, r6, q3, ↓q1_of (mo_so0 hw hm hst), e9, e2, Bool.false_eq_true]
      · simp (disch := omega) only [↓g_in, ↓g_c0, ↓g_c1, ↓reduceIte, ↓y_lt, ↓y_q1, ↓y_q2, ↓sn_q3, ↓sn_t1l, ↓sn_t1r, ↓sn_t2l, ↓sn_t2r, y_q1, y_q2, sn_q3, sn_t1l, sn_t1r, sn_t2l, sn_t2r, nI_clamp, x_leT, x_leF, x_ltT, x_ltF, x_eqT, x_eqF, x_le0T, x_le0F, x_0leT, x_lt0F, x_0ltT, x_0ltF, x_eq0T, x_eq0F, x_le1T, x_le1F, x_1leT, x_1leF, x_1ltT, x_1ltF, x_lt1T, x_lt1F, x_eq1T, x_eq1F, x_m1F, nI_add, nI_1, sn_mul, x_sub, x_sub1, sn_m1, l2, l3, l4, l5, l6, l7, l8, l9, l10, l11, l12, l13, l14, l15, l20, l30, l40, l48, l60, l64, l99, l100, l700, l999, not_true_eq_false, not_false_eq_true, x_t0, x_t1, lts1, x_10, x_1sub, eq_self, Nat.reduceSub, Nat.reduceAdd, Nat.reduceMul, u3, r4, r5, r6, q3, ↓q1_of (mo_so0 hw hm hst), e9, e2]
def hrA (A : sA) (C : sm_MI) (u s b : Nat) : Bool := al (hrd A C (C 9 0) (some s) b) u 0
def fli (A : sA) (C : sm_MI) (u s b : Nat) : Option Nat := if hrA A C u s (1 + b) then some (10 * s + (1 + b)) else none
def flo (A : sA) (C : sm_MI) (u s : Nat) : Option Nat := fx (fli A C u s) 5 0
def fln (A : sA) (C : sm_MI) (u s : Nat) : Nat := cn (fun b => hrA A C u s (1 + b)) 5
def fI : Option Nat → Int32
  | none => -1
  | some v => nI v
theorem fxo_none {γ : Type} {o : Option γ} : fxo o none = o := by cases o <;> rfl
theorem fxo_as {γ : Type} {a b c : Option γ} : fxo (fxo a b) c = fxo a (fxo b c) := by cases a <;> rfl
theorem q_flat (h : Rel A R t C M) (x : Int32) : ∃ r, F_VM_flat t x C = some r ∧ mq (F_Mo_flat x M) M (cv r) := by
  obtain ⟨M1, hM1, h0, h, hs⟩ := h.start
  have hw := h.wa
  have hc := h.ca
  have hm := h.ma
  have hn := hw.1
  unfold F_VM_flat F_Mo_flat
  rw [hM1]
  rcases ix_or x (n := 3) (by omega) with hx | ⟨w, hw3, rfl⟩
  · refine ⟨.inr 1, ?_, mq_t hs (v := 0) ?_⟩
    · rcases hx with h | h
      · rw [if_pos h]
      · rw [if_neg (ix_lt h (by omega)), if_neg (show ¬ x ≤ (2 : Int32) from ix_99 (n := 2) h (by omega))]
    · simp (disch := omega) only [↓g_in, ↓g_c0, ↓g_c1, ↓reduceIte, ↓y_lt, ↓y_q1, ↓y_q2, ↓sn_q3, ↓sn_t1l, ↓sn_t1r, ↓sn_t2l, ↓sn_t2r, y_q1, y_q2, sn_q3, sn_t1l, sn_t1r, sn_t2l, sn_t2r, nI_clamp, x_leT, x_leF, x_ltT, x_ltF, x_eqT, x_eqF, x_le0T, x_le0F, x_0leT, x_lt0F, x_0ltT, x_0ltF, x_eq0T, x_eq0F, x_le1T, x_le1F, x_1leT, x_1leF, x_1ltT, x_1ltF, x_lt1T, x_lt1F, x_eq1T, x_eq1F, x_m1F, nI_add, nI_1, sn_mul, x_sub, x_sub1, sn_m1, l2, l3, l4, l5, l6, l7, l8, l9, l10, l11, l12, l13, l14, l15, l20, l30, l40, l48, l60, l64, l99, l100, l700, l999, not_true_eq_false, not_false_eq_true, x_t0, x_t1, lts1, x_10, x_1sub, eq_self, Nat.reduceSub, Nat.reduceAdd, Nat.reduceMul, ↓q2_of (m_isW0 (y := 2) (n := 2) h0 hx (by omega) rfl)]
  · have hw2 := m_isW1 (M := M1) (s := w) (y := 2) (n := 2) h0 hw3 (by omega) rfl
    obtain ⟨u, u1, u2, c0⟩ := c_heard (w := none) (b := 0) h (fun s hs => by cases hs)
    have m0 := m_heard (w := none) (b := 0) h (fun s hs => by cases hs) u1 u2
    have cH : ∀ s b, s < A 0 0 → F_VM_allHeardIsSo t (b1 s) (nI b) C = some (if hrA A C u s b then 1 else 0) := fun s b hs => by
      obtain ⟨u', v1, v2, v3⟩ := c_heard (w := some s) (b := b) h (fun z hz => by cases hz; exact hs)
      have eu : u' = u := (nI_eq (by omega) (by omega)).mp (v2.symm.trans u2)
      subst eu
      exact v3
    have mH : ∀ s b, s < A 0 0 → F_Mo_isHeard (nI s) (nI b) M1 = some (if hrA A C u s b then 1 else 0) := fun s b hs => m_heard (w := some s) (b := b) h (fun z hz => by cases hz; exact hs) u1 u2
    by_cases hw22 : w = 2
    · subst hw22
      have c0 : F_VM_allHeardIsSo t 0 0 C = some (if al (hrd A C (C 9 0) none 0) u 0 then 1 else 0) := c0
      have m0 : F_Mo_isHeard (-1) 0 M1 = some (if al (hrd A C (C 9 0) none 0) u 0 then 1 else 0) := m0
      refine ⟨.inl (if al (hrd A C (C 9 0) none 0) u 0 then 1 else 0), ?_, mq_v (M' := M1) ?_ h0 hs⟩
      · simp (disch := omega) only [↓g_in, ↓g_c0, ↓g_c1, ↓reduceIte, ↓y_lt, ↓y_q1, ↓y_q2, ↓sn_q3, ↓sn_t1l, ↓sn_t1r, ↓sn_t2l, ↓sn_t2r, y_q1, y_q2, sn_q3, sn_t1l, sn_t1r, sn_t2l, sn_t2r, nI_clamp, x_leT, x_leF, x_ltT, x_ltF, x_eqT, x_eqF, x_le0T, x_le0F, x_0leT, x_lt0F, x_0ltT, x_0ltF, x_eq0T, x_eq0F, x_le1T, x_le1F, x_1leT, x_1leF, x_1ltT, x_1ltF, x_lt1T, x_lt1F, x_eq1T, x_eq1F, x_m1F, nI_add, nI_1, sn_mul, x_sub, x_sub1, sn_m1, l2, l3, l4, l5, l6, l7, l8, l9, l10, l11, l12, l13, l14, l15, l20, l30, l40, l48, l60, l64, l99, l100, l700, l999, not_true_eq_false, not_false_eq_true, x_t0, x_t1, lts1, x_10, x_1sub, eq_self, Nat.reduceSub, Nat.reduceAdd, Nat.reduceMul, ↓q1_of c0]
        cases al (hrd A C (C 9 0) none 0) u 0 <;> rfl
      · simp (disch := omega) only [↓g_in, ↓g_c0, ↓g_c1, ↓reduceIte, ↓y_lt, ↓y_q1, ↓y_q2, ↓sn_q3, ↓sn_t1l, ↓sn_t1r, ↓sn_t2l, ↓sn_t2r, y_q1, y_q2, sn_q3, sn_t1l, sn_t1r, sn_t2l, sn_t2r, nI_clamp, x_leT, x_leF, x_ltT, x_ltF, x_eqT, x_eqF, x_le0T, x_le0F, x_0leT, x_lt0F, x_0ltT, x_0ltF, x_eq0T, x_eq0F, x_le1T, x_le1F, x_1leT, x_1leF, x_1ltT, x_1ltF, x_lt1T, x_lt1F, x_eq1T, x_eq1F, x_m1F, nI_add, nI_1, sn_mul, x_sub, x_sub1, sn_m1, l2, l3, l4, l5, l6, l7, l8, l9, l10, l11, l12, l13, l14, l15, l20, l30, l40, l48, l60, l64, l99, l100, l700, l999, not_true_eq_false, not_false_eq_true, x_t0, x_t1, lts1, x_10, x_1sub, eq_self, Nat.reduceSub, Nat.reduceAdd, Nat.reduceMul, ↓q2_of hw2, ↓q1_of m0]
        cases al (hrd A C (C 9 0) none 0) u 0 <;> rfl
    · -- the model: how many, and the first
      have ml := lp_in (fun f j (z : Nat × Option Nat) => F_Mo_flat_28 f (nI w) (nI z.1) (fI z.2) j M1) (fun z => if w = 0 then some (nI z.1, M1) else some (fI z.2, M1)) (fun s z => (z.1 + fln A C u s, fxo z.2 (flo A C u s))) (fun s z => z.1 ≤ 5 * s ∧ ∀ v, z.2 = some v → v < 2 ^ 20) (A 0 0) (0, none) ⟨by omega, fun v hv => by cases hv⟩ (by omega) ?_ ?_
      · have ml : F_Mo_flat_28 sd_fu (nI w) 0 (-1) 0 M1 = _ := ml.1
        have ez : ∀ n, itr (fun s (z : Nat × Option Nat) => (z.1 + fln A C u s, fxo z.2 (flo A C u s))) n (0, none) = (sm (fln A C u) n, fx (flo A C u) n 0) := by
          intro n
          induction n with
          | zero => rfl
          | succ n ih => rw [itr, ih, sm, fx_snoc, Nat.zero_add]
        rw [ez] at ml
        by_cases hw0 : w = 0
        · subst hw0
          have cl := lp_in (fun f j z => F_VM_flat_26 t C f (nI 0) (nI z) j) (fun z => some (.inl (nI z))) (fun s z => z + fln A C u s) (fun _ _ => True) (A 0 0) 0 trivial (by omega) ?_ ?_
          · have cl := cl.1
            rw [itr_sm] at cl
            have cl : F_VM_flat_26 t C sd_fu (nI 0) 0 0 = _ := cl
            refine ⟨.inl (nI (sm (fln A C u) (A 0 0))), ?_, mq_v (M' := M1) ?_ h0 hs⟩
            · simp (disch := omega) only [↓g_in, ↓g_c0, ↓g_c1, ↓reduceIte, ↓y_lt, ↓y_q1, ↓y_q2, ↓sn_q3, ↓sn_t1l, ↓sn_t1r, ↓sn_t2l, ↓sn_t2r, y_q1, y_q2, sn_q3, sn_t1l, sn_t1r, sn_t2l, sn_t2r, nI_clamp, x_leT, x_leF, x_ltT, x_ltF, x_eqT, x_eqF, x_le0T, x_le0F, x_0leT, x_lt0F, x_0ltT, x_0ltF, x_eq0T, x_eq0F, x_le1T, x_le1F, x_1leT, x_1leF, x_1ltT, x_1ltF, x_lt1T, x_lt1F, x_eq1T, x_eq1F, x_m1F, nI_add, nI_1, sn_mul, x_sub, x_sub1, sn_m1, l2, l3, l4, l5, l6, l7, l8, l9, l10, l11, l12, l13, l14, l15, l20, l30, l40, l48, l60, l64, l99, l100, l700, l999, not_true_eq_false, not_false_eq_true, x_t0, x_t1, lts1, x_10, x_1sub, eq_self, Nat.reduceSub, Nat.reduceAdd, Nat.reduceMul]
              exact cl
            · simp (disch := omega) only [↓g_in, ↓g_c0, ↓g_c1, ↓reduceIte, ↓y_lt, ↓y_q1, ↓y_q2, ↓sn_q3, ↓sn_t1l, ↓sn_t1r, ↓sn_t2l, ↓sn_t2r, y_q1, y_q2, sn_q3, sn_t1l, sn_t1r, sn_t2l, sn_t2r, nI_clamp, x_leT, x_leF, x_ltT, x_ltF, x_eqT, x_eqF, x_le0T, x_le0F, x_0leT, x_lt0F, x_0ltT, x_0ltF, x_eq0T, x_eq0F, x_le1T, x_le1F, x_1leT, x_1leF, x_1ltT, x_1ltF, x_lt1T, x_lt1F, x_eq1T, x_eq1F, x_m1F, nI_add, nI_1, sn_mul, x_sub, x_sub1, sn_m1, l2, l3, l4, l5, l6, l7, l8, l9, l10, l11, l12, l13, l14, l15, l20, l30, l40, l48, l60, l64, l99, l100, l700, l999, not_true_eq_false, not_false_eq_true, x_t0, x_t1, lts1, x_10, x_1sub, eq_self, Nat.reduceSub, Nat.reduceAdd, Nat.reduceMul, ↓q2_of hw2]
              exact ml
          · intro f z _
            show F_VM_flat_26B t (F_VM_flat_26 t C f) (nI 0) (nI z) (nI (A 0 0)) C = _
            unfold F_VM_flat_26B
            simp (disch := omega) only [↓g_in, ↓g_c0, ↓g_c1, ↓reduceIte, ↓y_lt, ↓y_q1, ↓y_q2, ↓sn_q3, ↓sn_t1l, ↓sn_t1r, ↓sn_t2l, ↓sn_t2r, y_q1, y_q2, sn_q3, sn_t1l, sn_t1r, sn_t2l, sn_t2r, nI_clamp, x_leT, x_leF, x_ltT, x_ltF, x_eqT, x_eqF, x_le0T, x_le0F, x_0leT, x_lt0F, x_0ltT, x_0ltF, x_eq0T, x_eq0F, x_le1T, x_le1F, x_1leT, x_1leF, x_1ltT, x_1ltF, x_lt1T, x_lt1F, x_eq1T, x_eq1F, x_m1F, nI_add, nI_1, sn_mul, x_sub, x_sub1, sn_m1, l2, l3, l4, l5, l6, l7, l8, l9, l10, l11, l12, l13, l14, l15, l20, l30, l40, l48, l60, l64, l99, l100, l700, l999, not_true_eq_false, not_false_eq_true, x_t0, x_t1, lts1, x_10, x_1sub, eq_self, Nat.reduceSub, Nat.reduceAdd, Nat.reduceMul, hc.1]
          · intro f s z hs1 _
            refine ⟨trivial, ?_⟩
            have lq := lp_in (fun g j z => F_VM_flat_33 t (F_VM_flat_26 t C f) C g (nI 0) (nI z) (nI s) (nI 1 + j)) (fun z => F_VM_flat_26 t C f (nI 0) (nI z) (nI (s + 1))) (fun b z => if hrA A C u s (1 + b) then z + 1 else z) (fun b z' => z' = z + cn (fun b => hrA A C u s (1 + b)) b) 5 z rfl (by omega) ?_ ?_
            · obtain ⟨lq, ev⟩ := lq
              rw [ev] at lq
              show F_VM_flat_26B t (F_VM_flat_26 t C f) (nI 0) (nI z) (nI s) C = F_VM_flat_26 t C f (nI 0) (nI (z + fln A C u s)) (nI (s + 1))
              unfold F_VM_flat_26B
              simp (disch := omega) only [↓g_in, ↓g_c0, ↓g_c1, ↓reduceIte, ↓y_lt, ↓y_q1, ↓y_q2, ↓sn_q3, ↓sn_t1l, ↓sn_t1r, ↓sn_t2l, ↓sn_t2r, y_q1, y_q2, sn_q3, sn_t1l, sn_t1r, sn_t2l, sn_t2r, nI_clamp, x_leT, x_leF, x_ltT, x_ltF, x_eqT, x_eqF, x_le0T, x_le0F, x_0leT, x_lt0F, x_0ltT, x_0ltF, x_eq0T, x_eq0F, x_le1T, x_le1F, x_1leT, x_1leF, x_1ltT, x_1ltF, x_lt1T, x_lt1F, x_eq1T, x_eq1F, x_m1F, nI_add, nI_1, sn_mul, x_sub, x_sub1, sn_m1, l2, l3, l4, l5, l6, l7, l8, l9, l10, l11, l12, l13, l14, l15, l20, l30, l40, l48, l60, l64, l99, l100, l700, l999, not_true_eq_false, not_false_eq_true, x_t0, x_t1, lts1, x_10, x_1sub, eq_self, Nat.reduceSub, Nat.reduceAdd, Nat.reduceMul, hc.1]
              exact lq
            · intro g z _
              show F_VM_flat_33B t (F_VM_flat_26 t C f) (F_VM_flat_33 t (F_VM_flat_26 t C f) C g) (nI 0) (nI z) (nI s) (nI 1 + nI 5) C = _
              unfold F_VM_flat_33B
              simp (disch := omega) only [↓g_in, ↓g_c0, ↓g_c1, ↓reduceIte, ↓y_lt, ↓y_q1, ↓y_q2, ↓sn_q3, ↓sn_t1l, ↓sn_t1r, ↓sn_t2l, ↓sn_t2r, y_q1, y_q2, sn_q3, sn_t1l, sn_t1r, sn_t2l, sn_t2r, nI_clamp, x_leT, x_leF, x_ltT, x_ltF, x_eqT, x_eqF, x_le0T, x_le0F, x_0leT, x_lt0F, x_0ltT, x_0ltF, x_eq0T, x_eq0F, x_le1T, x_le1F, x_1leT, x_1leF, x_1ltT, x_1ltF, x_lt1T, x_lt1F, x_eq1T, x_eq1F, x_m1F, nI_add, nI_1, sn_mul, x_sub, x_sub1, sn_m1, l2, l3, l4, l5, l6, l7, l8, l9, l10, l11, l12, l13, l14, l15, l20, l30, l40, l48, l60, l64, l99, l100, l700, l999, not_true_eq_false, not_false_eq_true, x_t0, x_t1, lts1, x_10, x_1sub, eq_self, Nat.reduceSub, Nat.reduceAdd, Nat.reduceMul]
            · intro g b z' hb hz
              refine ⟨by rw [cn, hz]; split <;> omega, ?_⟩
              show F_VM_flat_33B t (F_VM_flat_26 t C f) (F_VM_flat_33 t (F_VM_flat_26 t C f) C g) (nI 0) (nI z') (nI s) (nI 1 + nI b) C = F_VM_flat_33 t (F_VM_flat_26 t C f) C g (nI 0) (nI (if hrA A C u s (1 + b) then z' + 1 else z')) (nI s) (nI 1 + nI (b + 1))
              unfold F_VM_flat_33B
              cases e : hrA A C u s (1 + b)
              · simp (disch := omega) only [↓g_in, ↓g_c0, ↓g_c1, ↓reduceIte, ↓y_lt, ↓y_q1, ↓y_q2, ↓sn_q3, ↓sn_t1l, ↓sn_t1r, ↓sn_t2l, ↓sn_t2r, y_q1, y_q2, sn_q3, sn_t1l, sn_t1r, sn_t2l, sn_t2r, nI_clamp, x_leT, x_leF, x_ltT, x_ltF, x_eqT, x_eqF, x_le0T, x_le0F, x_0leT, x_lt0F, x_0ltT, x_0ltF, x_eq0T, x_eq0F, x_le1T, x_le1F, x_1leT, x_1leF, x_1ltT, x_1ltF, x_lt1T, x_lt1F, x_eq1T, x_eq1F, x_m1F, nI_add, nI_1, sn_mul, x_sub, x_sub1, sn_m1, l2, l3, l4, l5, l6, l7, l8, l9, l10, l11, l12, l13, l14, l15, l20, l30, l40, l48, l60, l64, l99, l100, l700, l999, not_true_eq_false, not_false_eq_true, x_t0, x_t1, lts1, x_10, x_1sub, eq_self, Nat.reduceSub, Nat.reduceAdd, Nat.reduceMul, cH s (1 + b) hs1, e, Bool.false_eq_true, Nat.add_assoc]
              · simp (disch := omega) only [↓g_in, ↓g_c0, ↓g_c1, ↓reduceIte, ↓y_lt, ↓y_q1, ↓y_q2, ↓sn_q3, ↓sn_t1l, ↓sn_t1r, ↓sn_t2l, ↓sn_t2r, y_q1, y_q2, sn_q3, sn_t1l, sn_t1r, sn_t2l, sn_t2r, nI_clamp, x_leT, x_leF, x_ltT, x_ltF, x_eqT, x_eqF, x_le0T, x_le0F, x_0leT, x_lt0F, x_0ltT, x_0ltF, x_eq0T, x_eq0F, x_le1T, x_le1F, x_1leT, x_1leF, x_1ltT, x_1ltF, x_lt1T, x_lt1F, x_eq1T, x_eq1F, x_m1F, nI_add, nI_1, sn_mul, x_sub, x_sub1, sn_m1, l2, l3, l4, l5, l6, l7, l8, l9, l10, l11, l12, l13, l14, l15, l20, l30, l40, l48, l60, l64, l99, l100, l700, l999, not_true_eq_false, not_false_eq_true, x_t0, x_t1, lts1, x_10, x_1sub, eq_self, Nat.reduceSub, Nat.reduceAdd, Nat.reduceMul, cH s (1 + b) hs1, e, Nat.add_assoc]
        · have hw1 : w = 1 := by omega
          subst hw1
          have cl : F_VM_flat_26 t C sd_fu 1 0 (nI 0) = fxv (fx (flo A C u) (A 0 0) 0) (fun v => some (.inl (nI v))) (some (.inl (-1))) := by
            refine lp_fX (fun f j => F_VM_flat_26 t C f 1 0 j) (flo A C u) (fun v => some (.inl (nI v))) (some (.inl (-1))) (A 0 0) 0 (by omega) (by omega) ?_ ?_
            · intro f
              show F_VM_flat_26B t (F_VM_flat_26 t C f) 1 0 (nI (A 0 0)) C = _
              unfold F_VM_flat_26B
              simp (disch := omega) only [↓g_in, ↓g_c0, ↓g_c1, ↓reduceIte, ↓y_lt, ↓y_q1, ↓y_q2, ↓sn_q3, ↓sn_t1l, ↓sn_t1r, ↓sn_t2l, ↓sn_t2r, y_q1, y_q2, sn_q3, sn_t1l, sn_t1r, sn_t2l, sn_t2r, nI_clamp, x_leT, x_leF, x_ltT, x_ltF, x_eqT, x_eqF, x_le0T, x_le0F, x_0leT, x_lt0F, x_0ltT, x_0ltF, x_eq0T, x_eq0F, x_le1T, x_le1F, x_1leT, x_1leF, x_1ltT, x_1ltF, x_lt1T, x_lt1F, x_eq1T, x_eq1F, x_m1F, nI_add, nI_1, sn_mul, x_sub, x_sub1, sn_m1, l2, l3, l4, l5, l6, l7, l8, l9, l10, l11, l12, l13, l14, l15, l20, l30, l40, l48, l60, l64, l99, l100, l700, l999, not_true_eq_false, not_false_eq_true, x_t0, x_t1, lts1, x_10, x_1sub, eq_self, Nat.reduceSub, Nat.reduceAdd, Nat.reduceMul, hc.1]
            · intro f s _ hs1
              show F_VM_flat_26B t (F_VM_flat_26 t C f) 1 0 (nI s) C = fxv (flo A C u s) (fun v => some (.inl (nI v))) (F_VM_flat_26 t C f 1 0 (nI (s + 1)))
              unfold F_VM_flat_26B flo
              simp (disch := omega) only [↓g_in, ↓g_c0, ↓g_c1, ↓reduceIte, ↓y_lt, ↓y_q1, ↓y_q2, ↓sn_q3, ↓sn_t1l, ↓sn_t1r, ↓sn_t2l, ↓sn_t2r, y_q1, y_q2, sn_q3, sn_t1l, sn_t1r, sn_t2l, sn_t2r, nI_clamp, x_leT, x_leF, x_ltT, x_ltF, x_eqT, x_eqF, x_le0T, x_le0F, x_0leT, x_lt0F, x_0ltT, x_0ltF, x_eq0T, x_eq0F, x_le1T, x_le1F, x_1leT, x_1leF, x_1ltT, x_1ltF, x_lt1T, x_lt1F, x_eq1T, x_eq1F, x_m1F, nI_add, nI_1, sn_mul, x_sub, x_sub1, sn_m1, l2, l3, l4, l5, l6, l7, l8, l9, l10, l11, l12, l13, l14, l15, l20, l30, l40, l48, l60, l64, l99, l100, l700, l999, not_true_eq_false, not_false_eq_true, x_t0, x_t1, lts1, x_10, x_1sub, eq_self, Nat.reduceSub, Nat.reduceAdd, Nat.reduceMul, hc.1]
              have lq := lp_fX (fun g j => F_VM_flat_33 t (F_VM_flat_26 t C f) C g 1 0 (nI s) (nI 1 + j)) (fli A C u s) (fun v => some (.inl (nI v))) (F_VM_flat_26 t C f 1 0 (nI (s + 1))) 5 0 (by omega) (by omega) ?_ ?_
              · exact lq
              · intro g
                show F_VM_flat_33B t (F_VM_flat_26 t C f) (F_VM_flat_33 t (F_VM_flat_26 t C f) C g) 1 0 (nI s) (nI 1 + nI 5) C = _
                unfold F_VM_flat_33B
                simp (disch := omega) only [↓g_in, ↓g_c0, ↓g_c1, ↓reduceIte, ↓y_lt, ↓y_q1, ↓y_q2, ↓sn_q3, ↓sn_t1l, ↓sn_t1r, ↓sn_t2l, ↓sn_t2r, y_q1, y_q2, sn_q3, sn_t1l, sn_t1r, sn_t2l, sn_t2r, nI_clamp, x_leT, x_leF, x_ltT, x_ltF, x_eqT, x_eqF, x_le0T, x_le0F, x_0leT, x_lt0F, x_0ltT, x_0ltF, x_eq0T, x_eq0F, x_le1T, x_le1F, x_1leT, x_1leF, x_1ltT, x_1ltF, x_lt1T, x_lt1F, x_eq1T, x_eq1F, x_m1F, nI_add, nI_1, sn_mul, x_sub, x_sub1, sn_m1, l2, l3, l4, l5, l6, l7, l8, l9, l10, l11, l12, l13, l14, l15, l20, l30, l40, l48, l60, l64, l99, l100, l700, l999, not_true_eq_false, not_false_eq_true, x_t0, x_t1, lts1, x_10, x_1sub, eq_self, Nat.reduceSub, Nat.reduceAdd, Nat.reduceMul]
              · intro g b _ hb
                show F_VM_flat_33B t (F_VM_flat_26 t C f) (F_VM_flat_33 t (F_VM_flat_26 t C f) C g) 1 0 (nI s) (nI 1 + nI b) C = fxv (fli A C u s b) (fun v => some (.inl (nI v))) (F_VM_flat_33 t (F_VM_flat_26 t C f) C g 1 0 (nI s) (nI 1 + nI (b + 1)))
                unfold F_VM_flat_33B fli
                cases e : hrA A C u s (1 + b)
                · simp (disch := omega) only [↓g_in, ↓g_c0, ↓g_c1, ↓reduceIte, ↓y_lt, ↓y_q1, ↓y_q2, ↓sn_q3, ↓sn_t1l, ↓sn_t1r, ↓sn_t2l, ↓sn_t2r, y_q1, y_q2, sn_q3, sn_t1l, sn_t1r, sn_t2l, sn_t2r, nI_clamp, x_leT, x_leF, x_ltT, x_ltF, x_eqT, x_eqF, x_le0T, x_le0F, x_0leT, x_lt0F, x_0ltT, x_0ltF, x_eq0T, x_eq0F, x_le1T, x_le1F, x_1leT, x_1leF, x_1ltT, x_1ltF, x_lt1T, x_lt1F, x_eq1T, x_eq1F, x_m1F, nI_add, nI_1, sn_mul, x_sub, x_sub1, sn_m1, l2, l3, l4, l5, l6, l7, l8, l9, l10, l11, l12, l13, l14, l15, l20, l30, l40, l48, l60, l64, l99, l100, l700, l999, not_true_eq_false, not_false_eq_true, x_t0, x_t1, lts1, x_10, x_1sub, eq_self, Nat.reduceSub, Nat.reduceAdd, Nat.reduceMul, cH s (1 + b) hs1, e, Bool.false_eq_true, Nat.add_assoc]
                  rfl
                · simp (disch := omega) only [↓g_in, ↓g_c0, ↓g_c1, ↓reduceIte, ↓y_lt, ↓y_q1, ↓y_q2, ↓sn_q3, ↓sn_t1l, ↓sn_t1r, ↓sn_t2l, ↓sn_t2r, y_q1, y_q2, sn_q3, sn_t1l, sn_t1r, sn_t2l, sn_t2r, nI_clamp, x_leT, x_leF, x_ltT, x_ltF, x_eqT, x_eqF, x_le0T, x_le0F, x_0leT, x_lt0F, x_0ltT, x_0ltF, x_eq0T, x_eq0F, x_le1T, x_le1F, x_1leT, x_1leF, x_1ltT, x_1ltF, x_lt1T, x_lt1F, x_eq1T, x_eq1F, x_m1F, nI_add, nI_1, sn_mul, x_sub, x_sub1, sn_m1, l2, l3, l4, l5, l6, l7, l8, l9, l10, l11, l12, l13, l14, l15, l20, l30, l40, l48, l60, l64, l99, l100, l700, l999, not_true_eq_false, not_false_eq_true, x_t0, x_t1, lts1, x_10, x_1sub, eq_self, Nat.reduceSub, Nat.reduceAdd, Nat.reduceMul, cH s (1 + b) hs1, e, Nat.add_assoc]
                  rfl
          have cl : F_VM_flat_26 t C sd_fu 1 0 0 = _ := cl
          rw [if_neg hw0] at ml
          refine ⟨.inl (fI (fx (flo A C u) (A 0 0) 0)), ?_, mq_v (M' := M1) ?_ h0 hs⟩
          · have e1 : nI 1 = 1 := rfl
            rw [e1, if_neg (by decide), if_pos (by decide), if_pos (by decide), cl]
            cases fx (flo A C u) (A 0 0) 0 <;> rfl
          · simp (disch := omega) only [↓g_in, ↓g_c0, ↓g_c1, ↓reduceIte, ↓y_lt, ↓y_q1, ↓y_q2, ↓sn_q3, ↓sn_t1l, ↓sn_t1r, ↓sn_t2l, ↓sn_t2r, y_q1, y_q2, sn_q3, sn_t1l, sn_t1r, sn_t2l, sn_t2r, nI_clamp, x_leT, x_leF, x_ltT, x_ltF, x_eqT, x_eqF, x_le0T, x_le0F, x_0leT, x_lt0F, x_0ltT, x_0ltF, x_eq0T, x_eq0F, x_le1T, x_le1F, x_1leT, x_1leF, x_1ltT, x_1ltF, x_lt1T, x_lt1F, x_eq1T, x_eq1F, x_m1F, nI_add, nI_1, sn_mul, x_sub, x_sub1, sn_m1, l2, l3, l4, l5, l6, l7, l8, l9, l10, l11, l12, l13, l14, l15, l20, l30, l40, l48, l60, l64, l99, l100, l700, l999, not_true_eq_false, not_false_eq_true, x_t0, x_t1, lts1, x_10, x_1sub, eq_self, Nat.reduceSub, Nat.reduceAdd, Nat.reduceMul, ↓q2_of hw2]
            exact ml
      · intro f z hz
        show F_Mo_flat_28B (F_Mo_flat_28 f) (nI w) (nI z.1) (fI z.2) (nI (A 0 0)) M1 = _
        unfold F_Mo_flat_28B
        by_cases hw0 : w = 0
        · simp (disch := omega) only [↓g_in, ↓g_c0, ↓g_c1, ↓reduceIte, ↓y_lt, ↓y_q1, ↓y_q2, ↓sn_q3, ↓sn_t1l, ↓sn_t1r, ↓sn_t2l, ↓sn_t2r, y_q1, y_q2, sn_q3, sn_t1l, sn_t1r, sn_t2l, sn_t2r, nI_clamp, x_leT, x_leF, x_ltT, x_ltF, x_eqT, x_eqF, x_le0T, x_le0F, x_0leT, x_lt0F, x_0ltT, x_0ltF, x_eq0T, x_eq0F, x_le1T, x_le1F, x_1leT, x_1leF, x_1ltT, x_1ltF, x_lt1T, x_lt1F, x_eq1T, x_eq1F, x_m1F, nI_add, nI_1, sn_mul, x_sub, x_sub1, sn_m1, l2, l3, l4, l5, l6, l7, l8, l9, l10, l11, l12, l13, l14, l15, l20, l30, l40, l48, l60, l64, l99, l100, l700, l999, not_true_eq_false, not_false_eq_true, x_t0, x_t1, lts1, x_10, x_1sub, eq_self, Nat.reduceSub, Nat.reduceAdd, Nat.reduceMul, hm.1, hw0]
        · simp (disch := omega) only [↓g_in, ↓g_c0, ↓g_c1, ↓reduceIte, ↓y_lt, ↓y_q1, ↓y_q2, ↓sn_q3, ↓sn_t1l, ↓sn_t1r, ↓sn_t2l, ↓sn_t2r, y_q1, y_q2, sn_q3, sn_t1l, sn_t1r, sn_t2l, sn_t2r, nI_clamp, x_leT, x_leF, x_ltT, x_ltF, x_eqT, x_eqF, x_le0T, x_le0F, x_0leT, x_lt0F, x_0ltT, x_0ltF, x_eq0T, x_eq0F, x_le1T, x_le1F, x_1leT, x_1leF, x_1ltT, x_1ltF, x_lt1T, x_lt1F, x_eq1T, x_eq1F, x_m1F, nI_add, nI_1, sn_mul, x_sub, x_sub1, sn_m1, l2, l3, l4, l5, l6, l7, l8, l9, l10, l11, l12, l13, l14, l15, l20, l30, l40, l48, l60, l64, l99, l100, l700, l999, not_true_eq_false, not_false_eq_true, x_t0, x_t1, lts1, x_10, x_1sub, eq_self, Nat.reduceSub, Nat.reduceAdd, Nat.reduceMul, hm.1, hw0]
      · intro f s z hs1 hz
        have lq := lp_in (fun g j (z : Nat × Option Nat) => F_Mo_flat_34 (F_Mo_flat_28 f) g (nI w) (nI z.1) (fI z.2) (nI s) (nI 1 + j) M1) (fun z => F_Mo_flat_28 f (nI w) (nI z.1) (fI z.2) (nI (s + 1)) M1) (fun b z => (if hrA A C u s (1 + b) then z.1 + 1 else z.1, fxo z.2 (fli A C u s b))) (fun b z' => z'.1 = z.1 + cn (fun b => hrA A C u s (1 + b)) b ∧ z'.2 = fxo z.2 (fx (fli A C u s) b 0) ∧ ∀ v, z'.2 = some v → v < 2 ^ 20) 5 z ⟨rfl, fxo_none.symm, hz.2⟩ (by omega) ?_ ?_
        · obtain ⟨lq, ev1, ev2, ev3⟩ := lq
          have ez : itr (fun b (z : Nat × Option Nat) => (if hrA A C u s (1 + b) then z.1 + 1 else z.1, fxo z.2 (fli A C u s b))) 5 z = (z.1 + fln A C u s, fxo z.2 (flo A C u s)) := Prod.ext ev1 ev2
          rw [ez] at lq ev3
          have hl : fln A C u s ≤ 5 := cn_le _ _
          refine ⟨⟨by show z.1 + _ ≤ _; omega, ev3⟩, ?_⟩
          show F_Mo_flat_28B (F_Mo_flat_28 f) (nI w) (nI z.1) (fI z.2) (nI s) M1 = _
          unfold F_Mo_flat_28B
          simp (disch := omega) only [↓g_in, ↓g_c0, ↓g_c1, ↓reduceIte, ↓y_lt, ↓y_q1, ↓y_q2, ↓sn_q3, ↓sn_t1l, ↓sn_t1r, ↓sn_t2l, ↓sn_t2r, y_q1, y_q2, sn_q3, sn_t1l, sn_t1r, sn_t2l, sn_t2r, nI_clamp, x_leT, x_leF, x_ltT, x_ltF, x_eqT, x_eqF, x_le0T, x_le0F, x_0leT, x_lt0F, x_0ltT, x_0ltF, x_eq0T, x_eq0F, x_le1T, x_le1F, x_1leT, x_1leF, x_1ltT, x_1ltF, x_lt1T, x_lt1F, x_eq1T, x_eq1F, x_m1F, nI_add, nI_1, sn_mul, x_sub, x_sub1, sn_m1, l2, l3, l4, l5, l6, l7, l8, l9, l10, l11, l12, l13, l14, l15, l20, l30, l40, l48, l60, l64, l99, l100, l700, l999, not_true_eq_false, not_false_eq_true, x_t0, x_t1, lts1, x_10, x_1sub, eq_self, Nat.reduceSub, Nat.reduceAdd, Nat.reduceMul, hm.1]
          exact lq
        · intro g z _
          show F_Mo_flat_34B (F_Mo_flat_28 f) (F_Mo_flat_34 (F_Mo_flat_28 f) g) (nI w) (nI z.1) (fI z.2) (nI s) (nI 1 + nI 5) M1 = _
          unfold F_Mo_flat_34B
          simp (disch := omega) only [↓g_in, ↓g_c0, ↓g_c1, ↓reduceIte, ↓y_lt, ↓y_q1, ↓y_q2, ↓sn_q3, ↓sn_t1l, ↓sn_t1r, ↓sn_t2l, ↓sn_t2r, y_q1, y_q2, sn_q3, sn_t1l, sn_t1r, sn_t2l, sn_t2r, nI_clamp, x_leT, x_leF, x_ltT, x_ltF, x_eqT, x_eqF, x_le0T, x_le0F, x_0leT, x_lt0F, x_0ltT, x_0ltF, x_eq0T, x_eq0F, x_le1T, x_le1F, x_1leT, x_1leF, x_1ltT, x_1ltF, x_lt1T, x_lt1F, x_eq1T, x_eq1F, x_m1F, nI_add, nI_1, sn_mul, x_sub, x_sub1, sn_m1, l2, l3, l4, l5, l6, l7, l8, l9, l10, l11, l12, l13, l14, l15, l20, l30, l40, l48, l60, l64, l99, l100, l700, l999, not_true_eq_false, not_false_eq_true, x_t0, x_t1, lts1, x_10, x_1sub, eq_self, Nat.reduceSub, Nat.reduceAdd, Nat.reduceMul]
        · intro g b z' hb hz'
          obtain ⟨g1, g2, g3⟩ := hz'
          have hlb : ∀ v, fxo z'.2 (fli A C u s b) = some v → v < 2 ^ 20 := fun v hv => by
            cases e : z'.2 with
            | some v' =>
              rw [e] at hv
              cases hv
              exact g3 v e
            | none =>
              rw [e] at hv
              have hv : fli A C u s b = some v := hv
              unfold fli at hv
              split at hv
              · cases hv; omega
              · cases hv
          refine ⟨⟨by rw [cn, ← Nat.add_assoc, ← g1]; show (if _ then _ else _) = _; split <;> rfl, by show fxo z'.2 (fli A C u s b) = _; rw [g2, fxo_as, fx_snoc, Nat.zero_add], hlb⟩, ?_⟩
          show F_Mo_flat_34B (F_Mo_flat_28 f) (F_Mo_flat_34 (F_Mo_flat_28 f) g) (nI w) (nI z'.1) (fI z'.2) (nI s) (nI 1 + nI b) M1 = F_Mo_flat_34 (F_Mo_flat_28 f) g (nI w) (nI (if hrA A C u s (1 + b) then z'.1 + 1 else z'.1)) (fI (fxo z'.2 (fli A C u s b))) (nI s) (nI 1 + nI (b + 1)) M1
          unfold F_Mo_flat_34B fli
          cases e : hrA A C u s (1 + b)
          · simp (disch := omega) only [↓g_in, ↓g_c0, ↓g_c1, ↓reduceIte, ↓y_lt, ↓y_q1, ↓y_q2, ↓sn_q3, ↓sn_t1l, ↓sn_t1r, ↓sn_t2l, ↓sn_t2r, y_q1, y_q2, sn_q3, sn_t1l, sn_t1r, sn_t2l, sn_t2r, nI_clamp, x_leT, x_leF, x_ltT, x_ltF, x_eqT, x_eqF, x_le0T, x_le0F, x_0leT, x_lt0F, x_0ltT, x_0ltF, x_eq0T, x_eq0F, x_le1T, x_le1F, x_1leT, x_1leF, x_1ltT, x_1ltF, x_lt1T, x_lt1F, x_eq1T, x_eq1F, x_m1F, nI_add, nI_1, sn_mul, x_sub, x_sub1, sn_m1, l2, l3, l4, l5, l6, l7, l8, l9, l10, l11, l12, l13, l14, l15, l20, l30, l40, l48, l60, l64, l99, l100, l700, l999, not_true_eq_false, not_false_eq_true, x_t0, x_t1, lts1, x_10, x_1sub, eq_self, Nat.reduceSub, Nat.reduceAdd, Nat.reduceMul, mH s (1 + b) hs1, e, Bool.false_eq_true, Nat.add_assoc, fxo_none]
          · cases e2 : z'.2 with
            | none =>
              have e3 : fI none = -1 := rfl
              have e4 : fI (fxo none (some (10 * s + (1 + b)))) = nI (10 * s + (1 + b)) := rfl
              simp (disch := omega) only [↓g_in, ↓g_c0, ↓g_c1, ↓reduceIte, ↓y_lt, ↓y_q1, ↓y_q2, ↓sn_q3, ↓sn_t1l, ↓sn_t1r, ↓sn_t2l, ↓sn_t2r, y_q1, y_q2, sn_q3, sn_t1l, sn_t1r, sn_t2l, sn_t2r, nI_clamp, x_leT, x_leF, x_ltT, x_ltF, x_eqT, x_eqF, x_le0T, x_le0F, x_0leT, x_lt0F, x_0ltT, x_0ltF, x_eq0T, x_eq0F, x_le1T, x_le1F, x_1leT, x_1leF, x_1ltT, x_1ltF, x_lt1T, x_lt1F, x_eq1T, x_eq1F, x_m1F, nI_add, nI_1, sn_mul, x_sub, x_sub1, sn_m1, l2, l3, l4, l5, l6, l7, l8, l9, l10, l11, l12, l13, l14, l15, l20, l30, l40, l48, l60, l64, l99, l100, l700, l999, not_true_eq_false, not_false_eq_true, x_t0, x_t1, lts1, x_10, x_1sub, eq_self, Nat.reduceSub, Nat.reduceAdd, Nat.reduceMul, mH s (1 + b) hs1, e, e3, e4, Nat.add_assoc]
            | some v =>
              have hv := g3 v e2
              have e3 : fI (some v) = nI v := rfl
              have e4 : fI (fxo (some v) (some (10 * s + (1 + b)))) = nI v := rfl
              simp (disch := omega) only [↓g_in, ↓g_c0, ↓g_c1, ↓reduceIte, ↓y_lt, ↓y_q1, ↓y_q2, ↓sn_q3, ↓sn_t1l, ↓sn_t1r, ↓sn_t2l, ↓sn_t2r, y_q1, y_q2, sn_q3, sn_t1l, sn_t1r, sn_t2l, sn_t2r, nI_clamp, x_leT, x_leF, x_ltT, x_ltF, x_eqT, x_eqF, x_le0T, x_le0F, x_0leT, x_lt0F, x_0ltT, x_0ltF, x_eq0T, x_eq0F, x_le1T, x_le1F, x_1leT, x_1leF, x_1ltT, x_1ltF, x_lt1T, x_lt1F, x_eq1T, x_eq1F, x_m1F, nI_add, nI_1, sn_mul, x_sub, x_sub1, sn_m1, l2, l3, l4, l5, l6, l7, l8, l9, l10, l11, l12, l13, l14, l15, l20, l30, l40, l48, l60, l64, l99, l100, l700, l999, not_true_eq_false, not_false_eq_true, x_t0, x_t1, lts1, x_10, x_1sub, eq_self, Nat.reduceSub, Nat.reduceAdd, Nat.reduceMul, mH s (1 + b) hs1, e, e3, e4, Nat.add_assoc]
end QU
