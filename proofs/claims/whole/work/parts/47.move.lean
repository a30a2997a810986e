/-! ===== transposed, to widen ===== -/
theorem fxv_al {β : Type} {p : Nat → Bool} {V K : Option β} : ∀ {m j : Nat}, fxv (fx (fun i => if p i then none else some ()) m j) (fun _ => V) K = if al p m j then K else V
  | 0, _ => rfl
  | m + 1, j => by
    rw [fx, al]
    cases p j
    · rfl
    · simp only [↓reduceIte, Bool.true_and]; exact fxv_al
/-- all notes of a row are on the scale -/
def osr (A : sA) (u : Int) (r : Nat) : Bool := al (fun i => decide ((0 : Int) ≤ A 8 (12 * r + i) + u) && decide ((A 8 (12 * r + i) : Int) + u ≤ 48)) (A 7 r) 0
def osp (A : sA) (p : Nat) (u : Int) : Bool := al (osr A u) 4 (4 * p)
def tro (A : sA) (x : Int32) (p : Nat) (v : Int32) : Bool := osp A p v.toInt && cs A x p v.toInt
theorem le_ti {a : Nat} {x : Int32} (ha : a < 2 ^ 31) : (nI a ≤ x) = ((a : Int) ≤ x.toInt) := by rw [Int32.le_iff_toInt_le, nI_toInt ha]
theorem ti_le {a : Nat} {x : Int32} (ha : a < 2 ^ 31) : (x ≤ nI a) = (x.toInt ≤ (a : Int)) := by rw [Int32.le_iff_toInt_le, nI_toInt ha]
section QU
variable {A : sA} {R : Nat → List Nat} {t : Nat} {C M : sm_MI}
theorem m_onScale (hw : wA A) (hm : mA A M) {p : Nat} {v : Int32} (hp : p < 5) (hv : -1000 ≤ v.toInt ∧ v.toInt ≤ 1000) : F_Mo_isOnScale (nI p) v M = some (if osp A p v.toInt then 1 else 0) := by
  unfold F_Mo_isOnScale
  simp (disch := omega) only [↓g_in, ↓g_c0, ↓g_c1, ↓reduceIte, ↓y_lt, ↓y_q1, ↓y_q2, ↓sn_q3, ↓sn_t1l, ↓sn_t1r, ↓sn_t2l, ↓sn_t2r, y_q1, y_q2, sn_q3, sn_t1l, sn_t1r, sn_t2l, sn_t2r, nI_clamp, x_leT, x_leF, x_ltT, x_ltF, x_eqT, x_eqF, x_le0T, x_le0F, x_0leT, x_lt0F, x_0ltT, x_0ltF, x_eq0T, x_eq0F, x_le1T, x_le1F, x_1leT, x_1leF, x_1ltT, x_1ltF, x_lt1T, x_lt1F, x_eq1T, x_eq1F, x_m1F, nI_add, nI_1, sn_mul, x_sub, x_sub1, sn_m1, l2, l3, l4, l5, l6, l7, l8, l9, l10, l11, l12, l13, l14, l15, l20, l30, l40, l48, l60, l64, l99, l100, l700, l999, not_true_eq_false, not_false_eq_true, x_t0, x_t1, lts1, x_10, x_1sub, eq_self, Nat.reduceSub, Nat.reduceAdd, Nat.reduceMul]
  have lp := lp_fX (fun f j => F_Mo_isOnScale_4 M f (nI p) v j) (fun r => if osr A v.toInt r then none else some ()) (fun _ => some 0) (some 1) (4 * p + 4) (4 * p) (by omega) (by omega) ?_ ?_
  · rw [lp, fxv_al, show 4 * p + 4 - 4 * p = 4 by omega]
    unfold osp
    split <;> rfl
  · intro f
    show F_Mo_isOnScale_4B (F_Mo_isOnScale_4 M f) (nI p) v (nI (4 * p + 4)) M = _
    unfold F_Mo_isOnScale_4B
    simp (disch := omega) only [↓g_in, ↓g_c0, ↓g_c1, ↓reduceIte, ↓y_lt, ↓y_q1, ↓y_q2, ↓sn_q3, ↓sn_t1l, ↓sn_t1r, ↓sn_t2l, ↓sn_t2r, y_q1, y_q2, sn_q3, sn_t1l, sn_t1r, sn_t2l, sn_t2r, nI_clamp, x_leT, x_leF, x_ltT, x_ltF, x_eqT, x_eqF, x_le0T, x_le0F, x_0leT, x_lt0F, x_0ltT, x_0ltF, x_eq0T, x_eq0F, x_le1T, x_le1F, x_1leT, x_1leF, x_1ltT, x_1ltF, x_lt1T, x_lt1F, x_eq1T, x_eq1F, x_m1F, nI_add, nI_1, sn_mul, x_sub, x_sub1, sn_m1, l2, l3, l4, l5, l6, l7, l8, l9, l10, l11, l12, l13, l14, l15, l20, l30, l40, l48, l60, l64, l99, l100, l700, l999, not_true_eq_false, not_false_eq_true, x_t0, x_t1, lts1, x_10, x_1sub, eq_self, Nat.reduceSub, Nat.reduceAdd, Nat.reduceMul]
  · intro f r _ hr
    have hr2 : r < 20 := by omega
    obtain ⟨q1, q2⟩ := hm.2.2.2.2 r hr2
    obtain ⟨v1, v2, v3, v4⟩ := hw.2.2.2.2.2 r hr2
    have h12 := A7_le hw hr2
    have hno := m_notesOf (r := r) hw hm hr2
    show F_Mo_isOnScale_4B (F_Mo_isOnScale_4 M f) (nI p) v (nI r) M = fxv (if osr A v.toInt r then none else some ()) (fun _ => some 0) (F_Mo_isOnScale_4 M f (nI p) v (nI (r + 1)))
    unfold F_Mo_isOnScale_4B
    simp (disch := omega) only [↓g_in, ↓g_c0, ↓g_c1, ↓reduceIte, ↓y_lt, ↓y_q1, ↓y_q2, ↓sn_q3, ↓sn_t1l, ↓sn_t1r, ↓sn_t2l, ↓sn_t2r, y_q1, y_q2, sn_q3, sn_t1l, sn_t1r, sn_t2l, sn_t2r, nI_clamp, x_leT, x_leF, x_ltT, x_ltF, x_eqT, x_eqF, x_le0T, x_le0F, x_0leT, x_lt0F, x_0ltT, x_0ltF, x_eq0T, x_eq0F, x_le1T, x_le1F, x_1leT, x_1leF, x_1ltT, x_1ltF, x_lt1T, x_lt1F, x_eq1T, x_eq1F, x_m1F, nI_add, nI_1, sn_mul, x_sub, x_sub1, sn_m1, l2, l3, l4, l5, l6, l7, l8, l9, l10, l11, l12, l13, l14, l15, l20, l30, l40, l48, l60, l64, l99, l100, l700, l999, not_true_eq_false, not_false_eq_true, x_t0, x_t1, lts1, x_10, x_1sub, eq_self, Nat.reduceSub, Nat.reduceAdd, Nat.reduceMul]
    have lq := lp_fX (fun g i => F_Mo_isOnScale_13 (F_Mo_isOnScale_4 M f) M g (nI p) v (nI r) i) (fun i => if (decide ((0 : Int) ≤ A 8 (12 * r + i) + v.toInt) && decide ((A 8 (12 * r + i) : Int) + v.toInt ≤ 48)) then none else some ()) (fun _ => some 0) (F_Mo_isOnScale_4 M f (nI p) v (nI (r + 1))) (A 7 r) 0 (by omega) (by omega) ?_ ?_
    · have lq : F_Mo_isOnScale_13 (F_Mo_isOnScale_4 M f) M sd_fu (nI p) v (nI r) 0 = _ := lq
      rw [lq, fxv_al, Nat.sub_zero]
      unfold osr
      split <;> rfl
    · intro g
      show F_Mo_isOnScale_13B (F_Mo_isOnScale_4 M f) (F_Mo_isOnScale_13 (F_Mo_isOnScale_4 M f) M g) (nI p) v (nI r) (nI (A 7 r)) M = _
      unfold F_Mo_isOnScale_13B
      simp (disch := omega) only [↓g_in, ↓g_c0, ↓g_c1, ↓reduceIte, ↓y_lt, ↓y_q1, ↓y_q2, ↓sn_q3, ↓sn_t1l, ↓sn_t1r, ↓sn_t2l, ↓sn_t2r, y_q1, y_q2, sn_q3, sn_t1l, sn_t1r, sn_t2l, sn_t2r, nI_clamp, x_leT, x_leF, x_ltT, x_ltF, x_eqT, x_eqF, x_le0T, x_le0F, x_0leT, x_lt0F, x_0ltT, x_0ltF, x_eq0T, x_eq0F, x_le1T, x_le1F, x_1leT, x_1leF, x_1ltT, x_1ltF, x_lt1T, x_lt1F, x_eq1T, x_eq1F, x_m1F, nI_add, nI_1, sn_mul, x_sub, x_sub1, sn_m1, l2, l3, l4, l5, l6, l7, l8, l9, l10, l11, l12, l13, l14, l15, l20, l30, l40, l48, l60, l64, l99, l100, l700, l999, not_true_eq_false, not_false_eq_true, x_t0, x_t1, lts1, x_10, x_1sub, eq_self, Nat.reduceSub, Nat.reduceAdd, Nat.reduceMul, hno]
    · intro g i _ hi
      have e6 : 0 < A 6 r := by
        rcases Nat.eq_zero_or_pos (A 6 r) with e | e
        · rw [v2 e] at hi; omega
        · exact e
      have e7 := (q2 e6).2 i hi
      have e8 := v4 i hi
      show F_Mo_isOnScale_13B (F_Mo_isOnScale_4 M f) (F_Mo_isOnScale_13 (F_Mo_isOnScale_4 M f) M g) (nI p) v (nI r) (nI i) M = fxv (if (decide ((0 : Int) ≤ A 8 (12 * r + i) + v.toInt) && decide ((A 8 (12 * r + i) : Int) + v.toInt ≤ 48)) then none else some ()) (fun _ => some 0) (F_Mo_isOnScale_13 (F_Mo_isOnScale_4 M f) M g (nI p) v (nI r) (nI (i + 1)))
      unfold F_Mo_isOnScale_13B
      have e9 : (0 : Int32) ≤ nI (A 8 (12 * r + i)) + v ∧ nI (A 8 (12 * r + i)) + v ≤ nI 48 ↔ (decide ((0 : Int) ≤ A 8 (12 * r + i) + v.toInt) && decide ((A 8 (12 * r + i) : Int) + v.toInt ≤ 48)) = true := by
        rw [Int32.le_iff_toInt_le, Int32.le_iff_toInt_le, sn_ai (by omega) hv, nI_toInt (by omega), Bool.and_eq_true, decide_eq_true_eq, decide_eq_true_eq]
        rfl
      by_cases e10 : (decide ((0 : Int) ≤ A 8 (12 * r + i) + v.toInt) && decide ((A 8 (12 * r + i) : Int) + v.toInt ≤ 48)) = true
      · have e11 := e9.mpr e10
        simp (disch := omega) only [↓g_in, ↓g_c0, ↓g_c1, ↓reduceIte, ↓y_lt, ↓y_q1, ↓y_q2, ↓sn_q3, ↓sn_t1l, ↓sn_t1r, ↓sn_t2l, ↓sn_t2r, y_q1, y_q2, sn_q3, sn_t1l, sn_t1r, sn_t2l, sn_t2r, nI_clamp, x_leT, x_leF, x_ltT, x_ltF, x_eqT, x_eqF, x_le0T, x_le0F, x_0leT, x_lt0F, x_0ltT, x_0ltF, x_eq0T, x_eq0F, x_le1T, x_le1F, x_1leT, x_1leF, x_1ltT, x_1ltF, x_lt1T, x_lt1F, x_eq1T, x_eq1F, x_m1F, nI_add, nI_1, sn_mul, x_sub, x_sub1, sn_m1, l2, l3, l4, l5, l6, l7, l8, l9, l10, l11, l12, l13, l14, l15, l20, l30, l40, l48, l60, l64, l99, l100, l700, l999, not_true_eq_false, not_false_eq_true, x_t0, x_t1, lts1, x_10, x_1sub, eq_self, Nat.reduceSub, Nat.reduceAdd, Nat.reduceMul, hno, e7, mo_within, e11, and_self, e10]
        rfl
      · have e11 : ((0 : Int32) ≤ nI (A 8 (12 * r + i)) + v ∧ nI (A 8 (12 * r + i)) + v ≤ nI 48) = False := eq_false (fun z => e10 (e9.mp z))
        simp (disch := omega) only [↓g_in, ↓g_c0, ↓g_c1, ↓reduceIte, ↓y_lt, ↓y_q1, ↓y_q2, ↓sn_q3, ↓sn_t1l, ↓sn_t1r, ↓sn_t2l, ↓sn_t2r, y_q1, y_q2, sn_q3, sn_t1l, sn_t1r, sn_t2l, sn_t2r, nI_clamp, x_leT, x_leF, x_ltT, x_ltF, x_eqT, x_eqF, x_le0T, x_le0F, x_0leT, x_lt0F, x_0ltT, x_0ltF, x_eq0T, x_eq0F, x_le1T, x_le1F, x_1leT, x_1leF, x_1ltT, x_1ltF, x_lt1T, x_lt1F, x_eq1T, x_eq1F, x_m1F, nI_add, nI_1, sn_mul, x_sub, x_sub1, sn_m1, l2, l3, l4, l5, l6, l7, l8, l9, l10, l11, l12, l13, l14, l15, l20, l30, l40, l48, l60, l64, l99, l100, l700, l999, not_true_eq_false, not_false_eq_true, x_t0, x_t1, lts1, x_10, x_1sub, eq_self, Nat.reduceSub, Nat.reduceAdd, Nat.reduceMul, hno, e7, mo_within, e11, e10, Bool.false_eq_true]
        rfl
theorem reach_u (hw : wA A) (hc : cA A t C) {x v : Int32} {p j lo hi : Nat} (hp : p < 5) (hj : j < 4) (hn : 0 < A 6 (4 * p + j)) (hv : -1000 ≤ v.toInt ∧ v.toInt ≤ 1000) (h48 : hi ≤ 48) (hlh : lo ≤ hi) (h1 : ∀ i, i < A 7 (4 * p + j) → lo ≤ A 8 (12 * (4 * p + j) + i) ∧ A 8 (12 * (4 * p + j) + i) ≤ hi) (h2 : ∃ i, i < A 7 (4 * p + j) ∧ A 8 (12 * (4 * p + j) + i) = lo) (h3 : ∃ i, i < A 7 (4 * p + j) ∧ A 8 (12 * (4 * p + j) + i) = hi) :
    F_Valley_reaching t (pt A j &&& x) (nI lo + v) (nI hi + v) C = some (ab A x (4 * p + j) v.toInt) := by
  have hn14 := hw.1
  rw [c_reaching (A := A)]
  unfold ab
  congr 1
  refine bs_congr (fun s hs => ?_)
  rw [b_and, bt_pt hw]
  by_cases hsn : s < A 0 0
  · obtain ⟨-, d2, d3, d4, -⟩ := hc.2.2.2.1 s hsn
    obtain ⟨-, g2, g3, g4, -⟩ := hw.2.2.2.2.1 s hsn
    rw [decide_eq_true hsn, Bool.true_and, d3, d4]
    unfold fu
    rw [decide_eq_true hsn, decide_eq_true hn, Bool.true_and, Bool.true_and, show (4 * p + j) % 4 = j by omega]
    have key : (decide (nI (A 3 s) ≤ nI lo + v) && decide (nI hi + v ≤ nI (A 4 s))) = (List.range (A 7 (4 * p + j))).all fun i => decide ((A 3 s : Int) ≤ A 8 (12 * (4 * p + j) + i) + v.toInt) && decide ((A 8 (12 * (4 * p + j) + i) : Int) + v.toInt ≤ A 4 s) := by
      rw [Bool.eq_iff_iff, Bool.and_eq_true, decide_eq_true_eq, decide_eq_true_eq, le_ti (by omega), ti_le (by omega), sn_ai (by omega) hv, sn_ai (by omega) hv, List.all_eq_true]
      constructor
      · intro h i hi
        have := h1 i (List.mem_range.mp hi)
        rw [Bool.and_eq_true, decide_eq_true_eq, decide_eq_true_eq]
        omega
      · intro h
        obtain ⟨a, a1, a2⟩ := h2
        obtain ⟨b, b1, b2⟩ := h3
        have ha := h a (List.mem_range.mpr a1)
        have hb := h b (List.mem_range.mpr b1)
        rw [Bool.and_eq_true, decide_eq_true_eq, decide_eq_true_eq] at ha hb
        rw [a2] at ha
        rw [b2] at hb
        exact ⟨ha.1, hb.2⟩
    rw [← key, Bool.and_assoc]
    cases bt x s <;> cases decide (A 2 s = j) <;> rfl
  · rw [decide_eq_false hsn, fu_n (by omega), Bool.and_false]
    rfl
theorem c_at (hw : wA A) (hc : cA A t C) {x v : Int32} {p : Nat} (hp : p < 5) (hv : -1000 ≤ v.toInt ∧ v.toInt ≤ 1000) : F_Choir_canBeSungAt t x (nI p) v C = some (if tro A x p v then 1 else 0) := by
  have h := lp_gen (fun f j a => F_Choir_canBeSungAt_4 t C f x (nI p) v a j) (fun j a => if decide (A 6 (4 * p + j) = 0) then .inl a else if (decide (A 6 (4 * p + j) = 0) || (osr A v.toInt (4 * p + j) && decide (A 6 (4 * p + j) ≤ pc (ab A x (4 * p + j) v.toInt)))) then .inl 1 else .inr 0) (fun a => vp_nar .boolean a) 4 (fun _ _ => True) ?_ ?_ 4 0 sd_fu 0 (by omega) (by rw [sd_fu_val]; omega) trivial
  · have e := lpr_cs (z := fun j => decide (A 6 (4 * p + j) = 0)) (b := fun j => decide (A 6 (4 * p + j) = 0) || (osr A v.toInt (4 * p + j) && decide (A 6 (4 * p + j) ≤ pc (ab A x (4 * p + j) v.toInt)))) (fun i hi => by rw [hi]; rfl) (m := 4) (j := 0) (a := false)
    rw [if_neg (by decide)] at e
    rw [e, al_shift (p := fun r => decide (A 6 r = 0) || (osr A v.toInt r && decide (A 6 r ≤ pc (ab A x r v.toInt)))), al_shift (p := fun r => decide (A 6 r = 0)), Nat.add_zero] at h
    have e2 : F_Choir_canBeSungAt t x (nI p) v C = F_Choir_canBeSungAt_4 t C sd_fu x (nI p) v 0 (nI 0) := rfl
    rw [e2, h]
    unfold tro osp cs nr
    have e3 : al (fun r => decide (A 6 r = 0) || (osr A v.toInt r && decide (A 6 r ≤ pc (ab A x r v.toInt)))) 4 (4 * p) = (al (osr A v.toInt) 4 (4 * p) && al (fun r => decide (A 6 r ≤ pc (ab A x r v.toInt))) 4 (4 * p)) := by
      rw [Bool.eq_iff_iff, Bool.and_eq_true, al_iff, al_iff, al_iff]
      have o0 : ∀ i, i < 20 → A 6 i = 0 → osr A v.toInt i = true := fun i hi e => by
        unfold osr
        rw [(hw.2.2.2.2.2 i hi).2.1 e]
        rfl
      constructor
      · intro h
        refine ⟨fun i a b => ?_, fun i a b => ?_⟩
        · have := h i a b
          simp only [Bool.or_eq_true, Bool.and_eq_true, decide_eq_true_eq] at this
          rcases this with e | e
          · exact o0 i (by omega) e
          · exact e.1
        · have := h i a b
          simp only [Bool.or_eq_true, Bool.and_eq_true, decide_eq_true_eq] at this ⊢
          omega
      · intro h i a b
        rw [Bool.or_eq_true, Bool.and_eq_true]
        exact Or.inr ⟨h.1 i a b, h.2 i a b⟩
    rw [e3, Bool.false_or]
    cases al (osr A v.toInt) 4 (4 * p) <;> cases al (fun r => decide (A 6 r ≤ pc (ab A x r v.toInt))) 4 (4 * p) <;> cases al (fun r => decide (A 6 r = 0)) 4 (4 * p) <;> rfl
  · intro f a _
    show F_Choir_canBeSungAt_4B t (F_Choir_canBeSungAt_4 t C f) x (nI p) v a (nI 4) C = _
    unfold F_Choir_canBeSungAt_4B
    simp (disch := omega) only [↓g_in, ↓g_c0, ↓g_c1, ↓reduceIte, ↓y_lt, ↓y_q1, ↓y_q2, ↓sn_q3, ↓sn_t1l, ↓sn_t1r, ↓sn_t2l, ↓sn_t2r, y_q1, y_q2, sn_q3, sn_t1l, sn_t1r, sn_t2l, sn_t2r, nI_clamp, x_leT, x_leF, x_ltT, x_ltF, x_eqT, x_eqF, x_le0T, x_le0F, x_0leT, x_lt0F, x_0ltT, x_0ltF, x_eq0T, x_eq0F, x_le1T, x_le1F, x_1leT, x_1leF, x_1ltT, x_1ltF, x_lt1T, x_lt1F, x_eq1T, x_eq1F, x_m1F, nI_add, nI_1, sn_mul, x_sub, x_sub1, sn_m1, l2, l3, l4, l5, l6, l7, l8, l9, l10, l11, l12, l13, l14, l15, l20, l30, l40, l48, l60, l64, l99, l100, l700, l999, not_true_eq_false, not_false_eq_true, x_t0, x_t1, lts1, x_10, x_1sub, eq_self, Nat.reduceSub, Nat.reduceAdd, Nat.reduceMul]
  · intro f j a hj _
    have hr : 4 * p + j < 20 := by omega
    obtain ⟨q1, q2, q3, q4, q5⟩ := hc.2.2.2.2.1 (4 * p + j) hr
    obtain ⟨v1, v2, v3, v4⟩ := hw.2.2.2.2.2 (4 * p + j) hr
    have hs : F_Choir_canBeSungAt_4 t C (f + 1) x (nI p) v a (nI j) = if decide (A 6 (4 * p + j) = 0) then F_Choir_canBeSungAt_4 t C f x (nI p) v a (nI (j + 1)) else if (decide (A 6 (4 * p + j) = 0) || (osr A v.toInt (4 * p + j) && decide (A 6 (4 * p + j) ≤ pc (ab A x (4 * p + j) v.toInt)))) then F_Choir_canBeSungAt_4 t C f x (nI p) v 1 (nI (j + 1)) else some 0 := by
      show F_Choir_canBeSungAt_4B t (F_Choir_canBeSungAt_4 t C f) x (nI p) v a (nI j) C = _
      unfold F_Choir_canBeSungAt_4B
      by_cases e0 : A 6 (4 * p + j) = 0
      · simp (disch := omega) only [↓g_in, ↓g_c0, ↓g_c1, ↓reduceIte, ↓y_lt, ↓y_q1, ↓y_q2, ↓sn_q3, ↓sn_t1l, ↓sn_t1r, ↓sn_t2l, ↓sn_t2r, y_q1, y_q2, sn_q3, sn_t1l, sn_t1r, sn_t2l, sn_t2r, nI_clamp, x_leT, x_leF, x_ltT, x_ltF, x_eqT, x_eqF, x_le0T, x_le0F, x_0leT, x_lt0F, x_0ltT, x_0ltF, x_eq0T, x_eq0F, x_le1T, x_le1F, x_1leT, x_1leF, x_1ltT, x_1ltF, x_lt1T, x_lt1F, x_eq1T, x_eq1F, x_m1F, nI_add, nI_1, sn_mul, x_sub, x_sub1, sn_m1, l2, l3, l4, l5, l6, l7, l8, l9, l10, l11, l12, l13, l14, l15, l20, l30, l40, l48, l60, l64, l99, l100, l700, l999, not_true_eq_false, not_false_eq_true, x_t0, x_t1, lts1, x_10, x_1sub, eq_self, Nat.reduceSub, Nat.reduceAdd, Nat.reduceMul, Nat.mul_comm p 4, q1, e0, decide_true]
      · obtain ⟨lo, hi, g1, g2, g3, g4, g5⟩ := q5 (by omega)
        have h48 : hi ≤ 48 := by
          obtain ⟨i, i1, i2⟩ := g5
          have := v4 i i1
          omega
        have hlh : lo ≤ hi := by
          obtain ⟨i, i1, i2⟩ := g5
          have := (g3 i i1).1
          omega
        have er := reach_u hw hc (x := x) (v := v) hp hj (by omega) hv h48 hlh g3 g4 g5
        have hpc := pc_le (ab A x (4 * p + j) v.toInt)
        have z1 : (nI lo + v < 0) = (¬ (0 : Int) ≤ lo + v.toInt) := by
          rw [Int32.lt_iff_toInt_lt, sn_ai (by omega) hv, show (0 : Int32).toInt = 0 from rfl]
          apply propext
          omega
        have z2 : (nI 48 < nI hi + v) = (¬ (hi : Int) + v.toInt ≤ 48) := by
          rw [Int32.lt_iff_toInt_lt, sn_ai (by omega) hv, nI_toInt (by omega)]
          apply propext
          omega
        have eo : osr A v.toInt (4 * p + j) = (decide ((0 : Int) ≤ lo + v.toInt) && decide ((hi : Int) + v.toInt ≤ 48)) := by
          unfold osr
          rw [Bool.eq_iff_iff, al_iff, Bool.and_eq_true, decide_eq_true_eq, decide_eq_true_eq]
          constructor
          · intro h
            obtain ⟨a, a1, a2⟩ := g4
            obtain ⟨b, b1, b2⟩ := g5
            have ha := h a (by omega) (by omega)
            have hb := h b (by omega) (by omega)
            rw [Bool.and_eq_true, decide_eq_true_eq, decide_eq_true_eq] at ha hb
            rw [a2] at ha
            rw [b2] at hb
            exact ⟨ha.1, hb.2⟩
          · intro h i _ hi
            have := g3 i (by omega)
            rw [Bool.and_eq_true, decide_eq_true_eq, decide_eq_true_eq]
            omega
        rw [eo]
        by_cases k1 : (0 : Int) ≤ lo + v.toInt
        · by_cases k2 : (hi : Int) + v.toInt ≤ 48
          · by_cases k3 : A 6 (4 * p + j) ≤ pc (ab A x (4 * p + j) v.toInt)
            · simp (disch := omega) only [↓g_in, ↓g_c0, ↓g_c1, ↓reduceIte, ↓y_lt, ↓y_q1, ↓y_q2, ↓sn_q3, ↓sn_t1l, ↓sn_t1r, ↓sn_t2l, ↓sn_t2r, y_q1, y_q2, sn_q3, sn_t1l, sn_t1r, sn_t2l, sn_t2r, nI_clamp, x_leT, x_leF, x_ltT, x_ltF, x_eqT, x_eqF, x_le0T, x_le0F, x_0leT, x_lt0F, x_0ltT, x_0ltF, x_eq0T, x_eq0F, x_le1T, x_le1F, x_1leT, x_1leF, x_1ltT, x_1ltF, x_lt1T, x_lt1F, x_eq1T, x_eq1F, x_m1F, nI_add, nI_1, sn_mul, x_sub, x_sub1, sn_m1, l2, l3, l4, l5, l6, l7, l8, l9, l10, l11, l12, l13, l14, l15, l20, l30, l40, l48, l60, l64, l99, l100, l700, l999, not_true_eq_false, not_false_eq_true, x_t0, x_t1, lts1, x_10, x_1sub, eq_self, Nat.reduceSub, Nat.reduceAdd, Nat.reduceMul, Nat.mul_comm p 4, q1, e0, g1, g2, c_ofPart' hc hj, er, z1, z2, k1, k2, k3, int_bc lo14_ab, decide_true, decide_false, Bool.and_self, Bool.false_eq_true, Bool.false_or]
            · simp (disch := omega) only [↓g_in, ↓g_c0, ↓g_c1, ↓reduceIte, ↓y_lt, ↓y_q1, ↓y_q2, ↓sn_q3, ↓sn_t1l, ↓sn_t1r, ↓sn_t2l, ↓sn_t2r, y_q1, y_q2, sn_q3, sn_t1l, sn_t1r, sn_t2l, sn_t2r, nI_clamp, x_leT, x_leF, x_ltT, x_ltF, x_eqT, x_eqF, x_le0T, x_le0F, x_0leT, x_lt0F, x_0ltT, x_0ltF, x_eq0T, x_eq0F, x_le1T, x_le1F, x_1leT, x_1leF, x_1ltT, x_1ltF, x_lt1T, x_lt1F, x_eq1T, x_eq1F, x_m1F, nI_add, nI_1, sn_mul, x_sub, x_sub1, sn_m1, l2, l3, l4, l5, l6, l7, l8, l9, l10, l11, l12, l13, l14, l15, l20, l30, l40, l48, l60, l64, l99, l100, l700, l999, not_true_eq_false, not_false_eq_true, x_t0, x_t1, lts1, x_10, x_1sub, eq_self, Nat.reduceSub, Nat.reduceAdd, Nat.reduceMul, Nat.mul_comm p 4, q1, e0, g1, g2, c_ofPart' hc hj, er, z1, z2, k1, k2, k3, int_bc lo14_ab, decide_true, decide_false, Bool.and_self, Bool.and_false, Bool.false_eq_true, Bool.false_or]
          · simp (disch := omega) only [↓g_in, ↓g_c0, ↓g_c1, ↓reduceIte, ↓y_lt, ↓y_q1, ↓y_q2, ↓sn_q3, ↓sn_t1l, ↓sn_t1r, ↓sn_t2l, ↓sn_t2r, y_q1, y_q2, sn_q3, sn_t1l, sn_t1r, sn_t2l, sn_t2r, nI_clamp, x_leT, x_leF, x_ltT, x_ltF, x_eqT, x_eqF, x_le0T, x_le0F, x_0leT, x_lt0F, x_0ltT, x_0ltF, x_eq0T, x_eq0F, x_le1T, x_le1F, x_1leT, x_1leF, x_1ltT, x_1ltF, x_lt1T, x_lt1F, x_eq1T, x_eq1F, x_m1F, nI_add, nI_1, sn_mul, x_sub, x_sub1, sn_m1, l2, l3, l4, l5, l6, l7, l8, l9, l10, l11, l12, l13, l14, l15, l20, l30, l40, l48, l60, l64, l99, l100, l700, l999, not_true_eq_false, not_false_eq_true, x_t0, x_t1, lts1, x_10, x_1sub, eq_self, Nat.reduceSub, Nat.reduceAdd, Nat.reduceMul, Nat.mul_comm p 4, q1, e0, g1, g2, c_ofPart' hc hj, er, z1, z2, k1, k2, decide_true, decide_false, Bool.and_false, Bool.false_and, Bool.false_eq_true, Bool.false_or]
        · simp (disch := omega) only [↓g_in, ↓g_c0, ↓g_c1, ↓reduceIte, ↓y_lt, ↓y_q1, ↓y_q2, ↓sn_q3, ↓sn_t1l, ↓sn_t1r, ↓sn_t2l, ↓sn_t2r, y_q1, y_q2, sn_q3, sn_t1l, sn_t1r, sn_t2l, sn_t2r, nI_clamp, x_leT, x_leF, x_ltT, x_ltF, x_eqT, x_eqF, x_le0T, x_le0F, x_0leT, x_lt0F, x_0ltT, x_0ltF, x_eq0T, x_eq0F, x_le1T, x_le1F, x_1leT, x_1leF, x_1ltT, x_1ltF, x_lt1T, x_lt1F, x_eq1T, x_eq1F, x_m1F, nI_add, nI_1, sn_mul, x_sub, x_sub1, sn_m1, l2, l3, l4, l5, l6, l7, l8, l9, l10, l11, l12, l13, l14, l15, l20, l30, l40, l48, l60, l64, l99, l100, l700, l999, not_true_eq_false, not_false_eq_true, x_t0, x_t1, lts1, x_10, x_1sub, eq_self, Nat.reduceSub, Nat.reduceAdd, Nat.reduceMul, Nat.mul_comm p 4, q1, e0, g1, g2, c_ofPart' hc hj, er, z1, z2, k1, decide_false, Bool.false_and, Bool.false_eq_true, Bool.false_or]
    refine ⟨fun a' e => ⟨trivial, ?_⟩, fun z e => ?_⟩
    · rw [hs]
      split at e
      · rename_i hh; cases e; rw [if_pos hh]
      · rename_i hh
        rw [if_neg hh]
        split at e
        · rename_i h2; cases e; rw [if_pos h2]
        · cases e
    · rw [hs]
      split at e
      · cases e
      · rename_i hh
        rw [if_neg hh]
        split at e
        · cases e
        · rename_i h2; cases e; rw [if_neg h2]
def vK (k : Nat) : Int32 := if k % 2 = 1 then 0 - nI ((k + 1) / 2) else nI (k / 2)
theorem vK_b : ∀ k, k < 25 → -1000 ≤ (vK k).toInt ∧ (vK k).toInt ≤ 1000 := by decide +kernel
theorem vK_o : ∀ j, j < 13 → 1 ≤ j → vK (2 * j - 1) = -nI j ∧ vK (2 * j) = nI j := by decide +kernel
theorem vK_n : ∀ j, j < 13 → (-1000 ≤ (nI j).toInt ∧ (nI j).toInt ≤ 1000) ∧ -1000 ≤ (-nI j).toInt ∧ (-nI j).toInt ≤ 1000 := by decide +kernel
def trm (A : sA) (x : Int32) (p k : Nat) : Option Int32 := if tro A x p (vK k) then some (vK k) else none
def trc (A : sA) (x : Int32) (p k : Nat) : Option Int32 := if tro A x p (-nI k) then some (-nI k) else if tro A x p (nI k) then some (nI k) else none
theorem tr_eq1 {x : Int32} {p : Nat} : ∀ {m j : Nat}, 1 ≤ j → j + m = 13 → fx (trm A x p) (2 * m) (2 * j - 1) = fx (trc A x p) m j
  | 0, j, _, _ => rfl
  | m + 1, j, h1, h2 => by
    obtain ⟨e1, e2⟩ := vK_o j (by omega) h1
    have ih := tr_eq1 (x := x) (p := p) (m := m) (j := j + 1) (by omega) (by omega)
    rw [show 2 * (m + 1) = 2 * m + 1 + 1 by omega, fx, fx, fx, show 2 * j - 1 + 1 = 2 * j by omega]
    unfold trm at ih ⊢
    unfold trc at ih ⊢
    rw [e1, e2]
    rw [show 2 * (j + 1) - 1 = 2 * j + 1 by omega] at ih
    cases tro A x p (-nI j)
    · cases tro A x p (nI j)
      · exact ih
      · rfl
    · rfl
theorem fx_cons {γ : Type} {g g' : Nat → Option γ} {m m' j : Nat} (h0 : g j = g' j) (h : fx g m (j + 1) = fx g' m' (j + 1)) : fx g (m + 1) j = fx g' (m' + 1) j := by
  rw [fx, fx, h0]
  cases g' j with
  | some v => rfl
  | none => exact h
theorem tr_eq {x : Int32} {p : Nat} : fx (trm A x p) 25 0 = fx (trc A x p) 13 0 := by
  have h := tr_eq1 (A := A) (x := x) (p := p) (m := 12) (j := 1) (by omega) (by omega)
  have e : trm A x p 0 = trc A x p 0 := by
    unfold trm trc
    rw [show vK 0 = nI 0 from rfl, show -nI 0 = nI 0 from by decide]
    cases tro A x p (nI 0) <;> rfl
  exact fx_cons (m := 24) (m' := 12) e h
theorem l24 : (24 : Int32) = nI 24 := nr_ rfl
theorem m_dv2 {k : Nat} (hk : k < 2 ^ 31) : nI k / nI 2 = nI (k / 2) := pk_div hk (by omega) (by omega)
theorem m_md2 {k : Nat} (hk : k < 2 ^ 31) : sd_mod (nI k) (nI 2) = nI (k % 2) := sn_mod hk (by omega) (by omega)
theorem q_transposed (h : Rel A R t C M) (x : Int32) : ∃ r, F_VM_transposed t x C = some r ∧ mq (F_Mo_transposed x M) M (cv r) := by
  obtain ⟨M1, hM1, h0, h, hs⟩ := h.start
  have hw := h.wa
  have hc := h.ca
  have hm := h.ma
  have hst := h.st
  have h5 := hw.2.1
  unfold F_VM_transposed F_Mo_transposed
  rw [hM1]
  rcases ix_or x (n := A 0 1) (by omega) with hx | ⟨p, hp, rfl⟩
  · refine ⟨.inr 1, by rw [c_chP0 hw hc hx]; rfl, mq_t hs (v := 0) ?_⟩
    simp (disch := omega) only [↓g_in, ↓g_c0, ↓g_c1, ↓reduceIte, ↓y_lt, ↓y_q1, ↓y_q2, ↓sn_q3, ↓sn_t1l, ↓sn_t1r, ↓sn_t2l, ↓sn_t2r, y_q1, y_q2, sn_q3, sn_t1l, sn_t1r, sn_t2l, sn_t2r, nI_clamp, x_leT, x_leF, x_ltT, x_ltF, x_eqT, x_eqF, x_le0T, x_le0F, x_0leT, x_lt0F, x_0ltT, x_0ltF, x_eq0T, x_eq0F, x_le1T, x_le1F, x_1leT, x_1leF, x_1ltT, x_1ltF, x_lt1T, x_lt1F, x_eq1T, x_eq1F, x_m1F, nI_add, nI_1, sn_mul, x_sub, x_sub1, sn_m1, l2, l3, l4, l5, l6, l7, l8, l9, l10, l11, l12, l13, l14, l15, l20, l30, l40, l48, l60, l64, l99, l100, l700, l999, not_true_eq_false, not_false_eq_true, x_t0, x_t1, lts1, x_10, x_1sub, eq_self, Nat.reduceSub, Nat.reduceAdd, Nat.reduceMul, ↓q2_of (m_isP0 hw hm h0 hx)]
  · have c1 : F_VM_transposed_5 t C sd_fu (nI p) (nI 0) = fxv (fx (trc A (C 9 0) p) 13 0) (fun k => some (.inl k)) (some (.inl (-99))) := by
      refine lp_fX (fun f j => F_VM_transposed_5 t C f (nI p) j) (trc A (C 9 0) p) (fun k => some (.inl k)) (some (.inl (-99))) 13 0 (by omega) (by omega) ?_ ?_
      · intro f
        show F_VM_transposed_5B t (F_VM_transposed_5 t C f) (nI p) (nI 13) C = _
        unfold F_VM_transposed_5B
        rw [if_pos (show (12 : Int32) < nI 13 by decide)]
      · intro f k _ hk
        obtain ⟨e1, e2⟩ := vK_n k hk
        show F_VM_transposed_5B t (F_VM_transposed_5 t C f) (nI p) (nI k) C = fxv (trc A (C 9 0) p k) (fun k => some (.inl k)) (F_VM_transposed_5 t C f (nI p) (nI (k + 1)))
        unfold F_VM_transposed_5B trc
        simp (disch := omega) only [↓g_in, ↓g_c0, ↓g_c1, ↓reduceIte, ↓y_lt, ↓y_q1, ↓y_q2, ↓sn_q3, ↓sn_t1l, ↓sn_t1r, ↓sn_t2l, ↓sn_t2r, y_q1, y_q2, sn_q3, sn_t1l, sn_t1r, sn_t2l, sn_t2r, nI_clamp, x_leT, x_leF, x_ltT, x_ltF, x_eqT, x_eqF, x_le0T, x_le0F, x_0leT, x_lt0F, x_0ltT, x_0ltF, x_eq0T, x_eq0F, x_le1T, x_le1F, x_1leT, x_1leF, x_1ltT, x_1ltF, x_lt1T, x_lt1F, x_eq1T, x_eq1F, x_m1F, nI_add, nI_1, sn_mul, x_sub, x_sub1, sn_m1, l2, l3, l4, l5, l6, l7, l8, l9, l10, l11, l12, l13, l14, l15, l20, l30, l40, l48, l60, l64, l99, l100, l700, l999, not_true_eq_false, not_false_eq_true, x_t0, x_t1, lts1, x_10, x_1sub, eq_self, Nat.reduceSub, Nat.reduceAdd, Nat.reduceMul, c_at (v := -nI k) hw hc (show p < 5 by omega) e2, c_at (v := nI k) hw hc (show p < 5 by omega) e1]
        cases tro A (C 9 0) p (-nI k)
        · cases tro A (C 9 0) p (nI k) <;> rfl
        · rfl
    have c2 : F_Mo_transposed_11 sd_fu (nI p) (nI 0) M1 = fxv (fx (trm A (C 9 0) p) 25 0) (fun k => some (k, M1)) (some (-99, M1)) := by
      refine lp_fX (fun f j => F_Mo_transposed_11 f (nI p) j M1) (trm A (C 9 0) p) (fun k => some (k, M1)) (some (-99, M1)) 25 0 (by omega) (by omega) ?_ ?_
      · intro f
        show F_Mo_transposed_11B (F_Mo_transposed_11 f) (nI p) (nI 25) M1 = _
        unfold F_Mo_transposed_11B
        rw [if_pos (show (24 : Int32) < nI 25 by decide)]
      · intro f k _ hk
        have e1 := vK_b k hk
        show F_Mo_transposed_11B (F_Mo_transposed_11 f) (nI p) (nI k) M1 = fxv (trm A (C 9 0) p k) (fun k => some (k, M1)) (F_Mo_transposed_11 f (nI p) (nI (k + 1)) M1)
        have e2 : F_Mo_transposed_30 (F_Mo_transposed_11 f) (nI p) (nI k) (vK k) M1 = fxv (trm A (C 9 0) p k) (fun k => some (k, M1)) (F_Mo_transposed_11 f (nI p) (nI (k + 1)) M1) := by
          unfold F_Mo_transposed_30 trm
          rw [m_onScale hw hm (by omega) e1, mo_so0 hw hm hst]
          unfold tro
          cases osp A p (vK k).toInt
          · simp (disch := omega) only [↓g_in, ↓g_c0, ↓g_c1, ↓reduceIte, ↓y_lt, ↓y_q1, ↓y_q2, ↓sn_q3, ↓sn_t1l, ↓sn_t1r, ↓sn_t2l, ↓sn_t2r, y_q1, y_q2, sn_q3, sn_t1l, sn_t1r, sn_t2l, sn_t2r, nI_clamp, x_leT, x_leF, x_ltT, x_ltF, x_eqT, x_eqF, x_le0T, x_le0F, x_0leT, x_lt0F, x_0ltT, x_0ltF, x_eq0T, x_eq0F, x_le1T, x_le1F, x_1leT, x_1leF, x_1ltT, x_1ltF, x_lt1T, x_lt1F, x_eq1T, x_eq1F, x_m1F, nI_add, nI_1, sn_mul, x_sub, x_sub1, sn_m1, l2, l3, l4, l5, l6, l7, l8, l9, l10, l11, l12, l13, l14, l15, l20, l30, l40, l48, l60, l64, l99, l100, l700, l999, not_true_eq_false, not_false_eq_true, x_t0, x_t1, lts1, x_10, x_1sub, eq_self, Nat.reduceSub, Nat.reduceAdd, Nat.reduceMul, Bool.false_eq_true, Bool.false_and]
            rfl
          · simp (disch := omega) only [↓g_in, ↓g_c0, ↓g_c1, ↓reduceIte, ↓y_lt, ↓y_q1, ↓y_q2, ↓sn_q3, ↓sn_t1l, ↓sn_t1r, ↓sn_t2l, ↓sn_t2r, y_q1, y_q2, sn_q3, sn_t1l, sn_t1r, sn_t2l, sn_t2r, nI_clamp, x_leT, x_leF, x_ltT, x_ltF, x_eqT, x_eqF, x_le0T, x_le0F, x_0leT, x_lt0F, x_0ltT, x_0ltF, x_eq0T, x_eq0F, x_le1T, x_le1F, x_1leT, x_1leF, x_1ltT, x_1ltF, x_lt1T, x_lt1F, x_eq1T, x_eq1F, x_m1F, nI_add, nI_1, sn_mul, x_sub, x_sub1, sn_m1, l2, l3, l4, l5, l6, l7, l8, l9, l10, l11, l12, l13, l14, l15, l20, l30, l40, l48, l60, l64, l99, l100, l700, l999, not_true_eq_false, not_false_eq_true, x_t0, x_t1, lts1, x_10, x_1sub, eq_self, Nat.reduceSub, Nat.reduceAdd, Nat.reduceMul, Bool.true_and, mo_canBeSung hw hm (show p < 5 by omega) e1]
            cases cs A (C 9 0) p (vK k).toInt <;> rfl
        unfold F_Mo_transposed_11B
        have g2 : ∀ {α : Type} {o : Option α}, sd_gu (¬ (2 : Int32) = 0) o = o := fun {α o} => sn_gu (by decide)
        rw [g2, if_neg (show ¬ (24 : Int32) < nI k from nI_nlt (a := 24) (by omega) (by omega))]
        by_cases ho : k % 2 = 1
        · have ev : (0 : Int32) - (nI k + 1) / 2 = vK k := by
            unfold vK
            rw [if_pos ho, nI_1, show (nI (k + 1) : Int32) / 2 = nI ((k + 1) / 2) from m_dv2 (by omega)]
          rw [if_neg (sn_nn (show sd_mod (nI k) 2 = 1 by rw [show sd_mod (nI k) 2 = nI (k % 2) from m_md2 (by omega), ho]; rfl)), g2, ev]
          exact e2
        · have ev : nI k / 2 = vK k := by
            unfold vK
            rw [if_neg ho, show (nI k : Int32) / 2 = nI (k / 2) from m_dv2 (by omega)]
          rw [if_pos (show ¬ sd_mod (nI k) 2 = 1 by rw [show sd_mod (nI k) 2 = nI (k % 2) from m_md2 (by omega)]; exact fun z => ho ((nI_eq (b := 1) (by omega) (by omega)).mp z)), g2, ev]
          exact e2
    rw [tr_eq] at c2
    have c1 : F_VM_transposed_5 t C sd_fu (nI p) 0 = _ := c1
    have c2 : F_Mo_transposed_11 sd_fu (nI p) 0 M1 = _ := c2
    cases ho : fx (trc A (C 9 0) p) 13 0 with
    | none =>
      rw [ho] at c1 c2
      refine ⟨.inl (-99), ?_, mq_v (M' := M1) ?_ h0 hs⟩
      · simp (disch := omega) only [↓g_in, ↓g_c0, ↓g_c1, ↓reduceIte, ↓y_lt, ↓y_q1, ↓y_q2, ↓sn_q3, ↓sn_t1l, ↓sn_t1r, ↓sn_t2l, ↓sn_t2r, y_q1, y_q2, sn_q3, sn_t1l, sn_t1r, sn_t2l, sn_t2r, nI_clamp, x_leT, x_leF, x_ltT, x_ltF, x_eqT, x_eqF, x_le0T, x_le0F, x_0leT, x_lt0F, x_0ltT, x_0ltF, x_eq0T, x_eq0F, x_le1T, x_le1F, x_1leT, x_1leF, x_1ltT, x_1ltF, x_lt1T, x_lt1F, x_eq1T, x_eq1F, x_m1F, nI_add, nI_1, sn_mul, x_sub, x_sub1, sn_m1, l2, l3, l4, l5, l6, l7, l8, l9, l10, l11, l12, l13, l14, l15, l20, l30, l40, l48, l60, l64, l99, l100, l700, l999, not_true_eq_false, not_false_eq_true, x_t0, x_t1, lts1, x_10, x_1sub, eq_self, Nat.reduceSub, Nat.reduceAdd, Nat.reduceMul, ↓t1_of (c_chP1 hw hc hp), c1]
        rfl
      · simp (disch := omega) only [↓g_in, ↓g_c0, ↓g_c1, ↓reduceIte, ↓y_lt, ↓y_q1, ↓y_q2, ↓sn_q3, ↓sn_t1l, ↓sn_t1r, ↓sn_t2l, ↓sn_t2r, y_q1, y_q2, sn_q3, sn_t1l, sn_t1r, sn_t2l, sn_t2r, nI_clamp, x_leT, x_leF, x_ltT, x_ltF, x_eqT, x_eqF, x_le0T, x_le0F, x_0leT, x_lt0F, x_0ltT, x_0ltF, x_eq0T, x_eq0F, x_le1T, x_le1F, x_1leT, x_1leF, x_1ltT, x_1ltF, x_lt1T, x_lt1F, x_eq1T, x_eq1F, x_m1F, nI_add, nI_1, sn_mul, x_sub, x_sub1, sn_m1, l2, l3, l4, l5, l6, l7, l8, l9, l10, l11, l12, l13, l14, l15, l20, l30, l40, l48, l60, l64, l99, l100, l700, l999, not_true_eq_false, not_false_eq_true, x_t0, x_t1, lts1, x_10, x_1sub, eq_self, Nat.reduceSub, Nat.reduceAdd, Nat.reduceMul, ↓q2_of (m_isP1 hw hm h0 hp), c2]
        rfl
    | some k =>
      rw [ho] at c1 c2
      refine ⟨.inl k, ?_, mq_v (M' := M1) ?_ h0 hs⟩
      · simp (disch := omega) only [↓g_in, ↓g_c0, ↓g_c1, ↓reduceIte, ↓y_lt, ↓y_q1, ↓y_q2, ↓sn_q3, ↓sn_t1l, ↓sn_t1r, ↓sn_t2l, ↓sn_t2r, y_q1, y_q2, sn_q3, sn_t1l, sn_t1r, sn_t2l, sn_t2r, nI_clamp, x_leT, x_leF, x_ltT, x_ltF, x_eqT, x_eqF, x_le0T, x_le0F, x_0leT, x_lt0F, x_0ltT, x_0ltF, x_eq0T, x_eq0F, x_le1T, x_le1F, x_1leT, x_1leF, x_1ltT, x_1ltF, x_lt1T, x_lt1F, x_eq1T, x_eq1F, x_m1F, nI_add, nI_1, sn_mul, x_sub, x_sub1, sn_m1, l2, l3, l4, l5, l6, l7, l8, l9, l10, l11, l12, l13, l14, l15, l20, l30, l40, l48, l60, l64, l99, l100, l700, l999, not_true_eq_false, not_false_eq_true, x_t0, x_t1, lts1, x_10, x_1sub, eq_self, Nat.reduceSub, Nat.reduceAdd, Nat.reduceMul, ↓t1_of (c_chP1 hw hc hp), c1]
        rfl
      · simp (disch := omega) only [↓g_in, ↓g_c0, ↓g_c1, ↓reduceIte, ↓y_lt, ↓y_q1, ↓y_q2, ↓sn_q3, ↓sn_t1l, ↓sn_t1r, ↓sn_t2l, ↓sn_t2r, y_q1, y_q2, sn_q3, sn_t1l, sn_t1r, sn_t2l, sn_t2r, nI_clamp, x_leT, x_leF, x_ltT, x_ltF, x_eqT, x_eqF, x_le0T, x_le0F, x_0leT, x_lt0F, x_0ltT, x_0ltF, x_eq0T, x_eq0F, x_le1T, x_le1F, x_1leT, x_1leF, x_1ltT, x_1ltF, x_lt1T, x_lt1F, x_eq1T, x_eq1F, x_m1F, nI_add, nI_1, sn_mul, x_sub, x_sub1, sn_m1, l2, l3, l4, l5, l6, l7, l8, l9, l10, l11, l12, l13, l14, l15, l20, l30, l40, l48, l60, l64, l99, l100, l700, l999, not_true_eq_false, not_false_eq_true, x_t0, x_t1, lts1, x_10, x_1sub, eq_self, Nat.reduceSub, Nat.reduceAdd, Nat.reduceMul, ↓q2_of (m_isP1 hw hm h0 hp), c2]
        rfl
/-- a row's lowest and highest note, or one's own -/
def wl (A : sA) (s r : Nat) : Nat → Nat := fun n => itr (fun i z => if A 8 (12 * r + i) < z then A 8 (12 * r + i) else z) n (A 3 s)
def wh (A : sA) (s r : Nat) : Nat → Nat := fun n => itr (fun i z => if z < A 8 (12 * r + i) then A 8 (12 * r + i) else z) n (A 4 s)
def wid (A : sA) (s r : Nat) : Nat := (A 3 s - wl A s r (A 7 r)) + (wh A s r (A 7 r) - A 4 s)
theorem wl_p {s r : Nat} : ∀ n, wl A s r n ≤ A 3 s ∧ (∀ i, i < n → wl A s r n ≤ A 8 (12 * r + i)) ∧ (wl A s r n = A 3 s ∨ ∃ i, i < n ∧ wl A s r n = A 8 (12 * r + i))
  | 0 => ⟨Nat.le_refl _, fun i hi => absurd hi (by omega), Or.inl rfl⟩
  | n + 1 => by
    obtain ⟨h1, h2, h3⟩ := wl_p (s := s) (r := r) n
    have e : wl A s r (n + 1) = if A 8 (12 * r + n) < wl A s r n then A 8 (12 * r + n) else wl A s r n := rfl
    rw [e]
    split
    · refine ⟨by omega, fun i hi => ?_, Or.inr ⟨n, by omega, rfl⟩⟩
      by_cases e : i = n
      · rw [e]; exact Nat.le_refl _
      · have := h2 i (by omega); omega
    · refine ⟨h1, fun i hi => ?_, h3.imp id (fun ⟨i, a, b⟩ => ⟨i, by omega, b⟩)⟩
      by_cases e : i = n
      · rw [e]; omega
      · exact h2 i (by omega)
theorem wh_p {s r : Nat} : ∀ n, A 4 s ≤ wh A s r n ∧ (∀ i, i < n → A 8 (12 * r + i) ≤ wh A s r n) ∧ (wh A s r n = A 4 s ∨ ∃ i, i < n ∧ wh A s r n = A 8 (12 * r + i))
  | 0 => ⟨Nat.le_refl _, fun i hi => absurd hi (by omega), Or.inl rfl⟩
  | n + 1 => by
    obtain ⟨h1, h2, h3⟩ := wh_p (s := s) (r := r) n
    have e : wh A s r (n + 1) = if wh A s r n < A 8 (12 * r + n) then A 8 (12 * r + n) else wh A s r n := rfl
    rw [e]
    split
    · refine ⟨by omega, fun i hi => ?_, Or.inr ⟨n, by omega, rfl⟩⟩
      by_cases e : i = n
      · rw [e]; exact Nat.le_refl _
      · have := h2 i (by omega); omega
    · refine ⟨h1, fun i hi => ?_, h3.imp id (fun ⟨i, a, b⟩ => ⟨i, by omega, b⟩)⟩
      by_cases e : i = n
      · rw [e]; omega
      · exact h2 i (by omega)
theorem mx0 {a b : Nat} (ha : a < 2 ^ 30) (hb : b < 2 ^ 30) : F_Math_max 0 (nI a - nI b) = some (nI (a - b)) := by
  unfold F_Math_max
  have h : 0 < nI a - nI b ↔ b < a := by
    rw [Int32.lt_iff_toInt_lt, pk_sub_toInt ha hb, show (0 : Int32).toInt = 0 from rfl]
    omega
  by_cases h1 : b < a
  · rw [if_pos (h.mpr h1), sn_sub (by omega)]
  · rw [if_neg (fun z => h1 (h.mp z)), show a - b = 0 by omega]
    rfl
theorem c_stretch (hw : wA A) (hc : cA A t C) {s r : Nat} (hs : s < A 0 0) (hr : r < 20) (hq : 0 < A 6 r) : F_Valley_stretch t (nI r) (nI s) C = some (nI (wid A s r)) := by
  have hn := hw.1
  obtain ⟨-, -, d3, d4, -⟩ := hc.2.2.2.1 s hs
  obtain ⟨-, -, g3, g4, -⟩ := hw.2.2.2.2.1 s hs
  obtain ⟨-, -, -, v4⟩ := hw.2.2.2.2.2 r hr
  obtain ⟨lo, hi, l1, l2, l3, ⟨i1, l4, l5⟩, ⟨i2, l6, l7⟩⟩ := (hc.2.2.2.2.1 r hr).2.2.2.2 hq
  have p1 := v4 i1 l4
  have p2 := v4 i2 l6
  obtain ⟨a1, a2, a3⟩ := wl_p (A := A) (s := s) (r := r) (A 7 r)
  obtain ⟨b1, b2, b3⟩ := wh_p (A := A) (s := s) (r := r) (A 7 r)
  have a4 := a2 i1 l4
  have b4 := b2 i2 l6
  have e1 : A 3 s - wl A s r (A 7 r) = A 3 s - lo := by
    rcases a3 with h | ⟨i, h6, h7⟩
    · omega
    · have := (l3 i h6).1; omega
  have e2 : wh A s r (A 7 r) - A 4 s = hi - A 4 s := by
    rcases b3 with h | ⟨i, h6, h7⟩
    · omega
    · have := (l3 i h6).2; omega
  unfold F_Valley_stretch wid
  rw [e1, e2]
  simp (disch := omega) only [↓g_in, ↓g_c0, ↓g_c1, ↓reduceIte, ↓y_lt, ↓y_q1, ↓y_q2, ↓sn_q3, ↓sn_t1l, ↓sn_t1r, ↓sn_t2l, ↓sn_t2r, y_q1, y_q2, sn_q3, sn_t1l, sn_t1r, sn_t2l, sn_t2r, nI_clamp, x_leT, x_leF, x_ltT, x_ltF, x_eqT, x_eqF, x_le0T, x_le0F, x_0leT, x_lt0F, x_0ltT, x_0ltF, x_eq0T, x_eq0F, x_le1T, x_le1F, x_1leT, x_1leF, x_1ltT, x_1ltF, x_lt1T, x_lt1F, x_eq1T, x_eq1F, x_m1F, nI_add, nI_1, sn_mul, x_sub, x_sub1, sn_m1, l2, l3, l4, l5, l6, l7, l8, l9, l10, l11, l12, l13, l14, l15, l20, l30, l40, l48, l60, l64, l99, l100, l700, l999, not_true_eq_false, not_false_eq_true, x_t0, x_t1, lts1, x_10, x_1sub, eq_self, Nat.reduceSub, Nat.reduceAdd, Nat.reduceMul, d3, d4, l1, l2, mx0]
theorem wid_b (hw : wA A) {s r : Nat} (hs : s < A 0 0) (hr : r < 20) : wid A s r < 1000 := by
  obtain ⟨-, -, g3, g4, -⟩ := hw.2.2.2.2.1 s hs
  obtain ⟨-, -, -, v4⟩ := hw.2.2.2.2.2 r hr
  obtain ⟨b1, b2, b3⟩ := wh_p (A := A) (s := s) (r := r) (A 7 r)
  unfold wid
  rcases b3 with h | ⟨i, h6, h7⟩
  · omega
  · have := v4 i h6; omega
theorem m_wider (hw : wA A) (hm : mA A M) {s r : Nat} (hs : s < A 0 0) (hr : r < 20) (hq : 0 < A 6 r) : F_Mo_widerFor (nI s) (nI r) M = some (nI (wid A s r)) := by
  have hn := hw.1
  obtain ⟨-, -, d3, d4, -⟩ := hm.2.2.2.1 s hs
  obtain ⟨-, -, g3, g4, -⟩ := hw.2.2.2.2.1 s hs
  obtain ⟨-, -, -, v4⟩ := hw.2.2.2.2.2 r hr
  have h12 := A7_le hw hr
  obtain ⟨q1, q2⟩ := (hm.2.2.2.2 r hr).2 hq
  unfold F_Mo_widerFor
  have lp := lp_in (fun f j (z : Nat × Nat) => F_Mo_widerFor_12 M f (nI s) (nI r) (nI z.1) (nI z.2) j) (fun z => some (nI (A 3 s) - nI z.1 + nI z.2 - nI (A 4 s))) (fun i z => (if A 8 (12 * r + i) < z.1 then A 8 (12 * r + i) else z.1, if z.2 < A 8 (12 * r + i) then A 8 (12 * r + i) else z.2)) (fun i z => z.1 = wl A s r i ∧ z.2 = wh A s r i) (A 7 r) (A 3 s, A 4 s) ⟨rfl, rfl⟩ (by omega) ?_ ?_
  · obtain ⟨lp, e1, e2⟩ := lp
    have lp : F_Mo_widerFor_12 M sd_fu (nI s) (nI r) (nI (A 3 s)) (nI (A 4 s)) 0 = _ := lp
    obtain ⟨a1, a2, a3⟩ := wl_p (A := A) (s := s) (r := r) (A 7 r)
    obtain ⟨b1, b2, b3⟩ := wh_p (A := A) (s := s) (r := r) (A 7 r)
    rw [e1, e2, sn_sub a1, nI_add, sn_sub (by omega)] at lp
    simp (disch := omega) only [↓g_in, ↓g_c0, ↓g_c1, ↓reduceIte, ↓y_lt, ↓y_q1, ↓y_q2, ↓sn_q3, ↓sn_t1l, ↓sn_t1r, ↓sn_t2l, ↓sn_t2r, y_q1, y_q2, sn_q3, sn_t1l, sn_t1r, sn_t2l, sn_t2r, nI_clamp, x_leT, x_leF, x_ltT, x_ltF, x_eqT, x_eqF, x_le0T, x_le0F, x_0leT, x_lt0F, x_0ltT, x_0ltF, x_eq0T, x_eq0F, x_le1T, x_le1F, x_1leT, x_1leF, x_1ltT, x_1ltF, x_lt1T, x_lt1F, x_eq1T, x_eq1F, x_m1F, nI_add, nI_1, sn_mul, x_sub, x_sub1, sn_m1, l2, l3, l4, l5, l6, l7, l8, l9, l10, l11, l12, l13, l14, l15, l20, l30, l40, l48, l60, l64, l99, l100, l700, l999, not_true_eq_false, not_false_eq_true, x_t0, x_t1, lts1, x_10, x_1sub, eq_self, Nat.reduceSub, Nat.reduceAdd, Nat.reduceMul, d3, d4, lp]
    unfold wid
    rw [show A 3 s - wl A s r (A 7 r) + wh A s r (A 7 r) - A 4 s = A 3 s - wl A s r (A 7 r) + (wh A s r (A 7 r) - A 4 s) by omega]
  · intro f z _
    show F_Mo_widerFor_12B (F_Mo_widerFor_12 M f) (nI s) (nI r) (nI z.1) (nI z.2) (nI (A 7 r)) M = _
    unfold F_Mo_widerFor_12B
    rw [sn_gu (sn_in' hr (by omega)), nI_clamp (by omega), q1, if_pos (Int32.le_refl _), sn_gu (sn_in' (by omega) (by omega)), sn_gu (sn_in' (by omega) (by omega)), nI_clamp (by omega), d3, d4]
  · intro f i z hi hz
    obtain ⟨z1, z2⟩ := hz
    refine ⟨⟨by rw [z1]; rfl, by rw [z2]; rfl⟩, ?_⟩
    have e7 := q2 i hi
    have e8 := v4 i hi
    have a1 := (wl_p (A := A) (s := s) (r := r) i).1
    have b3 := (wh_p (A := A) (s := s) (r := r) i).2.2
    have b4 : z.2 ≤ 48 := by
      rw [z2]
      rcases b3 with h | ⟨k, h6, h7⟩
      · omega
      · have := v4 k (by omega); omega
    show F_Mo_widerFor_12B (F_Mo_widerFor_12 M f) (nI s) (nI r) (nI z.1) (nI z.2) (nI i) M = F_Mo_widerFor_12 M f (nI s) (nI r) (nI (if A 8 (12 * r + i) < z.1 then A 8 (12 * r + i) else z.1)) (nI (if z.2 < A 8 (12 * r + i) then A 8 (12 * r + i) else z.2)) (nI (i + 1))
    unfold F_Mo_widerFor_12B F_Mo_widerFor_33
    by_cases k1 : A 8 (12 * r + i) < z.1
    · by_cases k2 : z.2 < A 8 (12 * r + i)
      · simp (disch := omega) only [↓g_in, ↓g_c0, ↓g_c1, ↓reduceIte, ↓y_lt, ↓y_q1, ↓y_q2, ↓sn_q3, ↓sn_t1l, ↓sn_t1r, ↓sn_t2l, ↓sn_t2r, y_q1, y_q2, sn_q3, sn_t1l, sn_t1r, sn_t2l, sn_t2r, nI_clamp, x_leT, x_leF, x_ltT, x_ltF, x_eqT, x_eqF, x_le0T, x_le0F, x_0leT, x_lt0F, x_0ltT, x_0ltF, x_eq0T, x_eq0F, x_le1T, x_le1F, x_1leT, x_1leF, x_1ltT, x_1ltF, x_lt1T, x_lt1F, x_eq1T, x_eq1F, x_m1F, nI_add, nI_1, sn_mul, x_sub, x_sub1, sn_m1, l2, l3, l4, l5, l6, l7, l8, l9, l10, l11, l12, l13, l14, l15, l20, l30, l40, l48, l60, l64, l99, l100, l700, l999, not_true_eq_false, not_false_eq_true, x_t0, x_t1, lts1, x_10, x_1sub, eq_self, Nat.reduceSub, Nat.reduceAdd, Nat.reduceMul, q1, e7, k1, k2]
      · simp (disch := omega) only [↓g_in, ↓g_c0, ↓g_c1, ↓reduceIte, ↓y_lt, ↓y_q1, ↓y_q2, ↓sn_q3, ↓sn_t1l, ↓sn_t1r, ↓sn_t2l, ↓sn_t2r, y_q1, y_q2, sn_q3, sn_t1l, sn_t1r, sn_t2l, sn_t2r, nI_clamp, x_leT, x_leF, x_ltT, x_ltF, x_eqT, x_eqF, x_le0T, x_le0F, x_0leT, x_lt0F, x_0ltT, x_0ltF, x_eq0T, x_eq0F, x_le1T, x_le1F, x_1leT, x_1leF, x_1ltT, x_1ltF, x_lt1T, x_lt1F, x_eq1T, x_eq1F, x_m1F, nI_add, nI_1, sn_mul, x_sub, x_sub1, sn_m1, l2, l3, l4, l5, l6, l7, l8, l9, l10, l11, l12, l13, l14, l15, l20, l30, l40, l48, l60, l64, l99, l100, l700, l999, not_true_eq_false, not_false_eq_true, x_t0, x_t1, lts1, x_10, x_1sub, eq_self, Nat.reduceSub, Nat.reduceAdd, Nat.reduceMul, q1, e7, k1, k2]
    · by_cases k2 : z.2 < A 8 (12 * r + i)
      · simp (disch := omega) only [↓g_in, ↓g_c0, ↓g_c1, ↓reduceIte, ↓y_lt, ↓y_q1, ↓y_q2, ↓sn_q3, ↓sn_t1l, ↓sn_t1r, ↓sn_t2l, ↓sn_t2r, y_q1, y_q2, sn_q3, sn_t1l, sn_t1r, sn_t2l, sn_t2r, nI_clamp, x_leT, x_leF, x_ltT, x_ltF, x_eqT, x_eqF, x_le0T, x_le0F, x_0leT, x_lt0F, x_0ltT, x_0ltF, x_eq0T, x_eq0F, x_le1T, x_le1F, x_1leT, x_1leF, x_1ltT, x_1ltF, x_lt1T, x_lt1F, x_eq1T, x_eq1F, x_m1F, nI_add, nI_1, sn_mul, x_sub, x_sub1, sn_m1, l2, l3, l4, l5, l6, l7, l8, l9, l10, l11, l12, l13, l14, l15, l20, l30, l40, l48, l60, l64, l99, l100, l700, l999, not_true_eq_false, not_false_eq_true, x_t0, x_t1, lts1, x_10, x_1sub, eq_self, Nat.reduceSub, Nat.reduceAdd, Nat.reduceMul, q1, e7, k1, k2]
      · simp (disch := omega) only [↓g_in, ↓g_c0, ↓g_c1, ↓reduceIte, ↓y_lt, ↓y_q1, ↓y_q2, ↓sn_q3, ↓sn_t1l, ↓sn_t1r, ↓sn_t2l, ↓sn_t2r, y_q1, y_q2, sn_q3, sn_t1l, sn_t1r, sn_t2l, sn_t2r, nI_clamp, x_leT, x_leF, x_ltT, x_ltF, x_eqT, x_eqF, x_le0T, x_le0F, x_0leT, x_lt0F, x_0ltT, x_0ltF, x_eq0T, x_eq0F, x_le1T, x_le1F, x_1leT, x_1leF, x_1ltT, x_1ltF, x_lt1T, x_lt1F, x_eq1T, x_eq1F, x_m1F, nI_add, nI_1, sn_mul, x_sub, x_sub1, sn_m1, l2, l3, l4, l5, l6, l7, l8, l9, l10, l11, l12, l13, l14, l15, l20, l30, l40, l48, l60, l64, l99, l100, l700, l999, not_true_eq_false, not_false_eq_true, x_t0, x_t1, lts1, x_10, x_1sub, eq_self, Nat.reduceSub, Nat.reduceAdd, Nat.reduceMul, q1, e7, k1, k2]
/-- the row that lacks, and how much is lacking in all -/
def lks (A : sA) (x : Int32) (p j : Nat) (z : Int32 × Nat) : Int32 × Nat := if A 6 (4 * p + j) - pc (ab A x (4 * p + j) 0) = 0 then z else (nI (4 * p + j), z.2 + (A 6 (4 * p + j) - pc (ab A x (4 * p + j) 0)))
def lko (A : sA) (x : Int32) (p : Nat) : Int32 × Nat := itr (lks A x p) 4 (-1, 0)
theorem lks_p (hw : wA A) {x : Int32} {p : Nat} (hp : p < 5) : ∀ {n : Nat}, n ≤ 4 → (itr (lks A x p) n (-1, 0)).2 ≤ 4 * n ∧ ((itr (lks A x p) n (-1, 0)).2 = 0 ∨ ∃ j, j < n ∧ (itr (lks A x p) n (-1, 0)).1 = nI (4 * p + j) ∧ 0 < A 6 (4 * p + j))
  | 0, _ => ⟨Nat.le_refl _, Or.inl rfl⟩
  | n + 1, hn => by
    obtain ⟨h1, h2⟩ := lks_p hw (x := x) hp (n := n) (by omega)
    have h4 := (hw.2.2.2.2.2 (4 * p + n) (by omega)).1
    rw [itr]
    generalize itr (lks A x p) n (-1, 0) = z at *
    unfold lks
    split
    · exact ⟨by omega, h2.imp id (fun ⟨j, a, b⟩ => ⟨j, by omega, b⟩)⟩
    · exact ⟨by show z.2 + _ ≤ _; omega, Or.inr ⟨n, by omega, rfl, by omega⟩⟩
theorem c_rowLack (hw : wA A) (hc : cA A t C) {x : Int32} {p : Nat} (hp : p < 5) : F_Choir_rowLackingOne t x (nI p) C = some (if (lko A x p).2 = 1 then (lko A x p).1 else -1) := by
  unfold F_Choir_rowLackingOne lko
  have lp := lp_in (fun f j (z : Int32 × Nat) => F_Choir_rowLackingOne_6 t C f x (nI p) z.1 (nI z.2) j) (fun z => some (if z.2 = 1 then z.1 else -1)) (lks A x p) (fun j z => z = itr (lks A x p) j (-1, 0)) 4 (-1, 0) rfl (by omega) ?_ ?_
  · exact lp.1
  · intro f z hz
    have h := (lks_p hw (x := x) hp (n := 4) (by omega)).1
    rw [← hz] at h
    show F_Choir_rowLackingOne_6B t (F_Choir_rowLackingOne_6 t C f) x (nI p) z.1 (nI z.2) (nI 4) C = _
    unfold F_Choir_rowLackingOne_6B
    by_cases e : z.2 = 1
    · simp (disch := omega) only [↓g_in, ↓g_c0, ↓g_c1, ↓reduceIte, ↓y_lt, ↓y_q1, ↓y_q2, ↓sn_q3, ↓sn_t1l, ↓sn_t1r, ↓sn_t2l, ↓sn_t2r, y_q1, y_q2, sn_q3, sn_t1l, sn_t1r, sn_t2l, sn_t2r, nI_clamp, x_leT, x_leF, x_ltT, x_ltF, x_eqT, x_eqF, x_le0T, x_le0F, x_0leT, x_lt0F, x_0ltT, x_0ltF, x_eq0T, x_eq0F, x_le1T, x_le1F, x_1leT, x_1leF, x_1ltT, x_1ltF, x_lt1T, x_lt1F, x_eq1T, x_eq1F, x_m1F, nI_add, nI_1, sn_mul, x_sub, x_sub1, sn_m1, l2, l3, l4, l5, l6, l7, l8, l9, l10, l11, l12, l13, l14, l15, l20, l30, l40, l48, l60, l64, l99, l100, l700, l999, not_true_eq_false, not_false_eq_true, x_t0, x_t1, lts1, x_10, x_1sub, eq_self, Nat.reduceSub, Nat.reduceAdd, Nat.reduceMul, e]
    · simp (disch := omega) only [↓g_in, ↓g_c0, ↓g_c1, ↓reduceIte, ↓y_lt, ↓y_q1, ↓y_q2, ↓sn_q3, ↓sn_t1l, ↓sn_t1r, ↓sn_t2l, ↓sn_t2r, y_q1, y_q2, sn_q3, sn_t1l, sn_t1r, sn_t2l, sn_t2r, nI_clamp, x_leT, x_leF, x_ltT, x_ltF, x_eqT, x_eqF, x_le0T, x_le0F, x_0leT, x_lt0F, x_0ltT, x_0ltF, x_eq0T, x_eq0F, x_le1T, x_le1F, x_1leT, x_1leF, x_1ltT, x_1ltF, x_lt1T, x_lt1F, x_eq1T, x_eq1F, x_m1F, nI_add, nI_1, sn_mul, x_sub, x_sub1, sn_m1, l2, l3, l4, l5, l6, l7, l8, l9, l10, l11, l12, l13, l14, l15, l20, l30, l40, l48, l60, l64, l99, l100, l700, l999, not_true_eq_false, not_false_eq_true, x_t0, x_t1, lts1, x_10, x_1sub, eq_self, Nat.reduceSub, Nat.reduceAdd, Nat.reduceMul, e]
  · intro f j z hj hz
    refine ⟨by rw [itr, ← hz], ?_⟩
    have hr : 4 * p + j < 20 := by omega
    have h4 := (hw.2.2.2.2.2 (4 * p + j) hr).1
    show F_Choir_rowLackingOne_6B t (F_Choir_rowLackingOne_6 t C f) x (nI p) z.1 (nI z.2) (nI j) C = F_Choir_rowLackingOne_6 t C f x (nI p) (lks A x p j z).1 (nI (lks A x p j z).2) (nI (j + 1))
    unfold F_Choir_rowLackingOne_6B F_Choir_rowLackingOne_24 lks
    by_cases e : A 6 (4 * p + j) - pc (ab A x (4 * p + j) 0) = 0
    · simp (disch := omega) only [↓g_in, ↓g_c0, ↓g_c1, ↓reduceIte, ↓y_lt, ↓y_q1, ↓y_q2, ↓sn_q3, ↓sn_t1l, ↓sn_t1r, ↓sn_t2l, ↓sn_t2r, y_q1, y_q2, sn_q3, sn_t1l, sn_t1r, sn_t2l, sn_t2r, nI_clamp, x_leT, x_leF, x_ltT, x_ltF, x_eqT, x_eqF, x_le0T, x_le0F, x_0leT, x_lt0F, x_0ltT, x_0ltF, x_eq0T, x_eq0F, x_le1T, x_le1F, x_1leT, x_1leF, x_1ltT, x_1ltF, x_lt1T, x_lt1F, x_eq1T, x_eq1F, x_m1F, nI_add, nI_1, sn_mul, x_sub, x_sub1, sn_m1, l2, l3, l4, l5, l6, l7, l8, l9, l10, l11, l12, l13, l14, l15, l20, l30, l40, l48, l60, l64, l99, l100, l700, l999, not_true_eq_false, not_false_eq_true, x_t0, x_t1, lts1, x_10, x_1sub, eq_self, Nat.reduceSub, Nat.reduceAdd, Nat.reduceMul, Nat.mul_comm p 4, c_lackingIn hw hc hr, e, Nat.add_zero]
    · simp (disch := omega) only [↓g_in, ↓g_c0, ↓g_c1, ↓reduceIte, ↓y_lt, ↓y_q1, ↓y_q2, ↓sn_q3, ↓sn_t1l, ↓sn_t1r, ↓sn_t2l, ↓sn_t2r, y_q1, y_q2, sn_q3, sn_t1l, sn_t1r, sn_t2l, sn_t2r, nI_clamp, x_leT, x_leF, x_ltT, x_ltF, x_eqT, x_eqF, x_le0T, x_le0F, x_0leT, x_lt0F, x_0ltT, x_0ltF, x_eq0T, x_eq0F, x_le1T, x_le1F, x_1leT, x_1leF, x_1ltT, x_1ltF, x_lt1T, x_lt1F, x_eq1T, x_eq1F, x_m1F, nI_add, nI_1, sn_mul, x_sub, x_sub1, sn_m1, l2, l3, l4, l5, l6, l7, l8, l9, l10, l11, l12, l13, l14, l15, l20, l30, l40, l48, l60, l64, l99, l100, l700, l999, not_true_eq_false, not_false_eq_true, x_t0, x_t1, lts1, x_10, x_1sub, eq_self, Nat.reduceSub, Nat.reduceAdd, Nat.reduceMul, Nat.mul_comm p 4, c_lackingIn hw hc hr, e]
/-- who might be widened -/
def wis (A : sA) (x : Int32) (r : Nat) : Int32 := pt A (r % 4) &&& x &&& (bs (fu A r 0) 14 ^^^ -1)
def wds (A : sA) (x : Int32) (r j : Nat) (z : Int32) : Int32 := if bt (wis A x r) j then (if z = -1 ∨ wid A j r < wid A z.toNatClampNeg r then nI j else z) else z
def wdb (A : sA) (x : Int32) (r : Nat) : Int32 := itr (wds A x r) 14 (-1)
theorem wis_n (hw : wA A) {x : Int32} {r j : Nat} (h : bt (wis A x r) j = true) : j < A 0 0 := by
  unfold wis at h
  rw [b_and, b_and, bt_pt hw] at h
  simp only [Bool.and_eq_true, decide_eq_true_eq] at h
  exact h.1.1.1
theorem wdb_or (hw : wA A) {x : Int32} {r : Nat} : ∀ {n : Nat}, itr (wds A x r) n (-1) = -1 ∨ ∃ i, i < A 0 0 ∧ itr (wds A x r) n (-1) = nI i
  | 0 => Or.inl rfl
  | n + 1 => by
    rw [itr]
    have ih := wdb_or hw (x := x) (r := r) (n := n)
    generalize itr (wds A x r) n (-1) = z at *
    unfold wds
    split
    · rename_i h
      split
      · exact Or.inr ⟨n, wis_n hw h, rfl⟩
      · exact ih
    · exact ih
def few (A : sA) (r : Nat) (z : Int32) : Int32 := if z = -1 then nI 1000 else nI (wid A z.toNatClampNeg r)
theorem few_m {r : Nat} : few A r (-1) = nI 1000 := rfl
theorem few_n {r i : Nat} (h : i < 2 ^ 31) : few A r (nI i) = nI (wid A i r) := by
  unfold few
  rw [if_neg (sn_ne1 h), nI_clamp h]
theorem l1000 : (1000 : Int32) = nI 1000 := nr_ rfl
theorem c_easiest (hw : wA A) (hc : cA A t C) {x : Int32} {r : Nat} (hr : r < 20) (hq : 0 < A 6 r) : F_Choir_easiestToWiden t x (nI r) C = some (wdb A x r) := by
  have hn := hw.1
  have q4 := (hc.2.2.2.2.1 r hr).2.2.2.1
  have lp := lp_in (fun f j z => F_Choir_easiestToWiden_21 t C f (nI r) (wis A x r) z (few A r z) j) (fun z => some z) (wds A x r) (fun j z => z = itr (wds A x r) j (-1)) 14 (-1) rfl (by omega) ?_ ?_
  · have lp : F_Choir_easiestToWiden_21 t C sd_fu (nI r) (wis A x r) (-1) 1000 0 = _ := lp.1
    unfold F_Choir_easiestToWiden
    rw [sn_gu (by decide), show sd_mod (nI r) 4 = nI (r % 4) from sn_mod (b := 4) (by omega) (by omega) (by omega), c_ofPart' hc (by omega), sn_q1, sn_gu (sn_in' hr (by omega)), nI_clamp (by omega), q4, y_lt]
    exact lp
  · intro f z _
    show F_Choir_easiestToWiden_21B t (F_Choir_easiestToWiden_21 t C f) (nI r) (wis A x r) z (few A r z) (nI 14) C = _
    unfold F_Choir_easiestToWiden_21B
    simp (disch := omega) only [↓g_in, ↓g_c0, ↓g_c1, ↓reduceIte, ↓y_lt, ↓y_q1, ↓y_q2, ↓sn_q3, ↓sn_t1l, ↓sn_t1r, ↓sn_t2l, ↓sn_t2r, y_q1, y_q2, sn_q3, sn_t1l, sn_t1r, sn_t2l, sn_t2r, nI_clamp, x_leT, x_leF, x_ltT, x_ltF, x_eqT, x_eqF, x_le0T, x_le0F, x_0leT, x_lt0F, x_0ltT, x_0ltF, x_eq0T, x_eq0F, x_le1T, x_le1F, x_1leT, x_1leF, x_1ltT, x_1ltF, x_lt1T, x_lt1F, x_eq1T, x_eq1F, x_m1F, nI_add, nI_1, sn_mul, x_sub, x_sub1, sn_m1, l2, l3, l4, l5, l6, l7, l8, l9, l10, l11, l12, l13, l14, l15, l20, l30, l40, l48, l60, l64, l99, l100, l700, l999, not_true_eq_false, not_false_eq_true, x_t0, x_t1, lts1, x_10, x_1sub, eq_self, Nat.reduceSub, Nat.reduceAdd, Nat.reduceMul]
  · intro f j z hj hz
    refine ⟨by rw [itr, ← hz], ?_⟩
    show F_Choir_easiestToWiden_21B t (F_Choir_easiestToWiden_21 t C f) (nI r) (wis A x r) z (few A r z) (nI j) C = F_Choir_easiestToWiden_21 t C f (nI r) (wis A x r) (wds A x r j z) (few A r (wds A x r j z)) (nI (j + 1))
    unfold F_Choir_easiestToWiden_21B wds
    cases e : bt (wis A x r) j
    · simp (disch := omega) only [↓g_in, ↓g_c0, ↓g_c1, ↓reduceIte, ↓y_lt, ↓y_q1, ↓y_q2, ↓sn_q3, ↓sn_t1l, ↓sn_t1r, ↓sn_t2l, ↓sn_t2r, y_q1, y_q2, sn_q3, sn_t1l, sn_t1r, sn_t2l, sn_t2r, nI_clamp, x_leT, x_leF, x_ltT, x_ltF, x_eqT, x_eqF, x_le0T, x_le0F, x_0leT, x_lt0F, x_0ltT, x_0ltF, x_eq0T, x_eq0F, x_le1T, x_le1F, x_1leT, x_1leF, x_1ltT, x_1ltF, x_lt1T, x_lt1F, x_eq1T, x_eq1F, x_m1F, nI_add, nI_1, sn_mul, x_sub, x_sub1, sn_m1, l2, l3, l4, l5, l6, l7, l8, l9, l10, l11, l12, l13, l14, l15, l20, l30, l40, l48, l60, l64, l99, l100, l700, l999, not_true_eq_false, not_false_eq_true, x_t0, x_t1, lts1, x_10, x_1sub, eq_self, Nat.reduceSub, Nat.reduceAdd, Nat.reduceMul, e, Bool.false_eq_true]
    · have hjn := wis_n hw e
      have b1 := wid_b hw hjn hr
      rcases wdb_or hw (x := x) (r := r) (n := j) with h1 | ⟨i, h1, h2⟩
      · rw [h1] at hz
        subst hz
        simp (disch := omega) only [↓g_in, ↓g_c0, ↓g_c1, ↓reduceIte, ↓y_lt, ↓y_q1, ↓y_q2, ↓sn_q3, ↓sn_t1l, ↓sn_t1r, ↓sn_t2l, ↓sn_t2r, y_q1, y_q2, sn_q3, sn_t1l, sn_t1r, sn_t2l, sn_t2r, nI_clamp, x_leT, x_leF, x_ltT, x_ltF, x_eqT, x_eqF, x_le0T, x_le0F, x_0leT, x_lt0F, x_0ltT, x_0ltF, x_eq0T, x_eq0F, x_le1T, x_le1F, x_1leT, x_1leF, x_1ltT, x_1ltF, x_lt1T, x_lt1F, x_eq1T, x_eq1F, x_m1F, nI_add, nI_1, sn_mul, x_sub, x_sub1, sn_m1, l2, l3, l4, l5, l6, l7, l8, l9, l10, l11, l12, l13, l14, l15, l20, l30, l40, l48, l60, l64, l99, l100, l700, l999, not_true_eq_false, not_false_eq_true, x_t0, x_t1, lts1, x_10, x_1sub, eq_self, Nat.reduceSub, Nat.reduceAdd, Nat.reduceMul, e, Bool.true_eq_false, few_m, c_stretch hw hc hjn hr hq, true_or, few_n]
      · rw [h2] at hz
        subst hz
        have b2 := wid_b hw h1 hr
        by_cases e2 : wid A j r < wid A i r
        · simp (disch := omega) only [↓g_in, ↓g_c0, ↓g_c1, ↓reduceIte, ↓y_lt, ↓y_q1, ↓y_q2, ↓sn_q3, ↓sn_t1l, ↓sn_t1r, ↓sn_t2l, ↓sn_t2r, y_q1, y_q2, sn_q3, sn_t1l, sn_t1r, sn_t2l, sn_t2r, nI_clamp, x_leT, x_leF, x_ltT, x_ltF, x_eqT, x_eqF, x_le0T, x_le0F, x_0leT, x_lt0F, x_0ltT, x_0ltF, x_eq0T, x_eq0F, x_le1T, x_le1F, x_1leT, x_1leF, x_1ltT, x_1ltF, x_lt1T, x_lt1F, x_eq1T, x_eq1F, x_m1F, nI_add, nI_1, sn_mul, x_sub, x_sub1, sn_m1, l2, l3, l4, l5, l6, l7, l8, l9, l10, l11, l12, l13, l14, l15, l20, l30, l40, l48, l60, l64, l99, l100, l700, l999, not_true_eq_false, not_false_eq_true, x_t0, x_t1, lts1, x_10, x_1sub, eq_self, Nat.reduceSub, Nat.reduceAdd, Nat.reduceMul, e, Bool.true_eq_false, few_n, c_stretch hw hc hjn hr hq, e2, or_true]
        · simp (disch := omega) only [↓g_in, ↓g_c0, ↓g_c1, ↓reduceIte, ↓y_lt, ↓y_q1, ↓y_q2, ↓sn_q3, ↓sn_t1l, ↓sn_t1r, ↓sn_t2l, ↓sn_t2r, y_q1, y_q2, sn_q3, sn_t1l, sn_t1r, sn_t2l, sn_t2r, nI_clamp, x_leT, x_leF, x_ltT, x_ltF, x_eqT, x_eqF, x_le0T, x_le0F, x_0leT, x_lt0F, x_0ltT, x_0ltF, x_eq0T, x_eq0F, x_le1T, x_le1F, x_1leT, x_1leF, x_1ltT, x_1ltF, x_lt1T, x_lt1F, x_eq1T, x_eq1F, x_m1F, nI_add, nI_1, sn_mul, x_sub, x_sub1, sn_m1, l2, l3, l4, l5, l6, l7, l8, l9, l10, l11, l12, l13, l14, l15, l20, l30, l40, l48, l60, l64, l99, l100, l700, l999, not_true_eq_false, not_false_eq_true, x_t0, x_t1, lts1, x_10, x_1sub, eq_self, Nat.reduceSub, Nat.reduceAdd, Nat.reduceMul, e, Bool.true_eq_false, few_n, c_stretch hw hc hjn hr hq, e2, or_self]
theorem m_lackIn (hw : wA A) (hm : mA A M) {c : Nat → Int32} (hst : stR (A 0 0) (M 86) c) {r : Nat} (hr : r < 20) : F_Mo_lackingIn (nI r) M = some (nI (A 6 r - pc (ab A (c 0) r 0))) := by
  have q1 := (hm.2.2.2.2 r hr).1
  have w4 := (hw.2.2.2.2.2 r hr).1
  have hpc := pc_le (ab A (c 0) r 0)
  have e2 := mo_ableOf (A := A) (I := M) (r := r) (x := c 0) (u := 0) hw hm hr (by decide)
  have e2 : F_Mo_ableOf (c 0) (nI r) 0 M = some (ab A (c 0) r 0) := e2
  unfold F_Mo_lackingIn
  by_cases g : pc (ab A (c 0) r 0) < A 6 r
  · simp (disch := omega) only [↓g_in, ↓g_c0, ↓g_c1, ↓reduceIte, ↓y_lt, ↓y_q1, ↓y_q2, ↓sn_q3, ↓sn_t1l, ↓sn_t1r, ↓sn_t2l, ↓sn_t2r, y_q1, y_q2, sn_q3, sn_t1l, sn_t1r, sn_t2l, sn_t2r, nI_clamp, x_leT, x_leF, x_ltT, x_ltF, x_eqT, x_eqF, x_le0T, x_le0F, x_0leT, x_lt0F, x_0ltT, x_0ltF, x_eq0T, x_eq0F, x_le1T, x_le1F, x_1leT, x_1leF, x_1ltT, x_1ltF, x_lt1T, x_lt1F, x_eq1T, x_eq1F, x_m1F, nI_add, nI_1, sn_mul, x_sub, x_sub1, sn_m1, l2, l3, l4, l5, l6, l7, l8, l9, l10, l11, l12, l13, l14, l15, l20, l30, l40, l48, l60, l64, l99, l100, l700, l999, not_true_eq_false, not_false_eq_true, x_t0, x_t1, lts1, x_10, x_1sub, eq_self, Nat.reduceSub, Nat.reduceAdd, Nat.reduceMul, q1, mo_so0 hw hm hst, e2, mo_bits]
  · have g2 : nI (A 6 r) - nI (pc (ab A (c 0) r 0)) ≤ 0 := by
      rw [Int32.le_iff_toInt_le, pk_sub_toInt (by omega) (by omega), show (0 : Int32).toInt = 0 from rfl]
      omega
    simp (disch := omega) only [↓g_in, ↓g_c0, ↓g_c1, ↓reduceIte, ↓y_lt, ↓y_q1, ↓y_q2, ↓sn_q3, ↓sn_t1l, ↓sn_t1r, ↓sn_t2l, ↓sn_t2r, y_q1, y_q2, sn_q3, sn_t1l, sn_t1r, sn_t2l, sn_t2r, nI_clamp, x_leT, x_leF, x_ltT, x_ltF, x_eqT, x_eqF, x_le0T, x_le0F, x_0leT, x_lt0F, x_0ltT, x_0ltF, x_eq0T, x_eq0F, x_le1T, x_le1F, x_1leT, x_1leF, x_1ltT, x_1ltF, x_lt1T, x_lt1F, x_eq1T, x_eq1F, x_m1F, nI_add, nI_1, sn_mul, x_sub, x_sub1, sn_m1, l2, l3, l4, l5, l6, l7, l8, l9, l10, l11, l12, l13, l14, l15, l20, l30, l40, l48, l60, l64, l99, l100, l700, l999, not_true_eq_false, not_false_eq_true, x_t0, x_t1, lts1, x_10, x_1sub, eq_self, Nat.reduceSub, Nat.reduceAdd, Nat.reduceMul, q1, mo_so0 hw hm hst, e2, mo_bits, g2]
    rw [show A 6 r - pc (ab A (c 0) r 0) = 0 by omega]
    rfl
theorem q_widen (h : Rel A R t C M) (x y : Int32) : ∃ r, F_VM_widen t x y C = some r ∧ mq (F_Mo_widen x y M) M (cv r) := by
  obtain ⟨M1, hM1, h0, h, hs⟩ := h.start
  have hw := h.wa
  have hc := h.ca
  have hm := h.ma
  have hst := h.st
  have hn := hw.1
  have h5 := hw.2.1
  unfold F_VM_widen F_Mo_widen
  rw [hM1]
  rcases ix_or x (n := A 0 1) (by omega) with hx | ⟨p, hp, rfl⟩
  · refine ⟨.inr 1, by rw [c_chP0 hw hc hx]; rfl, mq_t hs (v := 0) ?_⟩
    simp (disch := omega) only [↓g_in, ↓g_c0, ↓g_c1, ↓reduceIte, ↓y_lt, ↓y_q1, ↓y_q2, ↓sn_q3, ↓sn_t1l, ↓sn_t1r, ↓sn_t2l, ↓sn_t2r, y_q1, y_q2, sn_q3, sn_t1l, sn_t1r, sn_t2l, sn_t2r, nI_clamp, x_leT, x_leF, x_ltT, x_ltF, x_eqT, x_eqF, x_le0T, x_le0F, x_0leT, x_lt0F, x_0ltT, x_0ltF, x_eq0T, x_eq0F, x_le1T, x_le1F, x_1leT, x_1leF, x_1ltT, x_1ltF, x_lt1T, x_lt1F, x_eq1T, x_eq1F, x_m1F, nI_add, nI_1, sn_mul, x_sub, x_sub1, sn_m1, l2, l3, l4, l5, l6, l7, l8, l9, l10, l11, l12, l13, l14, l15, l20, l30, l40, l48, l60, l64, l99, l100, l700, l999, not_true_eq_false, not_false_eq_true, x_t0, x_t1, lts1, x_10, x_1sub, eq_self, Nat.reduceSub, Nat.reduceAdd, Nat.reduceMul, ↓q2_of (m_isP0 hw hm h0 hx)]
  · rcases ix_or y (n := 2) (by omega) with hy | ⟨w, hk, rfl⟩
    · refine ⟨.inr 1, ?_, mq_t hs (v := 0) ?_⟩
      · rcases hy with hy | hy
        · simp (disch := omega) only [↓g_in, ↓g_c0, ↓g_c1, ↓reduceIte, ↓y_lt, ↓y_q1, ↓y_q2, ↓sn_q3, ↓sn_t1l, ↓sn_t1r, ↓sn_t2l, ↓sn_t2r, y_q1, y_q2, sn_q3, sn_t1l, sn_t1r, sn_t2l, sn_t2r, nI_clamp, x_leT, x_leF, x_ltT, x_ltF, x_eqT, x_eqF, x_le0T, x_le0F, x_0leT, x_lt0F, x_0ltT, x_0ltF, x_eq0T, x_eq0F, x_le1T, x_le1F, x_1leT, x_1leF, x_1ltT, x_1ltF, x_lt1T, x_lt1F, x_eq1T, x_eq1F, x_m1F, nI_add, nI_1, sn_mul, x_sub, x_sub1, sn_m1, l2, l3, l4, l5, l6, l7, l8, l9, l10, l11, l12, l13, l14, l15, l20, l30, l40, l48, l60, l64, l99, l100, l700, l999, not_true_eq_false, not_false_eq_true, x_t0, x_t1, lts1, x_10, x_1sub, eq_self, Nat.reduceSub, Nat.reduceAdd, Nat.reduceMul, ↓t1_of (c_chP1 hw hc hp), hy]
        · have e1 := ix_lt hy (by omega)
          have e2 : ¬ y ≤ 1 := ix_99 (n := 1) hy (by omega)
          simp (disch := omega) only [↓g_in, ↓g_c0, ↓g_c1, ↓reduceIte, ↓y_lt, ↓y_q1, ↓y_q2, ↓sn_q3, ↓sn_t1l, ↓sn_t1r, ↓sn_t2l, ↓sn_t2r, y_q1, y_q2, sn_q3, sn_t1l, sn_t1r, sn_t2l, sn_t2r, nI_clamp, x_leT, x_leF, x_ltT, x_ltF, x_eqT, x_eqF, x_le0T, x_le0F, x_0leT, x_lt0F, x_0ltT, x_0ltF, x_eq0T, x_eq0F, x_le1T, x_le1F, x_1leT, x_1leF, x_1ltT, x_1ltF, x_lt1T, x_lt1F, x_eq1T, x_eq1F, x_m1F, nI_add, nI_1, sn_mul, x_sub, x_sub1, sn_m1, l2, l3, l4, l5, l6, l7, l8, l9, l10, l11, l12, l13, l14, l15, l20, l30, l40, l48, l60, l64, l99, l100, l700, l999, not_true_eq_false, not_false_eq_true, x_t0, x_t1, lts1, x_10, x_1sub, eq_self, Nat.reduceSub, Nat.reduceAdd, Nat.reduceMul, ↓t1_of (c_chP1 hw hc hp), e1, e2]
      · simp (disch := omega) only [↓g_in, ↓g_c0, ↓g_c1, ↓reduceIte, ↓y_lt, ↓y_q1, ↓y_q2, ↓sn_q3, ↓sn_t1l, ↓sn_t1r, ↓sn_t2l, ↓sn_t2r, y_q1, y_q2, sn_q3, sn_t1l, sn_t1r, sn_t2l, sn_t2r, nI_clamp, x_leT, x_leF, x_ltT, x_ltF, x_eqT, x_eqF, x_le0T, x_le0F, x_0leT, x_lt0F, x_0ltT, x_0ltF, x_eq0T, x_eq0F, x_le1T, x_le1F, x_1leT, x_1leF, x_1ltT, x_1ltF, x_lt1T, x_lt1F, x_eq1T, x_eq1F, x_m1F, nI_add, nI_1, sn_mul, x_sub, x_sub1, sn_m1, l2, l3, l4, l5, l6, l7, l8, l9, l10, l11, l12, l13, l14, l15, l20, l30, l40, l48, l60, l64, l99, l100, l700, l999, not_true_eq_false, not_false_eq_true, x_t0, x_t1, lts1, x_10, x_1sub, eq_self, Nat.reduceSub, Nat.reduceAdd, Nat.reduceMul, ↓q2_of (m_isP1 hw hm h0 hp), ↓q2_of (m_isW0 (y := 1) (n := 1) h0 hy (by omega) rfl)]
    · have ec := c_canBeSung (p := p) (x := C 9 0) hw hc (by omega)
      have em := mo_canBeSung (p := p) (x := C 9 0) (u := 0) hw hm (by omega) (by decide)
      have em : F_Mo_canBeSung (C 9 0) (nI p) 0 M1 = some (if cs A (C 9 0) p 0 = true then 1 else 0) := em
      have hw2 := m_isW1 (M := M1) (s := w) (y := 1) (n := 1) h0 hk (by omega) rfl
      cases hcs : cs A (C 9 0) p 0
      · rw [hcs] at ec em
        have er := c_rowLack (x := C 9 0) hw hc (show p < 5 by omega)
        have lp := lp_in (fun f j (z : Int32 × Nat) => F_Mo_widen_40 f (nI p) (nI w) (C 9 0) (nI z.2) z.1 (nI (4 * p) + j) M1) (fun z => if z.2 = 1 then F_Mo_widen_84 sd_fu (nI w) (C 9 0) z.1 (-1) 0 M1 else some (-1, M1)) (lks A (C 9 0) p) (fun j z => z = itr (lks A (C 9 0) p) j (-1, 0)) 4 (-1, 0) rfl (by omega) ?_ ?_
        · have lp := lp.1
          simp only [nI_add, Nat.add_zero] at lp
          have lp : F_Mo_widen_40 sd_fu (nI p) (nI w) (C 9 0) 0 (-1) (nI (4 * p)) M1 = if (lko A (C 9 0) p).2 = 1 then F_Mo_widen_84 sd_fu (nI w) (C 9 0) (lko A (C 9 0) p).1 (-1) 0 M1 else some (-1, M1) := lp
          have hl := (lks_p hw (x := C 9 0) (show p < 5 by omega) (n := 4) (by omega)).2
          have hl : (lko A (C 9 0) p).2 = 0 ∨ ∃ j, j < 4 ∧ (lko A (C 9 0) p).1 = nI (4 * p + j) ∧ 0 < A 6 (4 * p + j) := hl
          by_cases hz : (lko A (C 9 0) p).2 = 1
          · rw [if_pos hz] at er lp
            obtain ⟨j, j1, j2, j3⟩ := hl.resolve_left (by omega)
            rw [j2] at er lp
            have hr : 4 * p + j < 20 := by omega
            have ea := c_easiest (x := C 9 0) hw hc hr j3
            have lq := lp_in (fun f s z => F_Mo_widen_84 f (nI w) (C 9 0) (nI (4 * p + j)) z s M1) (fun z => if w = 1 ∨ z = -1 then some (z, M1) else some (nI (wid A z.toNatClampNeg (4 * p + j)), M1)) (wds A (C 9 0) (4 * p + j)) (fun s z => z = itr (wds A (C 9 0) (4 * p + j)) s (-1)) (A 0 0) (-1) rfl (by omega) ?_ ?_
            · have lq : F_Mo_widen_84 sd_fu (nI w) (C 9 0) (nI (4 * p + j)) (-1) 0 M1 = _ := lq.1
              rw [lq] at lp
              have e14 : itr (wds A (C 9 0) (4 * p + j)) (A 0 0) (-1) = wdb A (C 9 0) (4 * p + j) := by
                unfold wdb
                rw [itr_to (n := A 0 0) (N := 14) hn (fun s z h1 h2 => ?_)]
                unfold wds
                cases e : bt (wis A (C 9 0) (4 * p + j)) s
                · rfl
                · have := wis_n hw e
                  omega
              rw [e14] at lp
              have hor := wdb_or hw (x := C 9 0) (r := 4 * p + j) (n := 14)
              have hor : wdb A (C 9 0) (4 * p + j) = -1 ∨ ∃ i, i < A 0 0 ∧ wdb A (C 9 0) (4 * p + j) = nI i := hor
              by_cases hw1 : w = 1
              · refine ⟨.inl (wdb A (C 9 0) (4 * p + j)), ?_, mq_v (M' := M1) ?_ h0 hs⟩
                · simp (disch := omega) only [↓g_in, ↓g_c0, ↓g_c1, ↓reduceIte, ↓y_lt, ↓y_q1, ↓y_q2, ↓sn_q3, ↓sn_t1l, ↓sn_t1r, ↓sn_t2l, ↓sn_t2r, y_q1, y_q2, sn_q3, sn_t1l, sn_t1r, sn_t2l, sn_t2r, nI_clamp, x_leT, x_leF, x_ltT, x_ltF, x_eqT, x_eqF, x_le0T, x_le0F, x_0leT, x_lt0F, x_0ltT, x_0ltF, x_eq0T, x_eq0F, x_le1T, x_le1F, x_1leT, x_1leF, x_1ltT, x_1ltF, x_lt1T, x_lt1F, x_eq1T, x_eq1F, x_m1F, nI_add, nI_1, sn_mul, x_sub, x_sub1, sn_m1, l2, l3, l4, l5, l6, l7, l8, l9, l10, l11, l12, l13, l14, l15, l20, l30, l40, l48, l60, l64, l99, l100, l700, l999, not_true_eq_false, not_false_eq_true, x_t0, x_t1, lts1, x_10, x_1sub, eq_self, Nat.reduceSub, Nat.reduceAdd, Nat.reduceMul, ↓t1_of (c_chP1 hw hc hp), ↓q1_of ec, Bool.false_eq_true, er, ea, hw1]
                · rw [if_pos (Or.inl hw1)] at lp
                  simp (disch := omega) only [↓g_in, ↓g_c0, ↓g_c1, ↓reduceIte, ↓y_lt, ↓y_q1, ↓y_q2, ↓sn_q3, ↓sn_t1l, ↓sn_t1r, ↓sn_t2l, ↓sn_t2r, y_q1, y_q2, sn_q3, sn_t1l, sn_t1r, sn_t2l, sn_t2r, nI_clamp, x_leT, x_leF, x_ltT, x_ltF, x_eqT, x_eqF, x_le0T, x_le0F, x_0leT, x_lt0F, x_0ltT, x_0ltF, x_eq0T, x_eq0F, x_le1T, x_le1F, x_1leT, x_1leF, x_1ltT, x_1ltF, x_lt1T, x_lt1F, x_eq1T, x_eq1F, x_m1F, nI_add, nI_1, sn_mul, x_sub, x_sub1, sn_m1, l2, l3, l4, l5, l6, l7, l8, l9, l10, l11, l12, l13, l14, l15, l20, l30, l40, l48, l60, l64, l99, l100, l700, l999, not_true_eq_false, not_false_eq_true, x_t0, x_t1, lts1, x_10, x_1sub, eq_self, Nat.reduceSub, Nat.reduceAdd, Nat.reduceMul, ↓q2_of (m_isP1 hw hm h0 hp), ↓q2_of hw2, ↓q1_of (mo_so0 hw hm hst), ↓q1_of em, Bool.false_eq_true]
                  exact lp
              · have hw0 : w = 0 := by omega
                rcases hor with hb | ⟨i, i1, i2⟩
                · refine ⟨.inl (-1), ?_, mq_v (M' := M1) ?_ h0 hs⟩
                  · simp (disch := omega) only [↓g_in, ↓g_c0, ↓g_c1, ↓reduceIte, ↓y_lt, ↓y_q1, ↓y_q2, ↓sn_q3, ↓sn_t1l, ↓sn_t1r, ↓sn_t2l, ↓sn_t2r, y_q1, y_q2, sn_q3, sn_t1l, sn_t1r, sn_t2l, sn_t2r, nI_clamp, x_leT, x_leF, x_ltT, x_ltF, x_eqT, x_eqF, x_le0T, x_le0F, x_0leT, x_lt0F, x_0ltT, x_0ltF, x_eq0T, x_eq0F, x_le1T, x_le1F, x_1leT, x_1leF, x_1ltT, x_1ltF, x_lt1T, x_lt1F, x_eq1T, x_eq1F, x_m1F, nI_add, nI_1, sn_mul, x_sub, x_sub1, sn_m1, l2, l3, l4, l5, l6, l7, l8, l9, l10, l11, l12, l13, l14, l15, l20, l30, l40, l48, l60, l64, l99, l100, l700, l999, not_true_eq_false, not_false_eq_true, x_t0, x_t1, lts1, x_10, x_1sub, eq_self, Nat.reduceSub, Nat.reduceAdd, Nat.reduceMul, ↓t1_of (c_chP1 hw hc hp), ↓q1_of ec, Bool.false_eq_true, er, ea, hw0, hb]
                  · rw [if_pos (Or.inr hb), hb] at lp
                    simp (disch := omega) only [↓g_in, ↓g_c0, ↓g_c1, ↓reduceIte, ↓y_lt, ↓y_q1, ↓y_q2, ↓sn_q3, ↓sn_t1l, ↓sn_t1r, ↓sn_t2l, ↓sn_t2r, y_q1, y_q2, sn_q3, sn_t1l, sn_t1r, sn_t2l, sn_t2r, nI_clamp, x_leT, x_leF, x_ltT, x_ltF, x_eqT, x_eqF, x_le0T, x_le0F, x_0leT, x_lt0F, x_0ltT, x_0ltF, x_eq0T, x_eq0F, x_le1T, x_le1F, x_1leT, x_1leF, x_1ltT, x_1ltF, x_lt1T, x_lt1F, x_eq1T, x_eq1F, x_m1F, nI_add, nI_1, sn_mul, x_sub, x_sub1, sn_m1, l2, l3, l4, l5, l6, l7, l8, l9, l10, l11, l12, l13, l14, l15, l20, l30, l40, l48, l60, l64, l99, l100, l700, l999, not_true_eq_false, not_false_eq_true, x_t0, x_t1, lts1, x_10, x_1sub, eq_self, Nat.reduceSub, Nat.reduceAdd, Nat.reduceMul, ↓q2_of (m_isP1 hw hm h0 hp), ↓q2_of hw2, ↓q1_of (mo_so0 hw hm hst), ↓q1_of em, Bool.false_eq_true]
                    exact lp
                · refine ⟨.inl (nI (wid A i (4 * p + j))), ?_, mq_v (M' := M1) ?_ h0 hs⟩
                  · simp (disch := omega) only [↓g_in, ↓g_c0, ↓g_c1, ↓reduceIte, ↓y_lt, ↓y_q1, ↓y_q2, ↓sn_q3, ↓sn_t1l, ↓sn_t1r, ↓sn_t2l, ↓sn_t2r, y_q1, y_q2, sn_q3, sn_t1l, sn_t1r, sn_t2l, sn_t2r, nI_clamp, x_leT, x_leF, x_ltT, x_ltF, x_eqT, x_eqF, x_le0T, x_le0F, x_0leT, x_lt0F, x_0ltT, x_0ltF, x_eq0T, x_eq0F, x_le1T, x_le1F, x_1leT, x_1leF, x_1ltT, x_1ltF, x_lt1T, x_lt1F, x_eq1T, x_eq1F, x_m1F, nI_add, nI_1, sn_mul, x_sub, x_sub1, sn_m1, l2, l3, l4, l5, l6, l7, l8, l9, l10, l11, l12, l13, l14, l15, l20, l30, l40, l48, l60, l64, l99, l100, l700, l999, not_true_eq_false, not_false_eq_true, x_t0, x_t1, lts1, x_10, x_1sub, eq_self, Nat.reduceSub, Nat.reduceAdd, Nat.reduceMul, ↓t1_of (c_chP1 hw hc hp), ↓q1_of ec, Bool.false_eq_true, er, ea, hw0, i2, c_stretch hw hc i1 hr j3]
                  · rw [if_neg (fun z => z.elim hw1 (fun z => sn_ne1 (show i < 2 ^ 31 by omega) (i2.symm.trans z))), i2, nI_clamp (by omega)] at lp
                    simp (disch := omega) only [↓g_in, ↓g_c0, ↓g_c1, ↓reduceIte, ↓y_lt, ↓y_q1, ↓y_q2, ↓sn_q3, ↓sn_t1l, ↓sn_t1r, ↓sn_t2l, ↓sn_t2r, y_q1, y_q2, sn_q3, sn_t1l, sn_t1r, sn_t2l, sn_t2r, nI_clamp, x_leT, x_leF, x_ltT, x_ltF, x_eqT, x_eqF, x_le0T, x_le0F, x_0leT, x_lt0F, x_0ltT, x_0ltF, x_eq0T, x_eq0F, x_le1T, x_le1F, x_1leT, x_1leF, x_1ltT, x_1ltF, x_lt1T, x_lt1F, x_eq1T, x_eq1F, x_m1F, nI_add, nI_1, sn_mul, x_sub, x_sub1, sn_m1, l2, l3, l4, l5, l6, l7, l8, l9, l10, l11, l12, l13, l14, l15, l20, l30, l40, l48, l60, l64, l99, l100, l700, l999, not_true_eq_false, not_false_eq_true, x_t0, x_t1, lts1, x_10, x_1sub, eq_self, Nat.reduceSub, Nat.reduceAdd, Nat.reduceMul, ↓q2_of (m_isP1 hw hm h0 hp), ↓q2_of hw2, ↓q1_of (mo_so0 hw hm hst), ↓q1_of em, Bool.false_eq_true]
                    exact lp
            · intro f z hz
              show F_Mo_widen_84B (F_Mo_widen_84 f) (nI w) (C 9 0) (nI (4 * p + j)) z (nI (A 0 0)) M1 = _
              unfold F_Mo_widen_84B
              by_cases hw1 : w = 1
              · simp (disch := omega) only [↓g_in, ↓g_c0, ↓g_c1, ↓reduceIte, ↓y_lt, ↓y_q1, ↓y_q2, ↓sn_q3, ↓sn_t1l, ↓sn_t1r, ↓sn_t2l, ↓sn_t2r, y_q1, y_q2, sn_q3, sn_t1l, sn_t1r, sn_t2l, sn_t2r, nI_clamp, x_leT, x_leF, x_ltT, x_ltF, x_eqT, x_eqF, x_le0T, x_le0F, x_0leT, x_lt0F, x_0ltT, x_0ltF, x_eq0T, x_eq0F, x_le1T, x_le1F, x_1leT, x_1leF, x_1ltT, x_1ltF, x_lt1T, x_lt1F, x_eq1T, x_eq1F, x_m1F, nI_add, nI_1, sn_mul, x_sub, x_sub1, sn_m1, l2, l3, l4, l5, l6, l7, l8, l9, l10, l11, l12, l13, l14, l15, l20, l30, l40, l48, l60, l64, l99, l100, l700, l999, not_true_eq_false, not_false_eq_true, x_t0, x_t1, lts1, x_10, x_1sub, eq_self, Nat.reduceSub, Nat.reduceAdd, Nat.reduceMul, hm.1, hw1, true_or]
              · rcases wdb_or hw (x := C 9 0) (r := 4 * p + j) (n := A 0 0) with h1 | ⟨i, h1, h2⟩
                · rw [h1] at hz
                  subst hz
                  simp (disch := omega) only [↓g_in, ↓g_c0, ↓g_c1, ↓reduceIte, ↓y_lt, ↓y_q1, ↓y_q2, ↓sn_q3, ↓sn_t1l, ↓sn_t1r, ↓sn_t2l, ↓sn_t2r, y_q1, y_q2, sn_q3, sn_t1l, sn_t1r, sn_t2l, sn_t2r, nI_clamp, x_leT, x_leF, x_ltT, x_ltF, x_eqT, x_eqF, x_le0T, x_le0F, x_0leT, x_lt0F, x_0ltT, x_0ltF, x_eq0T, x_eq0F, x_le1T, x_le1F, x_1leT, x_1leF, x_1ltT, x_1ltF, x_lt1T, x_lt1F, x_eq1T, x_eq1F, x_m1F, nI_add, nI_1, sn_mul, x_sub, x_sub1, sn_m1, l2, l3, l4, l5, l6, l7, l8, l9, l10, l11, l12, l13, l14, l15, l20, l30, l40, l48, l60, l64, l99, l100, l700, l999, not_true_eq_false, not_false_eq_true, x_t0, x_t1, lts1, x_10, x_1sub, eq_self, Nat.reduceSub, Nat.reduceAdd, Nat.reduceMul, hm.1, hw1, or_true]
                · rw [h2] at hz
                  subst hz
                  simp (disch := omega) only [↓g_in, ↓g_c0, ↓g_c1, ↓reduceIte, ↓y_lt, ↓y_q1, ↓y_q2, ↓sn_q3, ↓sn_t1l, ↓sn_t1r, ↓sn_t2l, ↓sn_t2r, y_q1, y_q2, sn_q3, sn_t1l, sn_t1r, sn_t2l, sn_t2r, nI_clamp, x_leT, x_leF, x_ltT, x_ltF, x_eqT, x_eqF, x_le0T, x_le0F, x_0leT, x_lt0F, x_0ltT, x_0ltF, x_eq0T, x_eq0F, x_le1T, x_le1F, x_1leT, x_1leF, x_1ltT, x_1ltF, x_lt1T, x_lt1F, x_eq1T, x_eq1F, x_m1F, nI_add, nI_1, sn_mul, x_sub, x_sub1, sn_m1, l2, l3, l4, l5, l6, l7, l8, l9, l10, l11, l12, l13, l14, l15, l20, l30, l40, l48, l60, l64, l99, l100, l700, l999, not_true_eq_false, not_false_eq_true, x_t0, x_t1, lts1, x_10, x_1sub, eq_self, Nat.reduceSub, Nat.reduceAdd, Nat.reduceMul, hm.1, hw1, m_wider hw hm h1 hr j3, or_self]
            · intro f s z hs1 hz
              refine ⟨by rw [itr, ← hz], ?_⟩
              obtain ⟨-, m2, -⟩ := hm.2.2.2.1 s hs1
              obtain ⟨-, w2, -⟩ := hw.2.2.2.2.1 s hs1
              have eh := mo_hasAll (u := 0) hw hm hs1 hr j3 (by decide)
              have b1 := wid_b hw hs1 hr
              show F_Mo_widen_84B (F_Mo_widen_84 f) (nI w) (C 9 0) (nI (4 * p + j)) z (nI s) M1 = F_Mo_widen_84 f (nI w) (C 9 0) (nI (4 * p + j)) (wds A (C 9 0) (4 * p + j) s z) (nI (s + 1)) M1
              have ebt : bt (wis A (C 9 0) (4 * p + j)) s = (bt (C 9 0) s && decide (A 2 s = (4 * p + j) % 4) && !((List.range (A 7 (4 * p + j))).all fun i => decide ((A 3 s : Int) ≤ A 8 (12 * (4 * p + j) + i) + (0 : Int32).toInt) && decide ((A 8 (12 * (4 * p + j) + i) : Int) + (0 : Int32).toInt ≤ A 4 s))) := by
                unfold wis
                rw [b_and, b_and, bt_pt hw, bt_not (by omega), bt_bs (by omega) (by omega), decide_eq_true hs1, decide_eq_true (show s < 14 by omega), Bool.true_and, Bool.true_and]
                unfold fu
                rw [decide_eq_true hs1, decide_eq_true j3, Bool.true_and, Bool.true_and, show (0 : Int32).toInt = 0 from rfl]
                cases bt (C 9 0) s <;> cases decide (A 2 s = (4 * p + j) % 4) <;> rfl
              unfold F_Mo_widen_84B wds
              rw [ebt]
              generalize ((List.range (A 7 (4 * p + j))).all fun i => decide ((A 3 s : Int) ≤ A 8 (12 * (4 * p + j) + i) + (0 : Int32).toInt) && decide ((A 8 (12 * (4 * p + j) + i) : Int) + (0 : Int32).toInt ≤ A 4 s)) = al9 at *
              have emd : sd_mod (nI (4 * p + j)) (nI 4) = nI ((4 * p + j) % 4) := sn_mod (b := 4) (by omega) (by omega) (by omega)
              have g4 : ∀ {α : Type} {o : Option α}, sd_gu (¬ (nI 4 : Int32) = 0) o = o := fun {α o} => sn_gu (by decide)
              have g4' : ∀ {α : Type} {o : Option α}, sd_gu (¬ (4 : Int32) = 0) o = o := fun {α o} => sn_gu (by decide)
              cases e1 : bt (C 9 0) s
              · simp (disch := omega) only [↓g_in, ↓g_c0, ↓g_c1, ↓reduceIte, ↓y_lt, ↓y_q1, ↓y_q2, ↓sn_q3, ↓sn_t1l, ↓sn_t1r, ↓sn_t2l, ↓sn_t2r, y_q1, y_q2, sn_q3, sn_t1l, sn_t1r, sn_t2l, sn_t2r, nI_clamp, x_leT, x_leF, x_ltT, x_ltF, x_eqT, x_eqF, x_le0T, x_le0F, x_0leT, x_lt0F, x_0ltT, x_0ltF, x_eq0T, x_eq0F, x_le1T, x_le1F, x_1leT, x_1leF, x_1ltT, x_1ltF, x_lt1T, x_lt1F, x_eq1T, x_eq1F, x_m1F, nI_add, nI_1, sn_mul, x_sub, x_sub1, sn_m1, l2, l3, l4, l5, l6, l7, l8, l9, l10, l11, l12, l13, l14, l15, l20, l30, l40, l48, l60, l64, l99, l100, l700, l999, not_true_eq_false, not_false_eq_true, x_t0, x_t1, lts1, x_10, x_1sub, eq_self, Nat.reduceSub, Nat.reduceAdd, Nat.reduceMul, hm.1, e1, Bool.false_and, Bool.false_eq_true]
              · by_cases e2 : A 2 s = (4 * p + j) % 4
                · cases al9
                  · rcases wdb_or hw (x := C 9 0) (r := 4 * p + j) (n := s) with h1 | ⟨i, h1, h2⟩
                    · rw [h1] at hz
                      subst hz
                      simp (disch := omega) only [↓g_in, ↓g_c0, ↓g_c1, ↓reduceIte, ↓y_lt, ↓y_q1, ↓y_q2, ↓sn_q3, ↓sn_t1l, ↓sn_t1r, ↓sn_t2l, ↓sn_t2r, y_q1, y_q2, sn_q3, sn_t1l, sn_t1r, sn_t2l, sn_t2r, nI_clamp, x_leT, x_leF, x_ltT, x_ltF, x_eqT, x_eqF, x_le0T, x_le0F, x_0leT, x_lt0F, x_0ltT, x_0ltF, x_eq0T, x_eq0F, x_le1T, x_le1F, x_1leT, x_1leF, x_1ltT, x_1ltF, x_lt1T, x_lt1F, x_eq1T, x_eq1F, x_m1F, nI_add, nI_1, sn_mul, x_sub, x_sub1, sn_m1, l2, l3, l4, l5, l6, l7, l8, l9, l10, l11, l12, l13, l14, l15, l20, l30, l40, l48, l60, l64, l99, l100, l700, l999, not_true_eq_false, not_false_eq_true, x_t0, x_t1, lts1, x_10, x_1sub, eq_self, Nat.reduceSub, Nat.reduceAdd, Nat.reduceMul, hm.1, e1, Bool.true_eq_false, ↓g4', g4, m2, emd, e2, eh, decide_true, Bool.not_false, Bool.and_self, Bool.false_eq_true, true_or]
                    · rw [h2] at hz
                      subst hz
                      have b2 := wid_b hw h1 hr
                      by_cases e3 : wid A s (4 * p + j) < wid A i (4 * p + j)
                      · simp (disch := omega) only [↓g_in, ↓g_c0, ↓g_c1, ↓reduceIte, ↓y_lt, ↓y_q1, ↓y_q2, ↓sn_q3, ↓sn_t1l, ↓sn_t1r, ↓sn_t2l, ↓sn_t2r, y_q1, y_q2, sn_q3, sn_t1l, sn_t1r, sn_t2l, sn_t2r, nI_clamp, x_leT, x_leF, x_ltT, x_ltF, x_eqT, x_eqF, x_le0T, x_le0F, x_0leT, x_lt0F, x_0ltT, x_0ltF, x_eq0T, x_eq0F, x_le1T, x_le1F, x_1leT, x_1leF, x_1ltT, x_1ltF, x_lt1T, x_lt1F, x_eq1T, x_eq1F, x_m1F, nI_add, nI_1, sn_mul, x_sub, x_sub1, sn_m1, l2, l3, l4, l5, l6, l7, l8, l9, l10, l11, l12, l13, l14, l15, l20, l30, l40, l48, l60, l64, l99, l100, l700, l999, not_true_eq_false, not_false_eq_true, x_t0, x_t1, lts1, x_10, x_1sub, eq_self, Nat.reduceSub, Nat.reduceAdd, Nat.reduceMul, hm.1, e1, Bool.true_eq_false, ↓g4', g4, m2, emd, e2, eh, decide_true, Bool.not_false, Bool.and_self, Bool.false_eq_true, m_wider hw hm h1 hr j3, m_wider hw hm hs1 hr j3, e3, or_true]
                      · simp (disch := omega) only [↓g_in, ↓g_c0, ↓g_c1, ↓reduceIte, ↓y_lt, ↓y_q1, ↓y_q2, ↓sn_q3, ↓sn_t1l, ↓sn_t1r, ↓sn_t2l, ↓sn_t2r, y_q1, y_q2, sn_q3, sn_t1l, sn_t1r, sn_t2l, sn_t2r, nI_clamp, x_leT, x_leF, x_ltT, x_ltF, x_eqT, x_eqF, x_le0T, x_le0F, x_0leT, x_lt0F, x_0ltT, x_0ltF, x_eq0T, x_eq0F, x_le1T, x_le1F, x_1leT, x_1leF, x_1ltT, x_1ltF, x_lt1T, x_lt1F, x_eq1T, x_eq1F, x_m1F, nI_add, nI_1, sn_mul, x_sub, x_sub1, sn_m1, l2, l3, l4, l5, l6, l7, l8, l9, l10, l11, l12, l13, l14, l15, l20, l30, l40, l48, l60, l64, l99, l100, l700, l999, not_true_eq_false, not_false_eq_true, x_t0, x_t1, lts1, x_10, x_1sub, eq_self, Nat.reduceSub, Nat.reduceAdd, Nat.reduceMul, hm.1, e1, Bool.true_eq_false, ↓g4', g4, m2, emd, e2, eh, decide_true, Bool.not_false, Bool.and_self, Bool.false_eq_true, m_wider hw hm h1 hr j3, m_wider hw hm hs1 hr j3, e3, or_self]
                  · simp (disch := omega) only [↓g_in, ↓g_c0, ↓g_c1, ↓reduceIte, ↓y_lt, ↓y_q1, ↓y_q2, ↓sn_q3, ↓sn_t1l, ↓sn_t1r, ↓sn_t2l, ↓sn_t2r, y_q1, y_q2, sn_q3, sn_t1l, sn_t1r, sn_t2l, sn_t2r, nI_clamp, x_leT, x_leF, x_ltT, x_ltF, x_eqT, x_eqF, x_le0T, x_le0F, x_0leT, x_lt0F, x_0ltT, x_0ltF, x_eq0T, x_eq0F, x_le1T, x_le1F, x_1leT, x_1leF, x_1ltT, x_1ltF, x_lt1T, x_lt1F, x_eq1T, x_eq1F, x_m1F, nI_add, nI_1, sn_mul, x_sub, x_sub1, sn_m1, l2, l3, l4, l5, l6, l7, l8, l9, l10, l11, l12, l13, l14, l15, l20, l30, l40, l48, l60, l64, l99, l100, l700, l999, not_true_eq_false, not_false_eq_true, x_t0, x_t1, lts1, x_10, x_1sub, eq_self, Nat.reduceSub, Nat.reduceAdd, Nat.reduceMul, hm.1, e1, Bool.true_eq_false, ↓g4', g4, m2, emd, e2, eh, decide_true, Bool.not_true, Bool.and_false, Bool.false_eq_true]
                · simp (disch := omega) only [↓g_in, ↓g_c0, ↓g_c1, ↓reduceIte, ↓y_lt, ↓y_q1, ↓y_q2, ↓sn_q3, ↓sn_t1l, ↓sn_t1r, ↓sn_t2l, ↓sn_t2r, y_q1, y_q2, sn_q3, sn_t1l, sn_t1r, sn_t2l, sn_t2r, nI_clamp, x_leT, x_leF, x_ltT, x_ltF, x_eqT, x_eqF, x_le0T, x_le0F, x_0leT, x_lt0F, x_0ltT, x_0ltF, x_eq0T, x_eq0F, x_le1T, x_le1F, x_1leT, x_1leF, x_1ltT, x_1ltF, x_lt1T, x_lt1F, x_eq1T, x_eq1F, x_m1F, nI_add, nI_1, sn_mul, x_sub, x_sub1, sn_m1, l2, l3, l4, l5, l6, l7, l8, l9, l10, l11, l12, l13, l14, l15, l20, l30, l40, l48, l60, l64, l99, l100, l700, l999, not_true_eq_false, not_false_eq_true, x_t0, x_t1, lts1, x_10, x_1sub, eq_self, Nat.reduceSub, Nat.reduceAdd, Nat.reduceMul, hm.1, e1, Bool.true_eq_false, ↓g4', g4, m2, emd, e2, decide_false, Bool.and_false, Bool.false_and, Bool.false_eq_true]
          · rw [if_neg hz] at er lp
            refine ⟨.inl (-1), ?_, mq_v (M' := M1) ?_ h0 hs⟩
            · simp (disch := omega) only [↓g_in, ↓g_c0, ↓g_c1, ↓reduceIte, ↓y_lt, ↓y_q1, ↓y_q2, ↓sn_q3, ↓sn_t1l, ↓sn_t1r, ↓sn_t2l, ↓sn_t2r, y_q1, y_q2, sn_q3, sn_t1l, sn_t1r, sn_t2l, sn_t2r, nI_clamp, x_leT, x_leF, x_ltT, x_ltF, x_eqT, x_eqF, x_le0T, x_le0F, x_0leT, x_lt0F, x_0ltT, x_0ltF, x_eq0T, x_eq0F, x_le1T, x_le1F, x_1leT, x_1leF, x_1ltT, x_1ltF, x_lt1T, x_lt1F, x_eq1T, x_eq1F, x_m1F, nI_add, nI_1, sn_mul, x_sub, x_sub1, sn_m1, l2, l3, l4, l5, l6, l7, l8, l9, l10, l11, l12, l13, l14, l15, l20, l30, l40, l48, l60, l64, l99, l100, l700, l999, not_true_eq_false, not_false_eq_true, x_t0, x_t1, lts1, x_10, x_1sub, eq_self, Nat.reduceSub, Nat.reduceAdd, Nat.reduceMul, ↓t1_of (c_chP1 hw hc hp), ↓q1_of ec, Bool.false_eq_true, er]
            · simp (disch := omega) only [↓g_in, ↓g_c0, ↓g_c1, ↓reduceIte, ↓y_lt, ↓y_q1, ↓y_q2, ↓sn_q3, ↓sn_t1l, ↓sn_t1r, ↓sn_t2l, ↓sn_t2r, y_q1, y_q2, sn_q3, sn_t1l, sn_t1r, sn_t2l, sn_t2r, nI_clamp, x_leT, x_leF, x_ltT, x_ltF, x_eqT, x_eqF, x_le0T, x_le0F, x_0leT, x_lt0F, x_0ltT, x_0ltF, x_eq0T, x_eq0F, x_le1T, x_le1F, x_1leT, x_1leF, x_1ltT, x_1ltF, x_lt1T, x_lt1F, x_eq1T, x_eq1F, x_m1F, nI_add, nI_1, sn_mul, x_sub, x_sub1, sn_m1, l2, l3, l4, l5, l6, l7, l8, l9, l10, l11, l12, l13, l14, l15, l20, l30, l40, l48, l60, l64, l99, l100, l700, l999, not_true_eq_false, not_false_eq_true, x_t0, x_t1, lts1, x_10, x_1sub, eq_self, Nat.reduceSub, Nat.reduceAdd, Nat.reduceMul, ↓q2_of (m_isP1 hw hm h0 hp), ↓q2_of hw2, ↓q1_of (mo_so0 hw hm hst), ↓q1_of em, Bool.false_eq_true]
              exact lp
        · intro f z hz
          have h := (lks_p hw (x := C 9 0) (show p < 5 by omega) (n := 4) (by omega)).1
          rw [← hz] at h
          show F_Mo_widen_40B (F_Mo_widen_40 f) (nI p) (nI w) (C 9 0) (nI z.2) z.1 (nI (4 * p) + nI 4) M1 = _
          unfold F_Mo_widen_40B
          by_cases e : z.2 = 1
          · simp (disch := omega) only [↓g_in, ↓g_c0, ↓g_c1, ↓reduceIte, ↓y_lt, ↓y_q1, ↓y_q2, ↓sn_q3, ↓sn_t1l, ↓sn_t1r, ↓sn_t2l, ↓sn_t2r, y_q1, y_q2, sn_q3, sn_t1l, sn_t1r, sn_t2l, sn_t2r, nI_clamp, x_leT, x_leF, x_ltT, x_ltF, x_eqT, x_eqF, x_le0T, x_le0F, x_0leT, x_lt0F, x_0ltT, x_0ltF, x_eq0T, x_eq0F, x_le1T, x_le1F, x_1leT, x_1leF, x_1ltT, x_1ltF, x_lt1T, x_lt1F, x_eq1T, x_eq1F, x_m1F, nI_add, nI_1, sn_mul, x_sub, x_sub1, sn_m1, l2, l3, l4, l5, l6, l7, l8, l9, l10, l11, l12, l13, l14, l15, l20, l30, l40, l48, l60, l64, l99, l100, l700, l999, not_true_eq_false, not_false_eq_true, x_t0, x_t1, lts1, x_10, x_1sub, eq_self, Nat.reduceSub, Nat.reduceAdd, Nat.reduceMul, e]
          · simp (disch := omega) only [↓g_in, ↓g_c0, ↓g_c1, ↓reduceIte, ↓y_lt, ↓y_q1, ↓y_q2, ↓sn_q3, ↓sn_t1l, ↓sn_t1r, ↓sn_t2l, ↓sn_t2r, y_q1, y_q2, sn_q3, sn_t1l, sn_t1r, sn_t2l, sn_t2r, nI_clamp, x_leT, x_leF, x_ltT, x_ltF, x_eqT, x_eqF, x_le0T, x_le0F, x_0leT, x_lt0F, x_0ltT, x_0ltF, x_eq0T, x_eq0F, x_le1T, x_le1F, x_1leT, x_1leF, x_1ltT, x_1ltF, x_lt1T, x_lt1F, x_eq1T, x_eq1F, x_m1F, nI_add, nI_1, sn_mul, x_sub, x_sub1, sn_m1, l2, l3, l4, l5, l6, l7, l8, l9, l10, l11, l12, l13, l14, l15, l20, l30, l40, l48, l60, l64, l99, l100, l700, l999, not_true_eq_false, not_false_eq_true, x_t0, x_t1, lts1, x_10, x_1sub, eq_self, Nat.reduceSub, Nat.reduceAdd, Nat.reduceMul, e]
        · intro f j z hj hz
          refine ⟨by rw [itr, ← hz], ?_⟩
          have hr : 4 * p + j < 20 := by omega
          have h4 := (hw.2.2.2.2.2 (4 * p + j) hr).1
          have q1 := (hm.2.2.2.2 (4 * p + j) hr).1
          show F_Mo_widen_40B (F_Mo_widen_40 f) (nI p) (nI w) (C 9 0) (nI z.2) z.1 (nI (4 * p) + nI j) M1 = F_Mo_widen_40 f (nI p) (nI w) (C 9 0) (nI (lks A (C 9 0) p j z).2) (lks A (C 9 0) p j z).1 (nI (4 * p) + nI (j + 1)) M1
          have z0 : nI z.2 + nI 0 = nI z.2 := by rw [nI_add]; rfl
          unfold F_Mo_widen_40B F_Mo_widen_58 lks
          by_cases e0 : A 6 (4 * p + j) = 0
          · simp (disch := omega) only [↓g_in, ↓g_c0, ↓g_c1, ↓reduceIte, ↓y_lt, ↓y_q1, ↓y_q2, ↓sn_q3, ↓sn_t1l, ↓sn_t1r, ↓sn_t2l, ↓sn_t2r, y_q1, y_q2, sn_q3, sn_t1l, sn_t1r, sn_t2l, sn_t2r, nI_clamp, x_leT, x_leF, x_ltT, x_ltF, x_eqT, x_eqF, x_le0T, x_le0F, x_0leT, x_lt0F, x_0ltT, x_0ltF, x_eq0T, x_eq0F, x_le1T, x_le1F, x_1leT, x_1leF, x_1ltT, x_1ltF, x_lt1T, x_lt1F, x_eq1T, x_eq1F, x_m1F, nI_add, nI_1, sn_mul, x_sub, x_sub1, sn_m1, l2, l3, l4, l5, l6, l7, l8, l9, l10, l11, l12, l13, l14, l15, l20, l30, l40, l48, l60, l64, l99, l100, l700, l999, not_true_eq_false, not_false_eq_true, x_t0, x_t1, lts1, x_10, x_1sub, eq_self, Nat.reduceSub, Nat.reduceAdd, Nat.reduceMul, q1, e0, Nat.zero_sub, Nat.add_assoc, Int32.add_zero]
          · by_cases e : A 6 (4 * p + j) - pc (ab A (C 9 0) (4 * p + j) 0) = 0
            · simp (disch := omega) only [↓g_in, ↓g_c0, ↓g_c1, ↓reduceIte, ↓y_lt, ↓y_q1, ↓y_q2, ↓sn_q3, ↓sn_t1l, ↓sn_t1r, ↓sn_t2l, ↓sn_t2r, y_q1, y_q2, sn_q3, sn_t1l, sn_t1r, sn_t2l, sn_t2r, nI_clamp, x_leT, x_leF, x_ltT, x_ltF, x_eqT, x_eqF, x_le0T, x_le0F, x_0leT, x_lt0F, x_0ltT, x_0ltF, x_eq0T, x_eq0F, x_le1T, x_le1F, x_1leT, x_1leF, x_1ltT, x_1ltF, x_lt1T, x_lt1F, x_eq1T, x_eq1F, x_m1F, nI_add, nI_1, sn_mul, x_sub, x_sub1, sn_m1, l2, l3, l4, l5, l6, l7, l8, l9, l10, l11, l12, l13, l14, l15, l20, l30, l40, l48, l60, l64, l99, l100, l700, l999, not_true_eq_false, not_false_eq_true, x_t0, x_t1, lts1, x_10, x_1sub, eq_self, Nat.reduceSub, Nat.reduceAdd, Nat.reduceMul, q1, e0, m_lackIn hw hm hst hr, e, Nat.add_assoc, Nat.add_zero]
            · simp (disch := omega) only [↓g_in, ↓g_c0, ↓g_c1, ↓reduceIte, ↓y_lt, ↓y_q1, ↓y_q2, ↓sn_q3, ↓sn_t1l, ↓sn_t1r, ↓sn_t2l, ↓sn_t2r, y_q1, y_q2, sn_q3, sn_t1l, sn_t1r, sn_t2l, sn_t2r, nI_clamp, x_leT, x_leF, x_ltT, x_ltF, x_eqT, x_eqF, x_le0T, x_le0F, x_0leT, x_lt0F, x_0ltT, x_0ltF, x_eq0T, x_eq0F, x_le1T, x_le1F, x_1leT, x_1leF, x_1ltT, x_1ltF, x_lt1T, x_lt1F, x_eq1T, x_eq1F, x_m1F, nI_add, nI_1, sn_mul, x_sub, x_sub1, sn_m1, l2, l3, l4, l5, l6, l7, l8, l9, l10, l11, l12, l13, l14, l15, l20, l30, l40, l48, l60, l64, l99, l100, l700, l999, not_true_eq_false, not_false_eq_true, x_t0, x_t1, lts1, x_10, x_1sub, eq_self, Nat.reduceSub, Nat.reduceAdd, Nat.reduceMul, q1, e0, m_lackIn hw hm hst hr, e, Nat.add_assoc]
      · rw [hcs] at ec em
        by_cases hw1 : w = 0
        · refine ⟨.inl 0, ?_, mq_v (M' := M1) ?_ h0 hs⟩
          · simp (disch := omega) only [↓g_in, ↓g_c0, ↓g_c1, ↓reduceIte, ↓y_lt, ↓y_q1, ↓y_q2, ↓sn_q3, ↓sn_t1l, ↓sn_t1r, ↓sn_t2l, ↓sn_t2r, y_q1, y_q2, sn_q3, sn_t1l, sn_t1r, sn_t2l, sn_t2r, nI_clamp, x_leT, x_leF, x_ltT, x_ltF, x_eqT, x_eqF, x_le0T, x_le0F, x_0leT, x_lt0F, x_0ltT, x_0ltF, x_eq0T, x_eq0F, x_le1T, x_le1F, x_1leT, x_1leF, x_1ltT, x_1ltF, x_lt1T, x_lt1F, x_eq1T, x_eq1F, x_m1F, nI_add, nI_1, sn_mul, x_sub, x_sub1, sn_m1, l2, l3, l4, l5, l6, l7, l8, l9, l10, l11, l12, l13, l14, l15, l20, l30, l40, l48, l60, l64, l99, l100, l700, l999, not_true_eq_false, not_false_eq_true, x_t0, x_t1, lts1, x_10, x_1sub, eq_self, Nat.reduceSub, Nat.reduceAdd, Nat.reduceMul, ↓t1_of (c_chP1 hw hc hp), ↓q1_of ec, hw1]
          · simp (disch := omega) only [↓g_in, ↓g_c0, ↓g_c1, ↓reduceIte, ↓y_lt, ↓y_q1, ↓y_q2, ↓sn_q3, ↓sn_t1l, ↓sn_t1r, ↓sn_t2l, ↓sn_t2r, y_q1, y_q2, sn_q3, sn_t1l, sn_t1r, sn_t2l, sn_t2r, nI_clamp, x_leT, x_leF, x_ltT, x_ltF, x_eqT, x_eqF, x_le0T, x_le0F, x_0leT, x_lt0F, x_0ltT, x_0ltF, x_eq0T, x_eq0F, x_le1T, x_le1F, x_1leT, x_1leF, x_1ltT, x_1ltF, x_lt1T, x_lt1F, x_eq1T, x_eq1F, x_m1F, nI_add, nI_1, sn_mul, x_sub, x_sub1, sn_m1, l2, l3, l4, l5, l6, l7, l8, l9, l10, l11, l12, l13, l14, l15, l20, l30, l40, l48, l60, l64, l99, l100, l700, l999, not_true_eq_false, not_false_eq_true, x_t0, x_t1, lts1, x_10, x_1sub, eq_self, Nat.reduceSub, Nat.reduceAdd, Nat.reduceMul, ↓q2_of (m_isP1 hw hm h0 hp), ↓q2_of hw2, ↓q1_of (mo_so0 hw hm hst), ↓q1_of em, hw1]
        · refine ⟨.inl (-1), ?_, mq_v (M' := M1) ?_ h0 hs⟩
          · simp (disch := omega) only [↓g_in, ↓g_c0, ↓g_c1, ↓reduceIte, ↓y_lt, ↓y_q1, ↓y_q2, ↓sn_q3, ↓sn_t1l, ↓sn_t1r, ↓sn_t2l, ↓sn_t2r, y_q1, y_q2, sn_q3, sn_t1l, sn_t1r, sn_t2l, sn_t2r, nI_clamp, x_leT, x_leF, x_ltT, x_ltF, x_eqT, x_eqF, x_le0T, x_le0F, x_0leT, x_lt0F, x_0ltT, x_0ltF, x_eq0T, x_eq0F, x_le1T, x_le1F, x_1leT, x_1leF, x_1ltT, x_1ltF, x_lt1T, x_lt1F, x_eq1T, x_eq1F, x_m1F, nI_add, nI_1, sn_mul, x_sub, x_sub1, sn_m1, l2, l3, l4, l5, l6, l7, l8, l9, l10, l11, l12, l13, l14, l15, l20, l30, l40, l48, l60, l64, l99, l100, l700, l999, not_true_eq_false, not_false_eq_true, x_t0, x_t1, lts1, x_10, x_1sub, eq_self, Nat.reduceSub, Nat.reduceAdd, Nat.reduceMul, ↓t1_of (c_chP1 hw hc hp), ↓q1_of ec, hw1]
          · simp (disch := omega) only [↓g_in, ↓g_c0, ↓g_c1, ↓reduceIte, ↓y_lt, ↓y_q1, ↓y_q2, ↓sn_q3, ↓sn_t1l, ↓sn_t1r, ↓sn_t2l, ↓sn_t2r, y_q1, y_q2, sn_q3, sn_t1l, sn_t1r, sn_t2l, sn_t2r, nI_clamp, x_leT, x_leF, x_ltT, x_ltF, x_eqT, x_eqF, x_le0T, x_le0F, x_0leT, x_lt0F, x_0ltT, x_0ltF, x_eq0T, x_eq0F, x_le1T, x_le1F, x_1leT, x_1leF, x_1ltT, x_1ltF, x_lt1T, x_lt1F, x_eq1T, x_eq1F, x_m1F, nI_add, nI_1, sn_mul, x_sub, x_sub1, sn_m1, l2, l3, l4, l5, l6, l7, l8, l9, l10, l11, l12, l13, l14, l15, l20, l30, l40, l48, l60, l64, l99, l100, l700, l999, not_true_eq_false, not_false_eq_true, x_t0, x_t1, lts1, x_10, x_1sub, eq_self, Nat.reduceSub, Nat.reduceAdd, Nat.reduceMul, ↓q2_of (m_isP1 hw hm h0 hp), ↓q2_of hw2, ↓q1_of (mo_so0 hw hm hst), ↓q1_of em, hw1]
end QU
