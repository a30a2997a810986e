/-! ===== how many casts, news in notes ===== -/
def mqJ (o : Option (Int64 × sm_MI)) (M : sm_MI) (r : Int64 ⊕ Int32) : Prop := ∃ v M', o = some (v, M') ∧ smM M M' ∧ (match r with
  | .inl w => v = w ∧ M' 61 0 = 0
  | .inr e => M' 61 0 = e)
theorem mqJ_v {o : Option (Int64 × sm_MI)} {M M' : sm_MI} {w : Int64} (h : o = some (w, M')) (h0 : M' 61 0 = 0) (hs : smM M M') : mqJ o M (.inl w) := ⟨w, M', h, hs, rfl, h0⟩
theorem mqJ_t {o : Option (Int64 × sm_MI)} {M M' : sm_MI} {v : Int64} {e : Int32} (hs : smM M M') (h : o = some (v, sd_up M' 61 0 e)) : mqJ o M (.inr e) := ⟨v, _, h, smM.up (by omega) hs, up_s⟩
def cvJ : Int64 ⊕ Nat → Int64 ⊕ Int32
  | .inl v => .inl v
  | .inr 1 => .inr 1
  | .inr _ => .inr (nI 2)
/-- ways to choose -/
def chs : Nat → Nat → Nat
  | _, 0 => 1
  | 0, _ + 1 => 0
  | n + 1, k + 1 => chs n k + chs n (k + 1)
set_option maxRecDepth 100000 in
theorem c_choose : ∀ n, n < 15 → ∀ k, k < 15 → F_Count_choose (nI n) (nI k) = some (lN (chs n k)) := by decide +kernel
theorem chs_b : ∀ n, n < 15 → ∀ k, k < 15 → chs n k < 4096 := by decide +kernel
theorem ff1 : ∀ n, n < 15 → 1 ≤ n → n - 0 = chs n 1 := by decide +kernel
theorem ff2 : ∀ n, n < 15 → 2 ≤ n → (n - 0) * (n - 1) = chs n 2 * 2 := by decide +kernel
theorem ff3 : ∀ n, n < 15 → 3 ≤ n → (n - 0) * (n - 1) * (n - 2) = chs n 3 * 6 := by decide +kernel
theorem ff4 : ∀ n, n < 15 → 4 ≤ n → (n - 0) * (n - 1) * (n - 2) * (n - 3) = chs n 4 * 24 := by decide +kernel
def fup (n k v : Nat) : Nat := itr (fun j z => z * (n - j)) k v
def fdn (k v : Nat) : Nat := itr (fun j z => z / (2 + j)) (k - 1) v
theorem fup_le {n : Nat} (hn : n < 15) {v : Nat} : ∀ k, fup n k v ≤ v * 16 ^ k
  | 0 => by unfold fup; rw [itr]; omega
  | k + 1 => by
    have ih := fup_le hn (v := v) k
    unfold fup at ih ⊢
    rw [itr, Nat.pow_succ, ← Nat.mul_assoc]
    exact Nat.mul_le_mul ih (by omega)
theorem f_eq {n k v : Nat} (hn : n < 15) (hk : k ≤ 4) (hkn : k ≤ n) : fdn k (fup n k v) = v * chs n k := by
  unfold fdn fup
  rcases (show k = 0 ∨ k = 1 ∨ k = 2 ∨ k = 3 ∨ k = 4 by omega) with rfl | rfl | rfl | rfl | rfl
  · simp only [itr, chs, Nat.mul_one, Nat.zero_sub]
  · simp only [itr, Nat.sub_self]
    rw [ff1 n hn hkn]
  · simp only [itr, Nat.reduceSub, Nat.add_zero]
    rw [Nat.mul_assoc, ff2 n hn hkn, ← Nat.mul_assoc, Nat.mul_div_cancel _ (by omega)]
  · simp only [itr, Nat.reduceSub, Nat.add_zero, Nat.reduceAdd]
    rw [Nat.mul_assoc (v * (n - 0)), Nat.mul_assoc v, ← Nat.mul_assoc (n - 0), ff3 n hn hkn, ← Nat.mul_assoc, Nat.div_div_eq_div_mul, Nat.mul_div_cancel _ (by omega)]
  · simp only [itr, Nat.reduceSub, Nat.add_zero, Nat.reduceAdd]
    rw [Nat.div_div_eq_div_mul, Nat.div_div_eq_div_mul, show v * (n - 0) * (n - 1) * (n - 2) * (n - 3) = v * ((n - 0) * (n - 1) * (n - 2) * (n - 3)) by simp only [Nat.mul_assoc], ff4 n hn hkn, ← Nat.mul_assoc, Nat.mul_div_cancel _ (by omega)]
theorem L1 : (1 : Int64) = lN 1 := nr_ rfl
theorem L2 : (2 : Int64) = lN 2 := nr_ rfl
theorem lN_0 : (lN 0) = 0 := by decide +kernel
theorem lN_ne0 {a : Nat} (h : 0 < a) (h2 : a < 2 ^ 63) : ¬ lN a = 0 := fun z => by
  have := (pk_lEQ h2 (show 0 < 2 ^ 63 by omega)).mp (z.trans lN_0.symm)
  omega
def cst (A : sA) (x : Int32) (p j v : Nat) : Nat := v * chs (pc (ab A x (4 * p + j) 0)) (A 6 (4 * p + j))
theorem cst_b {A : sA} (hw : wA A) {x : Int32} {p j v : Nat} (hp : p < 5) (hj : j < 4) (h : v ≤ 4096 ^ j) : cst A x p j v ≤ 4096 ^ (j + 1) := by
  unfold cst
  rw [Nat.pow_succ]
  have h1 := (hw.2.2.2.2.2 (4 * p + j) (by omega)).1
  have h2 := pc_le (ab A x (4 * p + j) 0)
  have := chs_b (pc (ab A x (4 * p + j) 0)) (by omega) (A 6 (4 * p + j)) (by omega)
  exact Nat.mul_le_mul h (by omega)
section QU
variable {A : sA} {R : Nat → List Nat} {t : Nat} {C M : sm_MI}
theorem c_casts (hw : wA A) (hc : cA A t C) {x : Int32} {p : Nat} (hp : p < 5) (hcs : cs A x p 0 = true) : F_Choir_countCasts t x (nI p) C = some (lN (itr (cst A x p) 4 1)) := by
  have ec := c_canBeSung (p := p) (x := x) hw hc hp
  rw [hcs] at ec
  unfold F_Choir_countCasts
  simp (disch := omega) only [↓g_in, ↓g_c0, ↓g_c1, ↓reduceIte, ↓y_lt, ↓y_q1, ↓y_q2, ↓sn_q3, ↓sn_t1l, ↓sn_t1r, ↓sn_t2l, ↓sn_t2r, y_q1, y_q2, sn_q3, sn_t1l, sn_t1r, sn_t2l, sn_t2r, nI_clamp, x_leT, x_leF, x_ltT, x_ltF, x_eqT, x_eqF, x_le0T, x_le0F, x_0leT, x_lt0F, x_0ltT, x_0ltF, x_eq0T, x_eq0F, x_le1T, x_le1F, x_1leT, x_1leF, x_1ltT, x_1ltF, x_lt1T, x_lt1F, x_eq1T, x_eq1F, x_m1F, nI_add, nI_1, sn_mul, x_sub, x_sub1, sn_m1, l2, l3, l4, l5, l6, l7, l8, l9, l10, l11, l12, l13, l14, l15, l20, l30, l40, l48, l60, l64, l99, l100, l700, l999, not_true_eq_false, not_false_eq_true, x_t0, x_t1, lts1, x_10, x_1sub, eq_self, Nat.reduceSub, Nat.reduceAdd, Nat.reduceMul, ↓q1_of ec]
  have lp := lp_in (fun f j z => F_Choir_countCasts_11 t C f x (nI p) (lN z) j) (fun z => some (lN z)) (cst A x p) (fun _ _ => True) 4 1 trivial (by omega) ?_ ?_
  · exact lp.1
  · intro f z _
    show F_Choir_countCasts_11B t (F_Choir_countCasts_11 t C f) x (nI p) (lN z) (nI 4) C = _
    unfold F_Choir_countCasts_11B
    simp (disch := omega) only [↓g_in, ↓g_c0, ↓g_c1, ↓reduceIte, ↓y_lt, ↓y_q1, ↓y_q2, ↓sn_q3, ↓sn_t1l, ↓sn_t1r, ↓sn_t2l, ↓sn_t2r, y_q1, y_q2, sn_q3, sn_t1l, sn_t1r, sn_t2l, sn_t2r, nI_clamp, x_leT, x_leF, x_ltT, x_ltF, x_eqT, x_eqF, x_le0T, x_le0F, x_0leT, x_lt0F, x_0ltT, x_0ltF, x_eq0T, x_eq0F, x_le1T, x_le1F, x_1leT, x_1leF, x_1ltT, x_1ltF, x_lt1T, x_lt1F, x_eq1T, x_eq1F, x_m1F, nI_add, nI_1, sn_mul, x_sub, x_sub1, sn_m1, l2, l3, l4, l5, l6, l7, l8, l9, l10, l11, l12, l13, l14, l15, l20, l30, l40, l48, l60, l64, l99, l100, l700, l999, not_true_eq_false, not_false_eq_true, x_t0, x_t1, lts1, x_10, x_1sub, eq_self, Nat.reduceSub, Nat.reduceAdd, Nat.reduceMul]
  · intro f j z hj _
    refine ⟨trivial, ?_⟩
    have hr : 4 * p + j < 20 := by omega
    have q1 := (hc.2.2.2.2.1 (4 * p + j) hr).1
    have w4 := (hw.2.2.2.2.2 (4 * p + j) hr).1
    have h2 := pc_le (ab A x (4 * p + j) 0)
    show F_Choir_countCasts_11B t (F_Choir_countCasts_11 t C f) x (nI p) (lN z) (nI j) C = F_Choir_countCasts_11 t C f x (nI p) (lN (cst A x p j z)) (nI (j + 1))
    unfold F_Choir_countCasts_11B cst
    simp (disch := omega) only [↓g_in, ↓g_c0, ↓g_c1, ↓reduceIte, ↓y_lt, ↓y_q1, ↓y_q2, ↓sn_q3, ↓sn_t1l, ↓sn_t1r, ↓sn_t2l, ↓sn_t2r, y_q1, y_q2, sn_q3, sn_t1l, sn_t1r, sn_t2l, sn_t2r, nI_clamp, x_leT, x_leF, x_ltT, x_ltF, x_eqT, x_eqF, x_le0T, x_le0F, x_0leT, x_lt0F, x_0ltT, x_0ltF, x_eq0T, x_eq0F, x_le1T, x_le1F, x_1leT, x_1leF, x_1ltT, x_1ltF, x_lt1T, x_lt1F, x_eq1T, x_eq1F, x_m1F, nI_add, nI_1, sn_mul, x_sub, x_sub1, sn_m1, l2, l3, l4, l5, l6, l7, l8, l9, l10, l11, l12, l13, l14, l15, l20, l30, l40, l48, l60, l64, l99, l100, l700, l999, not_true_eq_false, not_false_eq_true, x_t0, x_t1, lts1, x_10, x_1sub, eq_self, Nat.reduceSub, Nat.reduceAdd, Nat.reduceMul, Nat.mul_comm p 4, q1, ab_fit hc hr, int_bc lo14_ab, c_choose (pc (ab A x (4 * p + j) 0)) (show _ < 15 by omega) (A 6 (4 * p + j)) (show _ < 15 by omega), lN_mul]
theorem q_casts (h : Rel A R t C M) (x : Int32) : ∃ r, F_VM_casts t x C = some r ∧ mqJ (F_Mo_casts x M) M (cvJ r) := by
  obtain ⟨M1, hM1, h0, h, hs⟩ := h.start
  have hw := h.wa
  have hc := h.ca
  have hm := h.ma
  have hst := h.st
  have h5 := hw.2.1
  unfold F_VM_casts F_Mo_casts
  rw [hM1]
  rcases ix_or x (n := A 0 1) (by omega) with hx | ⟨p, hp, rfl⟩
  · refine ⟨.inr 1, by rw [c_chP0 hw hc hx]; rfl, mqJ_t hs (v := 0) ?_⟩
    simp (disch := omega) only [↓g_in, ↓g_c0, ↓g_c1, ↓reduceIte, ↓y_lt, ↓y_q1, ↓y_q2, ↓sn_q3, ↓sn_t1l, ↓sn_t1r, ↓sn_t2l, ↓sn_t2r, y_q1, y_q2, sn_q3, sn_t1l, sn_t1r, sn_t2l, sn_t2r, nI_clamp, x_leT, x_leF, x_ltT, x_ltF, x_eqT, x_eqF, x_le0T, x_le0F, x_0leT, x_lt0F, x_0ltT, x_0ltF, x_eq0T, x_eq0F, x_le1T, x_le1F, x_1leT, x_1leF, x_1ltT, x_1ltF, x_lt1T, x_lt1F, x_eq1T, x_eq1F, x_m1F, nI_add, nI_1, sn_mul, x_sub, x_sub1, sn_m1, l2, l3, l4, l5, l6, l7, l8, l9, l10, l11, l12, l13, l14, l15, l20, l30, l40, l48, l60, l64, l99, l100, l700, l999, not_true_eq_false, not_false_eq_true, x_t0, x_t1, lts1, x_10, x_1sub, eq_self, Nat.reduceSub, Nat.reduceAdd, Nat.reduceMul, ↓q2_of (m_isP0 hw hm h0 hx)]
  · have ec := c_canBeSung (p := p) (x := C 9 0) hw hc (by omega)
    have em := mo_canBeSung (p := p) (x := C 9 0) (u := 0) hw hm (by omega) (by decide)
    have em : F_Mo_canBeSung (C 9 0) (nI p) 0 M1 = some (if cs A (C 9 0) p 0 = true then 1 else 0) := em
    cases hcs : cs A (C 9 0) p 0
    · rw [hcs] at ec em
      refine ⟨.inl 0, ?_, mqJ_v (M' := M1) ?_ h0 hs⟩
      · unfold F_Choir_countCasts
        simp (disch := omega) only [↓g_in, ↓g_c0, ↓g_c1, ↓reduceIte, ↓y_lt, ↓y_q1, ↓y_q2, ↓sn_q3, ↓sn_t1l, ↓sn_t1r, ↓sn_t2l, ↓sn_t2r, y_q1, y_q2, sn_q3, sn_t1l, sn_t1r, sn_t2l, sn_t2r, nI_clamp, x_leT, x_leF, x_ltT, x_ltF, x_eqT, x_eqF, x_le0T, x_le0F, x_0leT, x_lt0F, x_0ltT, x_0ltF, x_eq0T, x_eq0F, x_le1T, x_le1F, x_1leT, x_1leF, x_1ltT, x_1ltF, x_lt1T, x_lt1F, x_eq1T, x_eq1F, x_m1F, nI_add, nI_1, sn_mul, x_sub, x_sub1, sn_m1, l2, l3, l4, l5, l6, l7, l8, l9, l10, l11, l12, l13, l14, l15, l20, l30, l40, l48, l60, l64, l99, l100, l700, l999, not_true_eq_false, not_false_eq_true, x_t0, x_t1, lts1, x_10, x_1sub, eq_self, Nat.reduceSub, Nat.reduceAdd, Nat.reduceMul, ↓t1_of (c_chP1 hw hc hp), ↓q1_of ec, Bool.false_eq_true]
      · simp (disch := omega) only [↓g_in, ↓g_c0, ↓g_c1, ↓reduceIte, ↓y_lt, ↓y_q1, ↓y_q2, ↓sn_q3, ↓sn_t1l, ↓sn_t1r, ↓sn_t2l, ↓sn_t2r, y_q1, y_q2, sn_q3, sn_t1l, sn_t1r, sn_t2l, sn_t2r, nI_clamp, x_leT, x_leF, x_ltT, x_ltF, x_eqT, x_eqF, x_le0T, x_le0F, x_0leT, x_lt0F, x_0ltT, x_0ltF, x_eq0T, x_eq0F, x_le1T, x_le1F, x_1leT, x_1leF, x_1ltT, x_1ltF, x_lt1T, x_lt1F, x_eq1T, x_eq1F, x_m1F, nI_add, nI_1, sn_mul, x_sub, x_sub1, sn_m1, l2, l3, l4, l5, l6, l7, l8, l9, l10, l11, l12, l13, l14, l15, l20, l30, l40, l48, l60, l64, l99, l100, l700, l999, not_true_eq_false, not_false_eq_true, x_t0, x_t1, lts1, x_10, x_1sub, eq_self, Nat.reduceSub, Nat.reduceAdd, Nat.reduceMul, ↓q2_of (m_isP1 hw hm h0 hp), ↓q1_of (mo_so0 hw hm hst), ↓q1_of em, Bool.false_eq_true]
    · rw [hcs] at em
      refine ⟨.inl (lN (itr (cst A (C 9 0) p) 4 1)), ?_, mqJ_v (M' := M1) ?_ h0 hs⟩
      · simp (disch := omega) only [↓g_in, ↓g_c0, ↓g_c1, ↓reduceIte, ↓y_lt, ↓y_q1, ↓y_q2, ↓sn_q3, ↓sn_t1l, ↓sn_t1r, ↓sn_t2l, ↓sn_t2r, y_q1, y_q2, sn_q3, sn_t1l, sn_t1r, sn_t2l, sn_t2r, nI_clamp, x_leT, x_leF, x_ltT, x_ltF, x_eqT, x_eqF, x_le0T, x_le0F, x_0leT, x_lt0F, x_0ltT, x_0ltF, x_eq0T, x_eq0F, x_le1T, x_le1F, x_1leT, x_1leF, x_1ltT, x_1ltF, x_lt1T, x_lt1F, x_eq1T, x_eq1F, x_m1F, nI_add, nI_1, sn_mul, x_sub, x_sub1, sn_m1, l2, l3, l4, l5, l6, l7, l8, l9, l10, l11, l12, l13, l14, l15, l20, l30, l40, l48, l60, l64, l99, l100, l700, l999, not_true_eq_false, not_false_eq_true, x_t0, x_t1, lts1, x_10, x_1sub, eq_self, Nat.reduceSub, Nat.reduceAdd, Nat.reduceMul, ↓t1_of (c_chP1 hw hc hp), c_casts hw hc (show p < 5 by omega) hcs]
      · have lp := lp_in (fun f j z => F_Mo_casts_29 f (nI p) (C 9 0) (lN z) (nI (4 * p) + j) M1) (fun z => some (lN z, M1)) (cst A (C 9 0) p) (fun j z => z ≤ 4096 ^ j) 4 1 (by omega) (by omega) ?_ ?_
        · simp (disch := omega) only [↓g_in, ↓g_c0, ↓g_c1, ↓reduceIte, ↓y_lt, ↓y_q1, ↓y_q2, ↓sn_q3, ↓sn_t1l, ↓sn_t1r, ↓sn_t2l, ↓sn_t2r, y_q1, y_q2, sn_q3, sn_t1l, sn_t1r, sn_t2l, sn_t2r, nI_clamp, x_leT, x_leF, x_ltT, x_ltF, x_eqT, x_eqF, x_le0T, x_le0F, x_0leT, x_lt0F, x_0ltT, x_0ltF, x_eq0T, x_eq0F, x_le1T, x_le1F, x_1leT, x_1leF, x_1ltT, x_1ltF, x_lt1T, x_lt1F, x_eq1T, x_eq1F, x_m1F, nI_add, nI_1, sn_mul, x_sub, x_sub1, sn_m1, l2, l3, l4, l5, l6, l7, l8, l9, l10, l11, l12, l13, l14, l15, l20, l30, l40, l48, l60, l64, l99, l100, l700, l999, not_true_eq_false, not_false_eq_true, x_t0, x_t1, lts1, x_10, x_1sub, eq_self, Nat.reduceSub, Nat.reduceAdd, Nat.reduceMul, ↓q2_of (m_isP1 hw hm h0 hp), ↓q1_of (mo_so0 hw hm hst), ↓q1_of em]
          have lp := lp.1
          simp only [nI_add, Nat.add_zero] at lp
          exact lp
        · intro f z _
          show F_Mo_casts_29B (F_Mo_casts_29 f) (nI p) (C 9 0) (lN z) (nI (4 * p) + nI 4) M1 = _
          unfold F_Mo_casts_29B
          simp (disch := omega) only [↓g_in, ↓g_c0, ↓g_c1, ↓reduceIte, ↓y_lt, ↓y_q1, ↓y_q2, ↓sn_q3, ↓sn_t1l, ↓sn_t1r, ↓sn_t2l, ↓sn_t2r, y_q1, y_q2, sn_q3, sn_t1l, sn_t1r, sn_t2l, sn_t2r, nI_clamp, x_leT, x_leF, x_ltT, x_ltF, x_eqT, x_eqF, x_le0T, x_le0F, x_0leT, x_lt0F, x_0ltT, x_0ltF, x_eq0T, x_eq0F, x_le1T, x_le1F, x_1leT, x_1leF, x_1ltT, x_1ltF, x_lt1T, x_lt1F, x_eq1T, x_eq1F, x_m1F, nI_add, nI_1, sn_mul, x_sub, x_sub1, sn_m1, l2, l3, l4, l5, l6, l7, l8, l9, l10, l11, l12, l13, l14, l15, l20, l30, l40, l48, l60, l64, l99, l100, l700, l999, not_true_eq_false, not_false_eq_true, x_t0, x_t1, lts1, x_10, x_1sub, eq_self, Nat.reduceSub, Nat.reduceAdd, Nat.reduceMul]
        · intro f j z hj hz
          refine ⟨cst_b hw (by omega) hj hz, ?_⟩
          have hr : 4 * p + j < 20 := by omega
          have q1 := (hm.2.2.2.2 (4 * p + j) hr).1
          have w4 := (hw.2.2.2.2.2 (4 * p + j) hr).1
          have e9 := mo_ableOf (A := A) (I := M1) (r := 4 * p + j) (x := C 9 0) (u := 0) hw hm (by omega) (by decide)
          have e9 : F_Mo_ableOf (C 9 0) (nI (4 * p + j)) 0 M1 = some (ab A (C 9 0) (4 * p + j) 0) := e9
          have h2 := pc_le (ab A (C 9 0) (4 * p + j) 0)
          have h3 := cs_need hcs hj
          have hz2 : z ≤ 4096 ^ 3 := Nat.le_trans hz (Nat.pow_le_pow_right (by omega) (by omega))
          show F_Mo_casts_29B (F_Mo_casts_29 f) (nI p) (C 9 0) (lN z) (nI (4 * p) + nI j) M1 = F_Mo_casts_29 f (nI p) (C 9 0) (lN (cst A (C 9 0) p j z)) (nI (4 * p) + nI (j + 1)) M1
          unfold F_Mo_casts_29B
          simp (disch := omega) only [↓g_in, ↓g_c0, ↓g_c1, ↓reduceIte, ↓y_lt, ↓y_q1, ↓y_q2, ↓sn_q3, ↓sn_t1l, ↓sn_t1r, ↓sn_t2l, ↓sn_t2r, y_q1, y_q2, sn_q3, sn_t1l, sn_t1r, sn_t2l, sn_t2r, nI_clamp, x_leT, x_leF, x_ltT, x_ltF, x_eqT, x_eqF, x_le0T, x_le0F, x_0leT, x_lt0F, x_0ltT, x_0ltF, x_eq0T, x_eq0F, x_le1T, x_le1F, x_1leT, x_1leF, x_1ltT, x_1ltF, x_lt1T, x_lt1F, x_eq1T, x_eq1F, x_m1F, nI_add, nI_1, sn_mul, x_sub, x_sub1, sn_m1, l2, l3, l4, l5, l6, l7, l8, l9, l10, l11, l12, l13, l14, l15, l20, l30, l40, l48, l60, l64, l99, l100, l700, l999, not_true_eq_false, not_false_eq_true, x_t0, x_t1, lts1, x_10, x_1sub, eq_self, Nat.reduceSub, Nat.reduceAdd, Nat.reduceMul, e9, mo_bits]
          unfold cst
          generalize hN : pc (ab A (C 9 0) (4 * p + j) 0) = n at *
          generalize hK : A 6 (4 * p + j) = k at *
          have hfb : fup n k z < 2 ^ 62 := by
            have h6 := fup_le (n := n) (by omega) (v := z) k
            have h7 : 16 ^ k ≤ 16 ^ 4 := Nat.pow_le_pow_right (by omega) w4
            have h8 : z * 16 ^ k ≤ 4096 ^ 3 * 16 ^ 4 := Nat.mul_le_mul hz2 h7
            have h9 : 4096 ^ 3 * 16 ^ 4 < 2 ^ 62 := by decide
            omega
          have lq := lp_in (fun g j2 z => F_Mo_casts_45 (F_Mo_casts_29 f) g (nI p) (C 9 0) (lN z) (nI (4 * p + j)) (nI n) j2 M1) (fun z => F_Mo_casts_62 (F_Mo_casts_29 f) sd_fu (nI p) (C 9 0) (lN z) (nI (4 * p + j)) 2 M1) (fun i z => z * (n - i)) (fun _ _ => True) k z trivial (by omega) ?_ ?_
          · have lq : F_Mo_casts_45 (F_Mo_casts_29 f) sd_fu (nI p) (C 9 0) (lN z) (nI (4 * p + j)) (nI n) 0 M1 = _ := lq.1
            rw [lq]
            have lr := lp_in (fun g j2 z => F_Mo_casts_62 (F_Mo_casts_29 f) g (nI p) (C 9 0) (lN z) (nI (4 * p + j)) (nI 2 + j2) M1) (fun z => F_Mo_casts_29 f (nI p) (C 9 0) (lN z) (nI (4 * p + j) + 1) M1) (fun i z => z / (2 + i)) (fun _ z => z < 2 ^ 62) (k - 1) (fup n k z) hfb (by omega) ?_ ?_
            · have lr : F_Mo_casts_62 (F_Mo_casts_29 f) sd_fu (nI p) (C 9 0) (lN (fup n k z)) (nI (4 * p + j)) 2 M1 = _ := lr.1
              have e8 : itr (fun i z => z / (2 + i)) (k - 1) (fup n k z) = z * chs n k := f_eq (by omega) w4 h3
              rw [e8, nI_1, Nat.add_assoc] at lr
              exact lr
            · intro g z _
              show F_Mo_casts_62B (F_Mo_casts_29 f) (F_Mo_casts_62 (F_Mo_casts_29 f) g) (nI p) (C 9 0) (lN z) (nI (4 * p + j)) (nI 2 + nI (k - 1)) M1 = _
              unfold F_Mo_casts_62B
              simp (disch := omega) only [↓g_in, ↓g_c0, ↓g_c1, ↓reduceIte, ↓y_lt, ↓y_q1, ↓y_q2, ↓sn_q3, ↓sn_t1l, ↓sn_t1r, ↓sn_t2l, ↓sn_t2r, y_q1, y_q2, sn_q3, sn_t1l, sn_t1r, sn_t2l, sn_t2r, nI_clamp, x_leT, x_leF, x_ltT, x_ltF, x_eqT, x_eqF, x_le0T, x_le0F, x_0leT, x_lt0F, x_0ltT, x_0ltF, x_eq0T, x_eq0F, x_le1T, x_le1F, x_1leT, x_1leF, x_1ltT, x_1ltF, x_lt1T, x_lt1F, x_eq1T, x_eq1F, x_m1F, nI_add, nI_1, sn_mul, x_sub, x_sub1, sn_m1, l2, l3, l4, l5, l6, l7, l8, l9, l10, l11, l12, l13, l14, l15, l20, l30, l40, l48, l60, l64, l99, l100, l700, l999, not_true_eq_false, not_false_eq_true, x_t0, x_t1, lts1, x_10, x_1sub, eq_self, Nat.reduceSub, Nat.reduceAdd, Nat.reduceMul, q1]
            · intro g i z hi hz
              refine ⟨Nat.lt_of_le_of_lt (Nat.div_le_self _ _) hz, ?_⟩
              show F_Mo_casts_62B (F_Mo_casts_29 f) (F_Mo_casts_62 (F_Mo_casts_29 f) g) (nI p) (C 9 0) (lN z) (nI (4 * p + j)) (nI 2 + nI i) M1 = F_Mo_casts_62 (F_Mo_casts_29 f) g (nI p) (C 9 0) (lN (z / (2 + i))) (nI (4 * p + j)) (nI 2 + nI (i + 1)) M1
              unfold F_Mo_casts_62B
              simp (disch := omega) only [↓g_in, ↓g_c0, ↓g_c1, ↓reduceIte, ↓y_lt, ↓y_q1, ↓y_q2, ↓sn_q3, ↓sn_t1l, ↓sn_t1r, ↓sn_t2l, ↓sn_t2r, y_q1, y_q2, sn_q3, sn_t1l, sn_t1r, sn_t2l, sn_t2r, nI_clamp, x_leT, x_leF, x_ltT, x_ltF, x_eqT, x_eqF, x_le0T, x_le0F, x_0leT, x_lt0F, x_0ltT, x_0ltF, x_eq0T, x_eq0F, x_le1T, x_le1F, x_1leT, x_1leF, x_1ltT, x_1ltF, x_lt1T, x_lt1F, x_eq1T, x_eq1F, x_m1F, nI_add, nI_1, sn_mul, x_sub, x_sub1, sn_m1, l2, l3, l4, l5, l6, l7, l8, l9, l10, l11, l12, l13, l14, l15, l20, l30, l40, l48, l60, l64, l99, l100, l700, l999, not_true_eq_false, not_false_eq_true, x_t0, x_t1, lts1, x_10, x_1sub, eq_self, Nat.reduceSub, Nat.reduceAdd, Nat.reduceMul, q1, nI_l, ↓sn_gu (lN_ne0 (show 0 < 2 + i by omega) (show 2 + i < 2 ^ 63 by omega)), pk_lDiv, Nat.add_assoc]
          · intro g z _
            show F_Mo_casts_45B (F_Mo_casts_29 f) (F_Mo_casts_45 (F_Mo_casts_29 f) g) (nI p) (C 9 0) (lN z) (nI (4 * p + j)) (nI n) (nI k) M1 = _
            unfold F_Mo_casts_45B
            simp (disch := omega) only [↓g_in, ↓g_c0, ↓g_c1, ↓reduceIte, ↓y_lt, ↓y_q1, ↓y_q2, ↓sn_q3, ↓sn_t1l, ↓sn_t1r, ↓sn_t2l, ↓sn_t2r, y_q1, y_q2, sn_q3, sn_t1l, sn_t1r, sn_t2l, sn_t2r, nI_clamp, x_leT, x_leF, x_ltT, x_ltF, x_eqT, x_eqF, x_le0T, x_le0F, x_0leT, x_lt0F, x_0ltT, x_0ltF, x_eq0T, x_eq0F, x_le1T, x_le1F, x_1leT, x_1leF, x_1ltT, x_1ltF, x_lt1T, x_lt1F, x_eq1T, x_eq1F, x_m1F, nI_add, nI_1, sn_mul, x_sub, x_sub1, sn_m1, l2, l3, l4, l5, l6, l7, l8, l9, l10, l11, l12, l13, l14, l15, l20, l30, l40, l48, l60, l64, l99, l100, l700, l999, not_true_eq_false, not_false_eq_true, x_t0, x_t1, lts1, x_10, x_1sub, eq_self, Nat.reduceSub, Nat.reduceAdd, Nat.reduceMul, q1]
          · intro g i z hi _
            refine ⟨trivial, ?_⟩
            show F_Mo_casts_45B (F_Mo_casts_29 f) (F_Mo_casts_45 (F_Mo_casts_29 f) g) (nI p) (C 9 0) (lN z) (nI (4 * p + j)) (nI n) (nI i) M1 = F_Mo_casts_45 (F_Mo_casts_29 f) g (nI p) (C 9 0) (lN (z * (n - i))) (nI (4 * p + j)) (nI n) (nI (i + 1)) M1
            unfold F_Mo_casts_45B
            simp (disch := omega) only [↓g_in, ↓g_c0, ↓g_c1, ↓reduceIte, ↓y_lt, ↓y_q1, ↓y_q2, ↓sn_q3, ↓sn_t1l, ↓sn_t1r, ↓sn_t2l, ↓sn_t2r, y_q1, y_q2, sn_q3, sn_t1l, sn_t1r, sn_t2l, sn_t2r, nI_clamp, x_leT, x_leF, x_ltT, x_ltF, x_eqT, x_eqF, x_le0T, x_le0F, x_0leT, x_lt0F, x_0ltT, x_0ltF, x_eq0T, x_eq0F, x_le1T, x_le1F, x_1leT, x_1leF, x_1ltT, x_1ltF, x_lt1T, x_lt1F, x_eq1T, x_eq1F, x_m1F, nI_add, nI_1, sn_mul, x_sub, x_sub1, sn_m1, l2, l3, l4, l5, l6, l7, l8, l9, l10, l11, l12, l13, l14, l15, l20, l30, l40, l48, l60, l64, l99, l100, l700, l999, not_true_eq_false, not_false_eq_true, x_t0, x_t1, lts1, x_10, x_1sub, eq_self, Nat.reduceSub, Nat.reduceAdd, Nat.reduceMul, q1, nI_l, lN_mul]
/-- how many notes a piece has -/
def nts (A : sA) (p : Nat) : Nat := itr (fun j z => z + A 7 (4 * p + j)) 4 0
theorem A7_le (hw : wA A) {r : Nat} (hr : r < 20) : A 7 r ≤ 12 := by
  obtain ⟨v1, v2, v3, v4⟩ := hw.2.2.2.2.2 r hr
  rcases Nat.eq_zero_or_pos (A 6 r) with e | e
  · rw [v2 e]; omega
  · exact (v3 e).2.2
theorem nts_le (hw : wA A) {p : Nat} (hp : p < 5) : nts A p ≤ 48 := by
  have h0 := A7_le hw (r := 4 * p + 0) (by omega)
  have h1 := A7_le hw (r := 4 * p + 1) (by omega)
  have h2 := A7_le hw (r := 4 * p + 2) (by omega)
  have h3 := A7_le hw (r := 4 * p + 3) (by omega)
  show 0 + A 7 (4 * p + 0) + A 7 (4 * p + 1) + A 7 (4 * p + 2) + A 7 (4 * p + 3) ≤ 48
  omega
theorem c_notesIn (hw : wA A) (hc : cA A t C) {p : Nat} (hp : p < 5) : F_Valley_notesIn t (nI p) C = some (nI (nts A p)) := by
  unfold F_Valley_notesIn
  have lp := lp_in (fun f j z => F_Valley_notesIn_4 t C f (nI p) (nI z) j) (fun z => some (nI z)) (fun j z => z + A 7 (4 * p + j)) (fun _ _ => True) 4 0 trivial (by omega) ?_ ?_
  · exact lp.1
  · intro f z _
    show F_Valley_notesIn_4B t (F_Valley_notesIn_4 t C f) (nI p) (nI z) (nI 4) C = _
    unfold F_Valley_notesIn_4B
    simp (disch := omega) only [↓g_in, ↓g_c0, ↓g_c1, ↓reduceIte, ↓y_lt, ↓y_q1, ↓y_q2, ↓sn_q3, ↓sn_t1l, ↓sn_t1r, ↓sn_t2l, ↓sn_t2r, y_q1, y_q2, sn_q3, sn_t1l, sn_t1r, sn_t2l, sn_t2r, nI_clamp, x_leT, x_leF, x_ltT, x_ltF, x_eqT, x_eqF, x_le0T, x_le0F, x_0leT, x_lt0F, x_0ltT, x_0ltF, x_eq0T, x_eq0F, x_le1T, x_le1F, x_1leT, x_1leF, x_1ltT, x_1ltF, x_lt1T, x_lt1F, x_eq1T, x_eq1F, x_m1F, nI_add, nI_1, sn_mul, x_sub, x_sub1, sn_m1, l2, l3, l4, l5, l6, l7, l8, l9, l10, l11, l12, l13, l14, l15, l20, l30, l40, l48, l60, l64, l99, l100, l700, l999, not_true_eq_false, not_false_eq_true, x_t0, x_t1, lts1, x_10, x_1sub, eq_self, Nat.reduceSub, Nat.reduceAdd, Nat.reduceMul]
  · intro f j z hj _
    refine ⟨trivial, ?_⟩
    have q2 := (hc.2.2.2.2.1 (4 * p + j) (by omega)).2.1
    show F_Valley_notesIn_4B t (F_Valley_notesIn_4 t C f) (nI p) (nI z) (nI j) C = F_Valley_notesIn_4 t C f (nI p) (nI (z + A 7 (4 * p + j))) (nI (j + 1))
    unfold F_Valley_notesIn_4B
    simp (disch := omega) only [↓g_in, ↓g_c0, ↓g_c1, ↓reduceIte, ↓y_lt, ↓y_q1, ↓y_q2, ↓sn_q3, ↓sn_t1l, ↓sn_t1r, ↓sn_t2l, ↓sn_t2r, y_q1, y_q2, sn_q3, sn_t1l, sn_t1r, sn_t2l, sn_t2r, nI_clamp, x_leT, x_leF, x_ltT, x_ltF, x_eqT, x_eqF, x_le0T, x_le0F, x_0leT, x_lt0F, x_0ltT, x_0ltF, x_eq0T, x_eq0F, x_le1T, x_le1F, x_1leT, x_1leF, x_1ltT, x_1ltF, x_lt1T, x_lt1F, x_eq1T, x_eq1F, x_m1F, nI_add, nI_1, sn_mul, x_sub, x_sub1, sn_m1, l2, l3, l4, l5, l6, l7, l8, l9, l10, l11, l12, l13, l14, l15, l20, l30, l40, l48, l60, l64, l99, l100, l700, l999, not_true_eq_false, not_false_eq_true, x_t0, x_t1, lts1, x_10, x_1sub, eq_self, Nat.reduceSub, Nat.reduceAdd, Nat.reduceMul, Nat.mul_comm p 4, q2]
theorem m_notesIn (hw : wA A) (hm : mA A M) {p : Nat} (hp : p < 5) : F_Mo_notesIn (nI p) M = some (nI (nts A p)) := by
  unfold F_Mo_notesIn
  have lp := lp_in (fun f j z => F_Mo_notesIn_6 M f (nI p) (nI z) (nI (4 * p) + j)) (fun z => some (nI z)) (fun j z => z + A 7 (4 * p + j)) (fun _ _ => True) 4 0 trivial (by omega) ?_ ?_
  · have lp := lp.1
    simp only [nI_add, Nat.add_zero] at lp
    simp (disch := omega) only [↓g_in, ↓g_c0, ↓g_c1, ↓reduceIte, ↓y_lt, ↓y_q1, ↓y_q2, ↓sn_q3, ↓sn_t1l, ↓sn_t1r, ↓sn_t2l, ↓sn_t2r, y_q1, y_q2, sn_q3, sn_t1l, sn_t1r, sn_t2l, sn_t2r, nI_clamp, x_leT, x_leF, x_ltT, x_ltF, x_eqT, x_eqF, x_le0T, x_le0F, x_0leT, x_lt0F, x_0ltT, x_0ltF, x_eq0T, x_eq0F, x_le1T, x_le1F, x_1leT, x_1leF, x_1ltT, x_1ltF, x_lt1T, x_lt1F, x_eq1T, x_eq1F, x_m1F, nI_add, nI_1, sn_mul, x_sub, x_sub1, sn_m1, l2, l3, l4, l5, l6, l7, l8, l9, l10, l11, l12, l13, l14, l15, l20, l30, l40, l48, l60, l64, l99, l100, l700, l999, not_true_eq_false, not_false_eq_true, x_t0, x_t1, lts1, x_10, x_1sub, eq_self, Nat.reduceSub, Nat.reduceAdd, Nat.reduceMul]
    exact lp
  · intro f z _
    show F_Mo_notesIn_6B (F_Mo_notesIn_6 M f) (nI p) (nI z) (nI (4 * p) + nI 4) M = _
    unfold F_Mo_notesIn_6B
    simp (disch := omega) only [↓g_in, ↓g_c0, ↓g_c1, ↓reduceIte, ↓y_lt, ↓y_q1, ↓y_q2, ↓sn_q3, ↓sn_t1l, ↓sn_t1r, ↓sn_t2l, ↓sn_t2r, y_q1, y_q2, sn_q3, sn_t1l, sn_t1r, sn_t2l, sn_t2r, nI_clamp, x_leT, x_leF, x_ltT, x_ltF, x_eqT, x_eqF, x_le0T, x_le0F, x_0leT, x_lt0F, x_0ltT, x_0ltF, x_eq0T, x_eq0F, x_le1T, x_le1F, x_1leT, x_1leF, x_1ltT, x_1ltF, x_lt1T, x_lt1F, x_eq1T, x_eq1F, x_m1F, nI_add, nI_1, sn_mul, x_sub, x_sub1, sn_m1, l2, l3, l4, l5, l6, l7, l8, l9, l10, l11, l12, l13, l14, l15, l20, l30, l40, l48, l60, l64, l99, l100, l700, l999, not_true_eq_false, not_false_eq_true, x_t0, x_t1, lts1, x_10, x_1sub, eq_self, Nat.reduceSub, Nat.reduceAdd, Nat.reduceMul]
  · intro f j z hj _
    refine ⟨trivial, ?_⟩
    have q2 := m_notesOf (r := 4 * p + j) hw hm (by omega)
    show F_Mo_notesIn_6B (F_Mo_notesIn_6 M f) (nI p) (nI z) (nI (4 * p) + nI j) M = F_Mo_notesIn_6 M f (nI p) (nI (z + A 7 (4 * p + j))) (nI (4 * p) + nI (j + 1))
    unfold F_Mo_notesIn_6B
    simp (disch := omega) only [↓g_in, ↓g_c0, ↓g_c1, ↓reduceIte, ↓y_lt, ↓y_q1, ↓y_q2, ↓sn_q3, ↓sn_t1l, ↓sn_t1r, ↓sn_t2l, ↓sn_t2r, y_q1, y_q2, sn_q3, sn_t1l, sn_t1r, sn_t2l, sn_t2r, nI_clamp, x_leT, x_leF, x_ltT, x_ltF, x_eqT, x_eqF, x_le0T, x_le0F, x_0leT, x_lt0F, x_0ltT, x_0ltF, x_eq0T, x_eq0F, x_le1T, x_le1F, x_1leT, x_1leF, x_1ltT, x_1ltF, x_lt1T, x_lt1F, x_eq1T, x_eq1F, x_m1F, nI_add, nI_1, sn_mul, x_sub, x_sub1, sn_m1, l2, l3, l4, l5, l6, l7, l8, l9, l10, l11, l12, l13, l14, l15, l20, l30, l40, l48, l60, l64, l99, l100, l700, l999, not_true_eq_false, not_false_eq_true, x_t0, x_t1, lts1, x_10, x_1sub, eq_self, Nat.reduceSub, Nat.reduceAdd, Nat.reduceMul, q2, Nat.add_assoc]
def swv (n k : Nat) : Nat := itr (fun j z => z + chs n j * 2 ^ j) (k + 1) 0
set_option maxRecDepth 100000 in
theorem c_slip : ∀ n, n < 49 → ∀ k, k < 13 → F_Count_slipWays (nI n) (nI k) = some (lN (swv n k)) := by decide +kernel
set_option maxRecDepth 100000 in
theorem m_codesk : ∀ n, n < 49 → ∀ k, k < 13 → F_Mo_codesOf_10 (fun _ _ => 0) sd_fu (nI k) (nI n) 0 1 0 = some (lN (swv n k)) := by decide +kernel
theorem m_codesOf (hw : wA A) (hm : mA A M) {p k : Nat} (hp : p < 5) (hk : k < 13) : F_Mo_codesOf (nI p) (nI k) M = some (lN (swv (nts A p) k)) := by
  have h48 := nts_le hw hp
  unfold F_Mo_codesOf
  rw [m_notesIn hw hm hp, sn_q1, ← m_codesk (nts A p) (by omega) k hk]
  rfl
theorem q_codes (h : Rel A R t C M) (x y : Int32) : ∃ r, F_VM_codes t x y C = some r ∧ mqJ (F_Mo_codes x y M) M (cvJ r) := by
  obtain ⟨M1, hM1, h0, h, hs⟩ := h.start
  have hw := h.wa
  have hc := h.ca
  have hm := h.ma
  have h5 := hw.2.1
  unfold F_VM_codes F_Mo_codes
  rw [hM1]
  rcases ix_or x (n := A 0 1) (by omega) with hx | ⟨p, hp, rfl⟩
  · refine ⟨.inr 1, by rw [c_chP0 hw hc hx]; rfl, mqJ_t hs (v := 0) ?_⟩
    simp (disch := omega) only [↓g_in, ↓g_c0, ↓g_c1, ↓reduceIte, ↓y_lt, ↓y_q1, ↓y_q2, ↓sn_q3, ↓sn_t1l, ↓sn_t1r, ↓sn_t2l, ↓sn_t2r, y_q1, y_q2, sn_q3, sn_t1l, sn_t1r, sn_t2l, sn_t2r, nI_clamp, x_leT, x_leF, x_ltT, x_ltF, x_eqT, x_eqF, x_le0T, x_le0F, x_0leT, x_lt0F, x_0ltT, x_0ltF, x_eq0T, x_eq0F, x_le1T, x_le1F, x_1leT, x_1leF, x_1ltT, x_1ltF, x_lt1T, x_lt1F, x_eq1T, x_eq1F, x_m1F, nI_add, nI_1, sn_mul, x_sub, x_sub1, sn_m1, l2, l3, l4, l5, l6, l7, l8, l9, l10, l11, l12, l13, l14, l15, l20, l30, l40, l48, l60, l64, l99, l100, l700, l999, not_true_eq_false, not_false_eq_true, x_t0, x_t1, lts1, x_10, x_1sub, eq_self, Nat.reduceSub, Nat.reduceAdd, Nat.reduceMul, ↓q2_of (m_isP0 hw hm h0 hx)]
  · rcases ix_or y (n := 13) (by omega) with hy | ⟨k, hk, rfl⟩
    · refine ⟨.inr 0, ?_, mqJ_t hs (v := 0) ?_⟩
      · rcases hy with hy | hy
        · simp (disch := omega) only [↓g_in, ↓g_c0, ↓g_c1, ↓reduceIte, ↓y_lt, ↓y_q1, ↓y_q2, ↓sn_q3, ↓sn_t1l, ↓sn_t1r, ↓sn_t2l, ↓sn_t2r, y_q1, y_q2, sn_q3, sn_t1l, sn_t1r, sn_t2l, sn_t2r, nI_clamp, x_leT, x_leF, x_ltT, x_ltF, x_eqT, x_eqF, x_le0T, x_le0F, x_0leT, x_lt0F, x_0ltT, x_0ltF, x_eq0T, x_eq0F, x_le1T, x_le1F, x_1leT, x_1leF, x_1ltT, x_1ltF, x_lt1T, x_lt1F, x_eq1T, x_eq1F, x_m1F, nI_add, nI_1, sn_mul, x_sub, x_sub1, sn_m1, l2, l3, l4, l5, l6, l7, l8, l9, l10, l11, l12, l13, l14, l15, l20, l30, l40, l48, l60, l64, l99, l100, l700, l999, not_true_eq_false, not_false_eq_true, x_t0, x_t1, lts1, x_10, x_1sub, eq_self, Nat.reduceSub, Nat.reduceAdd, Nat.reduceMul, ↓t1_of (c_chP1 hw hc hp), hy]
        · have e1 := ix_lt hy (by omega)
          have e2 : ¬ y ≤ nI 12 := ix_99 (n := 12) hy (by omega)
          simp (disch := omega) only [↓g_in, ↓g_c0, ↓g_c1, ↓reduceIte, ↓y_lt, ↓y_q1, ↓y_q2, ↓sn_q3, ↓sn_t1l, ↓sn_t1r, ↓sn_t2l, ↓sn_t2r, y_q1, y_q2, sn_q3, sn_t1l, sn_t1r, sn_t2l, sn_t2r, nI_clamp, x_leT, x_leF, x_ltT, x_ltF, x_eqT, x_eqF, x_le0T, x_le0F, x_0leT, x_lt0F, x_0ltT, x_0ltF, x_eq0T, x_eq0F, x_le1T, x_le1F, x_1leT, x_1leF, x_1ltT, x_1ltF, x_lt1T, x_lt1F, x_eq1T, x_eq1F, x_m1F, nI_add, nI_1, sn_mul, x_sub, x_sub1, sn_m1, l2, l3, l4, l5, l6, l7, l8, l9, l10, l11, l12, l13, l14, l15, l20, l30, l40, l48, l60, l64, l99, l100, l700, l999, not_true_eq_false, not_false_eq_true, x_t0, x_t1, lts1, x_10, x_1sub, eq_self, Nat.reduceSub, Nat.reduceAdd, Nat.reduceMul, ↓t1_of (c_chP1 hw hc hp), e1, e2]
      · simp (disch := omega) only [↓g_in, ↓g_c0, ↓g_c1, ↓reduceIte, ↓y_lt, ↓y_q1, ↓y_q2, ↓sn_q3, ↓sn_t1l, ↓sn_t1r, ↓sn_t2l, ↓sn_t2r, y_q1, y_q2, sn_q3, sn_t1l, sn_t1r, sn_t2l, sn_t2r, nI_clamp, x_leT, x_leF, x_ltT, x_ltF, x_eqT, x_eqF, x_le0T, x_le0F, x_0leT, x_lt0F, x_0ltT, x_0ltF, x_eq0T, x_eq0F, x_le1T, x_le1F, x_1leT, x_1leF, x_1ltT, x_1ltF, x_lt1T, x_lt1F, x_eq1T, x_eq1F, x_m1F, nI_add, nI_1, sn_mul, x_sub, x_sub1, sn_m1, l2, l3, l4, l5, l6, l7, l8, l9, l10, l11, l12, l13, l14, l15, l20, l30, l40, l48, l60, l64, l99, l100, l700, l999, not_true_eq_false, not_false_eq_true, x_t0, x_t1, lts1, x_10, x_1sub, eq_self, Nat.reduceSub, Nat.reduceAdd, Nat.reduceMul, ↓q2_of (m_isP1 hw hm h0 hp), ↓q1_of (m_wi0 (y := 12) (n := 12) hy (by omega) rfl), ↓q2_of (m_rt0 (e := 2) h0 (by decide))]
    · have h48 := nts_le hw (p := p) (by omega)
      refine ⟨.inl (lN (swv (nts A p) k)), ?_, mqJ_v (M' := M1) ?_ h0 hs⟩
      · simp (disch := omega) only [↓g_in, ↓g_c0, ↓g_c1, ↓reduceIte, ↓y_lt, ↓y_q1, ↓y_q2, ↓sn_q3, ↓sn_t1l, ↓sn_t1r, ↓sn_t2l, ↓sn_t2r, y_q1, y_q2, sn_q3, sn_t1l, sn_t1r, sn_t2l, sn_t2r, nI_clamp, x_leT, x_leF, x_ltT, x_ltF, x_eqT, x_eqF, x_le0T, x_le0F, x_0leT, x_lt0F, x_0ltT, x_0ltF, x_eq0T, x_eq0F, x_le1T, x_le1F, x_1leT, x_1leF, x_1ltT, x_1ltF, x_lt1T, x_lt1F, x_eq1T, x_eq1F, x_m1F, nI_add, nI_1, sn_mul, x_sub, x_sub1, sn_m1, l2, l3, l4, l5, l6, l7, l8, l9, l10, l11, l12, l13, l14, l15, l20, l30, l40, l48, l60, l64, l99, l100, l700, l999, not_true_eq_false, not_false_eq_true, x_t0, x_t1, lts1, x_10, x_1sub, eq_self, Nat.reduceSub, Nat.reduceAdd, Nat.reduceMul, ↓t1_of (c_chP1 hw hc hp), c_notesIn hw hc (show p < 5 by omega), c_slip (nts A p) (show nts A p < 49 by omega) k hk]
      · simp (disch := omega) only [↓g_in, ↓g_c0, ↓g_c1, ↓reduceIte, ↓y_lt, ↓y_q1, ↓y_q2, ↓sn_q3, ↓sn_t1l, ↓sn_t1r, ↓sn_t2l, ↓sn_t2r, y_q1, y_q2, sn_q3, sn_t1l, sn_t1r, sn_t2l, sn_t2r, nI_clamp, x_leT, x_leF, x_ltT, x_ltF, x_eqT, x_eqF, x_le0T, x_le0F, x_0leT, x_lt0F, x_0ltT, x_0ltF, x_eq0T, x_eq0F, x_le1T, x_le1F, x_1leT, x_1leF, x_1ltT, x_1ltF, x_lt1T, x_lt1F, x_eq1T, x_eq1F, x_m1F, nI_add, nI_1, sn_mul, x_sub, x_sub1, sn_m1, l2, l3, l4, l5, l6, l7, l8, l9, l10, l11, l12, l13, l14, l15, l20, l30, l40, l48, l60, l64, l99, l100, l700, l999, not_true_eq_false, not_false_eq_true, x_t0, x_t1, lts1, x_10, x_1sub, eq_self, Nat.reduceSub, Nat.reduceAdd, Nat.reduceMul, ↓q2_of (m_isP1 hw hm h0 hp), ↓q1_of (m_wi1 (y := 12) (n := 12) hk (by omega) rfl), ↓q2_of (m_rt1 (x := 1) (e := 2) h0 n10), m_codesOf hw hm (show p < 5 by omega) hk]
def slf (A : sA) (p : Nat) (y : Int32) (k : Nat) : Option Nat := if lg_cmp (lN (swv (nts A p) k)) y.toInt64 < 0 then none else some k
theorem l13' : (13 : Int32) = nI 13 := nr_ rfl
theorem x_12lt {k : Nat} (hk : k < 13) : (nI 12 < nI k) = False := eq_false (nI_nlt (by omega) (by omega))
theorem q_slips (h : Rel A R t C M) (x y : Int32) : ∃ r, F_VM_slips t x y C = some r ∧ mq (F_Mo_slips x y M) M (cv r) := by
  obtain ⟨M1, hM1, h0, h, hs⟩ := h.start
  have hw := h.wa
  have hc := h.ca
  have hm := h.ma
  have h5 := hw.2.1
  unfold F_VM_slips F_Mo_slips
  rw [hM1]
  rcases ix_or x (n := A 0 1) (by omega) with hx | ⟨p, hp, rfl⟩
  · refine ⟨.inr 1, by rw [c_chP0 hw hc hx]; rfl, mq_t hs (v := 0) ?_⟩
    simp (disch := omega) only [↓g_in, ↓g_c0, ↓g_c1, ↓reduceIte, ↓y_lt, ↓y_q1, ↓y_q2, ↓sn_q3, ↓sn_t1l, ↓sn_t1r, ↓sn_t2l, ↓sn_t2r, y_q1, y_q2, sn_q3, sn_t1l, sn_t1r, sn_t2l, sn_t2r, nI_clamp, x_leT, x_leF, x_ltT, x_ltF, x_eqT, x_eqF, x_le0T, x_le0F, x_0leT, x_lt0F, x_0ltT, x_0ltF, x_eq0T, x_eq0F, x_le1T, x_le1F, x_1leT, x_1leF, x_1ltT, x_1ltF, x_lt1T, x_lt1F, x_eq1T, x_eq1F, x_m1F, nI_add, nI_1, sn_mul, x_sub, x_sub1, sn_m1, l2, l3, l4, l5, l6, l7, l8, l9, l10, l11, l12, l13, l14, l15, l20, l30, l40, l48, l60, l64, l99, l100, l700, l999, not_true_eq_false, not_false_eq_true, x_t0, x_t1, lts1, x_10, x_1sub, eq_self, Nat.reduceSub, Nat.reduceAdd, Nat.reduceMul, ↓q2_of (m_isP0 hw hm h0 hx)]
  · rcases ix_or y (n := 1000000001) (by omega) with hy | ⟨m, hk, rfl⟩
    · refine ⟨.inr 0, ?_, mq_t hs (v := 0) ?_⟩
      · rcases hy with hy | hy
        · simp (disch := omega) only [↓g_in, ↓g_c0, ↓g_c1, ↓reduceIte, ↓y_lt, ↓y_q1, ↓y_q2, ↓sn_q3, ↓sn_t1l, ↓sn_t1r, ↓sn_t2l, ↓sn_t2r, y_q1, y_q2, sn_q3, sn_t1l, sn_t1r, sn_t2l, sn_t2r, nI_clamp, x_leT, x_leF, x_ltT, x_ltF, x_eqT, x_eqF, x_le0T, x_le0F, x_0leT, x_lt0F, x_0ltT, x_0ltF, x_eq0T, x_eq0F, x_le1T, x_le1F, x_1leT, x_1leF, x_1ltT, x_1ltF, x_lt1T, x_lt1F, x_eq1T, x_eq1F, x_m1F, nI_add, nI_1, sn_mul, x_sub, x_sub1, sn_m1, l2, l3, l4, l5, l6, l7, l8, l9, l10, l11, l12, l13, l14, l15, l20, l30, l40, l48, l60, l64, l99, l100, l700, l999, not_true_eq_false, not_false_eq_true, x_t0, x_t1, lts1, x_10, x_1sub, eq_self, Nat.reduceSub, Nat.reduceAdd, Nat.reduceMul, ↓t1_of (c_chP1 hw hc hp), hy]
        · have e1 := ix_lt hy (by omega)
          have e2 : ¬ y ≤ 1000000000 := ix_99 (n := 1000000000) hy (by omega)
          simp (disch := omega) only [↓g_in, ↓g_c0, ↓g_c1, ↓reduceIte, ↓y_lt, ↓y_q1, ↓y_q2, ↓sn_q3, ↓sn_t1l, ↓sn_t1r, ↓sn_t2l, ↓sn_t2r, y_q1, y_q2, sn_q3, sn_t1l, sn_t1r, sn_t2l, sn_t2r, nI_clamp, x_leT, x_leF, x_ltT, x_ltF, x_eqT, x_eqF, x_le0T, x_le0F, x_0leT, x_lt0F, x_0ltT, x_0ltF, x_eq0T, x_eq0F, x_le1T, x_le1F, x_1leT, x_1leF, x_1ltT, x_1ltF, x_lt1T, x_lt1F, x_eq1T, x_eq1F, x_m1F, nI_add, nI_1, sn_mul, x_sub, x_sub1, sn_m1, l2, l3, l4, l5, l6, l7, l8, l9, l10, l11, l12, l13, l14, l15, l20, l30, l40, l48, l60, l64, l99, l100, l700, l999, not_true_eq_false, not_false_eq_true, x_t0, x_t1, lts1, x_10, x_1sub, eq_self, Nat.reduceSub, Nat.reduceAdd, Nat.reduceMul, ↓t1_of (c_chP1 hw hc hp), e1, e2]
      · simp (disch := omega) only [↓g_in, ↓g_c0, ↓g_c1, ↓reduceIte, ↓y_lt, ↓y_q1, ↓y_q2, ↓sn_q3, ↓sn_t1l, ↓sn_t1r, ↓sn_t2l, ↓sn_t2r, y_q1, y_q2, sn_q3, sn_t1l, sn_t1r, sn_t2l, sn_t2r, nI_clamp, x_leT, x_leF, x_ltT, x_ltF, x_eqT, x_eqF, x_le0T, x_le0F, x_0leT, x_lt0F, x_0ltT, x_0ltF, x_eq0T, x_eq0F, x_le1T, x_le1F, x_1leT, x_1leF, x_1ltT, x_1ltF, x_lt1T, x_lt1F, x_eq1T, x_eq1F, x_m1F, nI_add, nI_1, sn_mul, x_sub, x_sub1, sn_m1, l2, l3, l4, l5, l6, l7, l8, l9, l10, l11, l12, l13, l14, l15, l20, l30, l40, l48, l60, l64, l99, l100, l700, l999, not_true_eq_false, not_false_eq_true, x_t0, x_t1, lts1, x_10, x_1sub, eq_self, Nat.reduceSub, Nat.reduceAdd, Nat.reduceMul, ↓q2_of (m_isP1 hw hm h0 hp), ↓q1_of (m_wi0 (y := 1000000000) (n := 1000000000) hy (by omega) rfl), ↓q2_of (m_rt0 (e := 2) h0 (by decide))]
    · have h48 := nts_le hw (p := p) (by omega)
      have e3 : nI m ≤ 1000000000 := nI_le (b := 1000000000) (by omega) (by omega)
      have c1 : F_VM_slips_20 t C sd_fu (nI m) (nI (nts A p)) (nI 0) = fxv (fx (slf A p (nI m)) 13 0) (fun k => some (.inl (nI k))) (some (.inl (-1))) := by
        refine lp_fX (fun f j => F_VM_slips_20 t C f (nI m) (nI (nts A p)) j) (slf A p (nI m)) (fun k => some (.inl (nI k))) (some (.inl (-1))) 13 0 (by omega) (by omega) ?_ ?_
        · intro f
          show F_VM_slips_20B t (F_VM_slips_20 t C f) (nI m) (nI (nts A p)) (nI 13) C = _
          unfold F_VM_slips_20B
          simp (disch := omega) only [↓g_in, ↓g_c0, ↓g_c1, ↓reduceIte, ↓y_lt, ↓y_q1, ↓y_q2, ↓sn_q3, ↓sn_t1l, ↓sn_t1r, ↓sn_t2l, ↓sn_t2r, y_q1, y_q2, sn_q3, sn_t1l, sn_t1r, sn_t2l, sn_t2r, nI_clamp, x_leT, x_leF, x_ltT, x_ltF, x_eqT, x_eqF, x_le0T, x_le0F, x_0leT, x_lt0F, x_0ltT, x_0ltF, x_eq0T, x_eq0F, x_le1T, x_le1F, x_1leT, x_1leF, x_1ltT, x_1ltF, x_lt1T, x_lt1F, x_eq1T, x_eq1F, x_m1F, nI_add, nI_1, sn_mul, x_sub, x_sub1, sn_m1, l2, l3, l4, l5, l6, l7, l8, l9, l10, l11, l12, l13, l14, l15, l20, l30, l40, l48, l60, l64, l99, l100, l700, l999, not_true_eq_false, not_false_eq_true, x_t0, x_t1, lts1, x_10, x_1sub, eq_self, Nat.reduceSub, Nat.reduceAdd, Nat.reduceMul]
        · intro f k _ hk
          show F_VM_slips_20B t (F_VM_slips_20 t C f) (nI m) (nI (nts A p)) (nI k) C = fxv (slf A p (nI m) k) (fun k => some (.inl (nI k))) (F_VM_slips_20 t C f (nI m) (nI (nts A p)) (nI (k + 1)))
          unfold F_VM_slips_20B slf
          simp (disch := omega) only [↓g_in, ↓g_c0, ↓g_c1, ↓reduceIte, ↓y_lt, ↓y_q1, ↓y_q2, ↓sn_q3, ↓sn_t1l, ↓sn_t1r, ↓sn_t2l, ↓sn_t2r, y_q1, y_q2, sn_q3, sn_t1l, sn_t1r, sn_t2l, sn_t2r, nI_clamp, x_leT, x_leF, x_ltT, x_ltF, x_eqT, x_eqF, x_le0T, x_le0F, x_0leT, x_lt0F, x_0ltT, x_0ltF, x_eq0T, x_eq0F, x_le1T, x_le1F, x_1leT, x_1leF, x_1ltT, x_1ltF, x_lt1T, x_lt1F, x_eq1T, x_eq1F, x_m1F, nI_add, nI_1, sn_mul, x_sub, x_sub1, sn_m1, l2, l3, l4, l5, l6, l7, l8, l9, l10, l11, l12, l13, l14, l15, l20, l30, l40, l48, l60, l64, l99, l100, l700, l999, not_true_eq_false, not_false_eq_true, x_t0, x_t1, lts1, x_10, x_1sub, eq_self, Nat.reduceSub, Nat.reduceAdd, Nat.reduceMul, c_slip (nts A p) (show nts A p < 49 by omega) k hk]
          split <;> rfl
      have c2 : F_Mo_slips_19 sd_fu (nI p) (nI m) (nI 0) M1 = fxv (fx (slf A p (nI m)) 13 0) (fun k => some (nI k, M1)) (some (-1, M1)) := by
        refine lp_fX (fun f j => F_Mo_slips_19 f (nI p) (nI m) j M1) (slf A p (nI m)) (fun k => some (nI k, M1)) (some (-1, M1)) 13 0 (by omega) (by omega) ?_ ?_
        · intro f
          show F_Mo_slips_19B (F_Mo_slips_19 f) (nI p) (nI m) (nI 13) M1 = _
          unfold F_Mo_slips_19B
          simp (disch := omega) only [↓g_in, ↓g_c0, ↓g_c1, ↓reduceIte, ↓y_lt, ↓y_q1, ↓y_q2, ↓sn_q3, ↓sn_t1l, ↓sn_t1r, ↓sn_t2l, ↓sn_t2r, y_q1, y_q2, sn_q3, sn_t1l, sn_t1r, sn_t2l, sn_t2r, nI_clamp, x_leT, x_leF, x_ltT, x_ltF, x_eqT, x_eqF, x_le0T, x_le0F, x_0leT, x_lt0F, x_0ltT, x_0ltF, x_eq0T, x_eq0F, x_le1T, x_le1F, x_1leT, x_1leF, x_1ltT, x_1ltF, x_lt1T, x_lt1F, x_eq1T, x_eq1F, x_m1F, nI_add, nI_1, sn_mul, x_sub, x_sub1, sn_m1, l2, l3, l4, l5, l6, l7, l8, l9, l10, l11, l12, l13, l14, l15, l20, l30, l40, l48, l60, l64, l99, l100, l700, l999, not_true_eq_false, not_false_eq_true, x_t0, x_t1, lts1, x_10, x_1sub, eq_self, Nat.reduceSub, Nat.reduceAdd, Nat.reduceMul]
        · intro f k _ hk
          show F_Mo_slips_19B (F_Mo_slips_19 f) (nI p) (nI m) (nI k) M1 = fxv (slf A p (nI m) k) (fun k => some (nI k, M1)) (F_Mo_slips_19 f (nI p) (nI m) (nI (k + 1)) M1)
          unfold F_Mo_slips_19B slf
          simp (disch := omega) only [↓g_in, ↓g_c0, ↓g_c1, ↓reduceIte, ↓y_lt, ↓y_q1, ↓y_q2, ↓sn_q3, ↓sn_t1l, ↓sn_t1r, ↓sn_t2l, ↓sn_t2r, y_q1, y_q2, sn_q3, sn_t1l, sn_t1r, sn_t2l, sn_t2r, nI_clamp, x_leT, x_leF, x_ltT, x_ltF, x_eqT, x_eqF, x_le0T, x_le0F, x_0leT, x_lt0F, x_0ltT, x_0ltF, x_eq0T, x_eq0F, x_le1T, x_le1F, x_1leT, x_1leF, x_1ltT, x_1ltF, x_lt1T, x_lt1F, x_eq1T, x_eq1F, x_m1F, nI_add, nI_1, sn_mul, x_sub, x_sub1, sn_m1, l2, l3, l4, l5, l6, l7, l8, l9, l10, l11, l12, l13, l14, l15, l20, l30, l40, l48, l60, l64, l99, l100, l700, l999, not_true_eq_false, not_false_eq_true, x_t0, x_t1, lts1, x_10, x_1sub, eq_self, Nat.reduceSub, Nat.reduceAdd, Nat.reduceMul, m_codesOf hw hm (show p < 5 by omega) hk]
          split <;> rfl
      have c1 : F_VM_slips_20 t C sd_fu (nI m) (nI (nts A p)) 0 = _ := c1
      have c2 : F_Mo_slips_19 sd_fu (nI p) (nI m) 0 M1 = _ := c2
      cases ho : fx (slf A p (nI m)) 13 0 with
      | none =>
        rw [ho] at c1 c2
        refine ⟨.inl (-1), ?_, mq_v (M' := M1) ?_ h0 hs⟩
        · simp (disch := omega) only [↓g_in, ↓g_c0, ↓g_c1, ↓reduceIte, ↓y_lt, ↓y_q1, ↓y_q2, ↓sn_q3, ↓sn_t1l, ↓sn_t1r, ↓sn_t2l, ↓sn_t2r, y_q1, y_q2, sn_q3, sn_t1l, sn_t1r, sn_t2l, sn_t2r, nI_clamp, x_leT, x_leF, x_ltT, x_ltF, x_eqT, x_eqF, x_le0T, x_le0F, x_0leT, x_lt0F, x_0ltT, x_0ltF, x_eq0T, x_eq0F, x_le1T, x_le1F, x_1leT, x_1leF, x_1ltT, x_1ltF, x_lt1T, x_lt1F, x_eq1T, x_eq1F, x_m1F, nI_add, nI_1, sn_mul, x_sub, x_sub1, sn_m1, l2, l3, l4, l5, l6, l7, l8, l9, l10, l11, l12, l13, l14, l15, l20, l30, l40, l48, l60, l64, l99, l100, l700, l999, not_true_eq_false, not_false_eq_true, x_t0, x_t1, lts1, x_10, x_1sub, eq_self, Nat.reduceSub, Nat.reduceAdd, Nat.reduceMul, ↓t1_of (c_chP1 hw hc hp), e3, c_notesIn hw hc (show p < 5 by omega), c1]
          rfl
        · simp (disch := omega) only [↓g_in, ↓g_c0, ↓g_c1, ↓reduceIte, ↓y_lt, ↓y_q1, ↓y_q2, ↓sn_q3, ↓sn_t1l, ↓sn_t1r, ↓sn_t2l, ↓sn_t2r, y_q1, y_q2, sn_q3, sn_t1l, sn_t1r, sn_t2l, sn_t2r, nI_clamp, x_leT, x_leF, x_ltT, x_ltF, x_eqT, x_eqF, x_le0T, x_le0F, x_0leT, x_lt0F, x_0ltT, x_0ltF, x_eq0T, x_eq0F, x_le1T, x_le1F, x_1leT, x_1leF, x_1ltT, x_1ltF, x_lt1T, x_lt1F, x_eq1T, x_eq1F, x_m1F, nI_add, nI_1, sn_mul, x_sub, x_sub1, sn_m1, l2, l3, l4, l5, l6, l7, l8, l9, l10, l11, l12, l13, l14, l15, l20, l30, l40, l48, l60, l64, l99, l100, l700, l999, not_true_eq_false, not_false_eq_true, x_t0, x_t1, lts1, x_10, x_1sub, eq_self, Nat.reduceSub, Nat.reduceAdd, Nat.reduceMul, ↓q2_of (m_isP1 hw hm h0 hp), ↓q1_of (m_wi1 (y := 1000000000) (n := 1000000000) hk (by omega) rfl), ↓q2_of (m_rt1 (x := 1) (e := 2) h0 n10), c2]
          rfl
      | some k =>
        rw [ho] at c1 c2
        refine ⟨.inl (nI k), ?_, mq_v (M' := M1) ?_ h0 hs⟩
        · simp (disch := omega) only [↓g_in, ↓g_c0, ↓g_c1, ↓reduceIte, ↓y_lt, ↓y_q1, ↓y_q2, ↓sn_q3, ↓sn_t1l, ↓sn_t1r, ↓sn_t2l, ↓sn_t2r, y_q1, y_q2, sn_q3, sn_t1l, sn_t1r, sn_t2l, sn_t2r, nI_clamp, x_leT, x_leF, x_ltT, x_ltF, x_eqT, x_eqF, x_le0T, x_le0F, x_0leT, x_lt0F, x_0ltT, x_0ltF, x_eq0T, x_eq0F, x_le1T, x_le1F, x_1leT, x_1leF, x_1ltT, x_1ltF, x_lt1T, x_lt1F, x_eq1T, x_eq1F, x_m1F, nI_add, nI_1, sn_mul, x_sub, x_sub1, sn_m1, l2, l3, l4, l5, l6, l7, l8, l9, l10, l11, l12, l13, l14, l15, l20, l30, l40, l48, l60, l64, l99, l100, l700, l999, not_true_eq_false, not_false_eq_true, x_t0, x_t1, lts1, x_10, x_1sub, eq_self, Nat.reduceSub, Nat.reduceAdd, Nat.reduceMul, ↓t1_of (c_chP1 hw hc hp), e3, c_notesIn hw hc (show p < 5 by omega), c1]
          rfl
        · simp (disch := omega) only [↓g_in, ↓g_c0, ↓g_c1, ↓reduceIte, ↓y_lt, ↓y_q1, ↓y_q2, ↓sn_q3, ↓sn_t1l, ↓sn_t1r, ↓sn_t2l, ↓sn_t2r, y_q1, y_q2, sn_q3, sn_t1l, sn_t1r, sn_t2l, sn_t2r, nI_clamp, x_leT, x_leF, x_ltT, x_ltF, x_eqT, x_eqF, x_le0T, x_le0F, x_0leT, x_lt0F, x_0ltT, x_0ltF, x_eq0T, x_eq0F, x_le1T, x_le1F, x_1leT, x_1leF, x_1ltT, x_1ltF, x_lt1T, x_lt1F, x_eq1T, x_eq1F, x_m1F, nI_add, nI_1, sn_mul, x_sub, x_sub1, sn_m1, l2, l3, l4, l5, l6, l7, l8, l9, l10, l11, l12, l13, l14, l15, l20, l30, l40, l48, l60, l64, l99, l100, l700, l999, not_true_eq_false, not_false_eq_true, x_t0, x_t1, lts1, x_10, x_1sub, eq_self, Nat.reduceSub, Nat.reduceAdd, Nat.reduceMul, ↓q2_of (m_isP1 hw hm h0 hp), ↓q1_of (m_wi1 (y := 1000000000) (n := 1000000000) hk (by omega) rfl), ↓q2_of (m_rt1 (x := 1) (e := 2) h0 n10), c2]
          rfl
end QU
