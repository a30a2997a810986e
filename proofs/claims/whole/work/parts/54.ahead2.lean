/-! ===== silent, lost, gone, falls, held ===== -/
section QU
variable {A : sA} {R : Nat → List Nat} {t : Nat} {C M : sm_MI}
theorem g1416 {α : Type} {o : Option α} : sd_gu (sm_in 14 16 = true) o = o := sn_gu (by decide)
def sif (A : sA) (R : Nat → List Nat) (c : Nat → Int32) (k : Nat) : Option Int32 := if (decide (sd_mod (Dk A R c k 3) (nI (A 0 2)) = 0) && decide (sg A (Dk A R c k 0) = 0)) then some (Dk A R c k 3) else none
theorem q_silent (h : Rel A R t C M) : ∃ v C', F_VM_silent t C = some (v, C') ∧ csm t C C' ∧ mq (F_Mo_silent M) M (.inl v) := by
  obtain ⟨M1, hM1, h0, h, hs⟩ := h.start
  have hw := h.wa
  have hr := h.rw
  have ht := h.tt
  have n1 := hw.2.2.1
  have n2 := hw.2.2.2.1
  obtain ⟨I1, c, e1, e2, -, e3, e4⟩ := c_trial h
  obtain ⟨J1, e5, e6, e7⟩ := m_trial h e4
  obtain ⟨v, C', M', k1, k2, k3, k4⟩ := ahead (R := R) h (fun x => x) (sif A R c) (fun v => v) (-1) 99 (by omega) (fun f j s => F_VM_silent_8 t f j s) (fun f j s => F_Mo_silent_11 f j s) e2 e3 e6 e7
    (fun f s _ _ => by
      show F_VM_silent_8B t (F_VM_silent_8 t f) (nI 99) s = _
      unfold F_VM_silent_8B
      rw [if_pos (show (99 : Int32) ≤ nI 99 from Int32.le_refl _)])
    (fun f s _ _ => by
      show F_Mo_silent_11B (F_Mo_silent_11 f) (nI 99) s = _
      unfold F_Mo_silent_11B
      rw [if_pos (show (99 : Int32) ≤ nI 99 from Int32.le_refl _)])
    (fun f j s hj h1 h2 => by
      obtain ⟨s', d1, d2, d3⟩ := cday hw hr ht h.ca h.rc h2 h1
      refine ⟨s', d2, d3, ?_⟩
      show F_VM_silent_8B t (F_VM_silent_8 t f) (nI j) s = _
      unfold F_VM_silent_8B F_VM_silent_29 sif
      rw [if_neg (show ¬ (99 : Int32) ≤ nI j from nI_ge (b := 99) hj (by omega)), c_isEvening hw (h2.ca ht h.ca), sn_q1, c_singable hw (h2.ca ht h.ca), sn_q1, d1, sn_q2, h1, nI_1]
      by_cases g1 : sd_mod (Dk A R c j 3) (nI (A 0 2)) = 0
      · by_cases g2 : sg A (Dk A R c j 0) = 0
        · simp (disch := omega) only [↓g_in, ↓g_c0, ↓g_c1, ↓reduceIte, ↓y_lt, ↓y_q1, ↓y_q2, ↓sn_q3, ↓sn_t1l, ↓sn_t1r, ↓sn_t2l, ↓sn_t2r, y_q1, y_q2, sn_q3, sn_t1l, sn_t1r, sn_t2l, sn_t2r, nI_clamp, x_leT, x_leF, x_ltT, x_ltF, x_eqT, x_eqF, x_le0T, x_le0F, x_0leT, x_lt0F, x_0ltT, x_0ltF, x_eq0T, x_eq0F, x_le1T, x_le1F, x_1leT, x_1leF, x_1ltT, x_1ltF, x_lt1T, x_lt1F, x_eq1T, x_eq1F, x_m1F, nI_add, nI_1, sn_mul, x_sub, x_sub1, sn_m1, l2, l3, l4, l5, l6, l7, l8, l9, l10, l11, l12, l13, l14, l15, l20, l30, l40, l48, l60, l64, l99, l100, l700, l999, not_true_eq_false, not_false_eq_true, x_t0, x_t1, lts1, x_10, x_1sub, eq_self, Nat.reduceSub, Nat.reduceAdd, Nat.reduceMul, g1, g2, decide_true, Bool.and_self]
          rfl
        · simp (disch := omega) only [↓g_in, ↓g_c0, ↓g_c1, ↓reduceIte, ↓y_lt, ↓y_q1, ↓y_q2, ↓sn_q3, ↓sn_t1l, ↓sn_t1r, ↓sn_t2l, ↓sn_t2r, y_q1, y_q2, sn_q3, sn_t1l, sn_t1r, sn_t2l, sn_t2r, nI_clamp, x_leT, x_leF, x_ltT, x_ltF, x_eqT, x_eqF, x_le0T, x_le0F, x_0leT, x_lt0F, x_0ltT, x_0ltF, x_eq0T, x_eq0F, x_le1T, x_le1F, x_1leT, x_1leF, x_1ltT, x_1ltF, x_lt1T, x_lt1F, x_eq1T, x_eq1F, x_m1F, nI_add, nI_1, sn_mul, x_sub, x_sub1, sn_m1, l2, l3, l4, l5, l6, l7, l8, l9, l10, l11, l12, l13, l14, l15, l20, l30, l40, l48, l60, l64, l99, l100, l700, l999, not_true_eq_false, not_false_eq_true, x_t0, x_t1, lts1, x_10, x_1sub, eq_self, Nat.reduceSub, Nat.reduceAdd, Nat.reduceMul, g1, g2, decide_true, decide_false, Bool.and_false, Bool.false_eq_true]
          rfl
      · simp (disch := omega) only [↓g_in, ↓g_c0, ↓g_c1, ↓reduceIte, ↓y_lt, ↓y_q1, ↓y_q2, ↓sn_q3, ↓sn_t1l, ↓sn_t1r, ↓sn_t2l, ↓sn_t2r, y_q1, y_q2, sn_q3, sn_t1l, sn_t1r, sn_t2l, sn_t2r, nI_clamp, x_leT, x_leF, x_ltT, x_ltF, x_eqT, x_eqF, x_le0T, x_le0F, x_0leT, x_lt0F, x_0ltT, x_0ltF, x_eq0T, x_eq0F, x_le1T, x_le1F, x_1leT, x_1leF, x_1ltT, x_1ltF, x_lt1T, x_lt1F, x_eq1T, x_eq1F, x_m1F, nI_add, nI_1, sn_mul, x_sub, x_sub1, sn_m1, l2, l3, l4, l5, l6, l7, l8, l9, l10, l11, l12, l13, l14, l15, l20, l30, l40, l48, l60, l64, l99, l100, l700, l999, not_true_eq_false, not_false_eq_true, x_t0, x_t1, lts1, x_10, x_1sub, eq_self, Nat.reduceSub, Nat.reduceAdd, Nat.reduceMul, g1, decide_false, Bool.false_and, Bool.false_eq_true]
        rfl)
    (fun f j s hj h1 h2 => by
      obtain ⟨s', d1, d2, d3⟩ := mday hw hr h.ma h.rm h2 h1
      refine ⟨s', d2, d3, ?_⟩
      have hm := h2.ma h.ma
      show F_Mo_silent_11B (F_Mo_silent_11 f) (nI j) s = _
      unfold F_Mo_silent_11B F_Mo_silent_35 sif
      rw [if_neg (show ¬ (99 : Int32) ≤ nI j from nI_ge (b := 99) hj (by omega)), g1416, g1416, hm.2.2.1, sn_gu (nI_ne0 n1 (by omega)), h1.2.2.1, mo_so0 hw hm h1, sn_q1, mo_sungBy hw hm, sn_q1, d1, sn_q2, nI_1]
      by_cases g1 : sd_mod (Dk A R c j 3) (nI (A 0 2)) = 0
      · by_cases g2 : sg A (Dk A R c j 0) = 0
        · simp (disch := omega) only [↓g_in, ↓g_c0, ↓g_c1, ↓reduceIte, ↓y_lt, ↓y_q1, ↓y_q2, ↓sn_q3, ↓sn_t1l, ↓sn_t1r, ↓sn_t2l, ↓sn_t2r, y_q1, y_q2, sn_q3, sn_t1l, sn_t1r, sn_t2l, sn_t2r, nI_clamp, x_leT, x_leF, x_ltT, x_ltF, x_eqT, x_eqF, x_le0T, x_le0F, x_0leT, x_lt0F, x_0ltT, x_0ltF, x_eq0T, x_eq0F, x_le1T, x_le1F, x_1leT, x_1leF, x_1ltT, x_1ltF, x_lt1T, x_lt1F, x_eq1T, x_eq1F, x_m1F, nI_add, nI_1, sn_mul, x_sub, x_sub1, sn_m1, l2, l3, l4, l5, l6, l7, l8, l9, l10, l11, l12, l13, l14, l15, l20, l30, l40, l48, l60, l64, l99, l100, l700, l999, not_true_eq_false, not_false_eq_true, x_t0, x_t1, lts1, x_10, x_1sub, eq_self, Nat.reduceSub, Nat.reduceAdd, Nat.reduceMul, g1, g2, decide_true, Bool.and_self]
          rfl
        · simp (disch := omega) only [↓g_in, ↓g_c0, ↓g_c1, ↓reduceIte, ↓y_lt, ↓y_q1, ↓y_q2, ↓sn_q3, ↓sn_t1l, ↓sn_t1r, ↓sn_t2l, ↓sn_t2r, y_q1, y_q2, sn_q3, sn_t1l, sn_t1r, sn_t2l, sn_t2r, nI_clamp, x_leT, x_leF, x_ltT, x_ltF, x_eqT, x_eqF, x_le0T, x_le0F, x_0leT, x_lt0F, x_0ltT, x_0ltF, x_eq0T, x_eq0F, x_le1T, x_le1F, x_1leT, x_1leF, x_1ltT, x_1ltF, x_lt1T, x_lt1F, x_eq1T, x_eq1F, x_m1F, nI_add, nI_1, sn_mul, x_sub, x_sub1, sn_m1, l2, l3, l4, l5, l6, l7, l8, l9, l10, l11, l12, l13, l14, l15, l20, l30, l40, l48, l60, l64, l99, l100, l700, l999, not_true_eq_false, not_false_eq_true, x_t0, x_t1, lts1, x_10, x_1sub, eq_self, Nat.reduceSub, Nat.reduceAdd, Nat.reduceMul, g1, g2, decide_true, decide_false, Bool.and_false, Bool.false_eq_true]
          rfl
      · simp (disch := omega) only [↓g_in, ↓g_c0, ↓g_c1, ↓reduceIte, ↓y_lt, ↓y_q1, ↓y_q2, ↓sn_q3, ↓sn_t1l, ↓sn_t1r, ↓sn_t2l, ↓sn_t2r, y_q1, y_q2, sn_q3, sn_t1l, sn_t1r, sn_t2l, sn_t2r, nI_clamp, x_leT, x_leF, x_ltT, x_ltF, x_eqT, x_eqF, x_le0T, x_le0F, x_0leT, x_lt0F, x_0ltT, x_0ltF, x_eq0T, x_eq0F, x_le1T, x_le1F, x_1leT, x_1leF, x_1ltT, x_1ltF, x_lt1T, x_lt1F, x_eq1T, x_eq1F, x_m1F, nI_add, nI_1, sn_mul, x_sub, x_sub1, sn_m1, l2, l3, l4, l5, l6, l7, l8, l9, l10, l11, l12, l13, l14, l15, l20, l30, l40, l48, l60, l64, l99, l100, l700, l999, not_true_eq_false, not_false_eq_true, x_t0, x_t1, lts1, x_10, x_1sub, eq_self, Nat.reduceSub, Nat.reduceAdd, Nat.reduceMul, g1, decide_false, Bool.false_and, Bool.false_eq_true]
        rfl)
  unfold F_VM_silent F_Mo_silent
  rw [hM1]
  exact ⟨v, C', by rw [e1, sn_q1]; exact k1, k2.csm, mq_v (M' := M') (by rw [y_lt, e5, sn_q1]; exact k3) (by rw [k4 61 (by omega) (by omega) (by omega)]; exact h0) (k4.smM hs)⟩
def lof (A : sA) (R : Nat → List Nat) (c : Nat → Int32) (p k : Nat) : Option Int32 := if cs A (Dk A R c k 0) p 0 then none else some (Dk A R c k 3)
theorem q_lost (h : Rel A R t C M) (x : Int32) : ∃ r C', F_VM_lost t x C = some (r, C') ∧ csm t C C' ∧ mq (F_Mo_lost x M) M (cv r) := by
  obtain ⟨M1, hM1, h0, h, hs⟩ := h.start
  have hw := h.wa
  have hr := h.rw
  have ht := h.tt
  have h5 := hw.2.1
  unfold F_VM_lost F_Mo_lost
  rw [hM1]
  rcases ix_or x (n := A 0 1) (by omega) with hx | ⟨p, hp, rfl⟩
  · refine ⟨.inr 1, C, by rw [c_chP0 hw h.ca hx]; rfl, csm.refl, mq_t hs (v := 0) ?_⟩
    simp (disch := omega) only [↓g_in, ↓g_c0, ↓g_c1, ↓reduceIte, ↓y_lt, ↓y_q1, ↓y_q2, ↓sn_q3, ↓sn_t1l, ↓sn_t1r, ↓sn_t2l, ↓sn_t2r, y_q1, y_q2, sn_q3, sn_t1l, sn_t1r, sn_t2l, sn_t2r, nI_clamp, x_leT, x_leF, x_ltT, x_ltF, x_eqT, x_eqF, x_le0T, x_le0F, x_0leT, x_lt0F, x_0ltT, x_0ltF, x_eq0T, x_eq0F, x_le1T, x_le1F, x_1leT, x_1leF, x_1ltT, x_1ltF, x_lt1T, x_lt1F, x_eq1T, x_eq1F, x_m1F, nI_add, nI_1, sn_mul, x_sub, x_sub1, sn_m1, l2, l3, l4, l5, l6, l7, l8, l9, l10, l11, l12, l13, l14, l15, l20, l30, l40, l48, l60, l64, l99, l100, l700, l999, not_true_eq_false, not_false_eq_true, x_t0, x_t1, lts1, x_10, x_1sub, eq_self, Nat.reduceSub, Nat.reduceAdd, Nat.reduceMul, ↓q2_of (m_isP0 hw h.ma h0 hx)]
  · obtain ⟨I1, c, e1, e2, -, e3, e4⟩ := c_trial h
    obtain ⟨J1, e5, e6, e7⟩ := m_trial h e4
    obtain ⟨v, C', M', k1, k2, k3, k4⟩ := ahead (R := R) h (δ := Int32 ⊕ Nat) Sum.inl (lof A R c p) (fun v => v) (-1) 99 (by omega) (fun f j s => F_VM_lost_11 t f (nI p) j s) (fun f j s => F_Mo_lost_17 f (nI p) j s) e2 e3 e6 e7
      (fun f s _ _ => by
        show F_VM_lost_11B t (F_VM_lost_11 t f) (nI p) (nI 99) s = _
        unfold F_VM_lost_11B
        rw [if_pos (show (99 : Int32) ≤ nI 99 from Int32.le_refl _)])
      (fun f s _ _ => by
        show F_Mo_lost_17B (F_Mo_lost_17 f) (nI p) (nI 99) s = _
        unfold F_Mo_lost_17B
        rw [if_pos (show (99 : Int32) ≤ nI 99 from Int32.le_refl _)])
      (fun f j s hj h1 h2 => by
        obtain ⟨s', d1, d2, d3⟩ := cday hw hr ht h.ca h.rc h2 h1
        refine ⟨s', d2, d3, ?_⟩
        show F_VM_lost_11B t (F_VM_lost_11 t f) (nI p) (nI j) s = _
        unfold F_VM_lost_11B lof
        rw [if_neg (show ¬ (99 : Int32) ≤ nI j from nI_ge (b := 99) hj (by omega)), c_canBeSung hw (h2.ca ht h.ca) (show p < 5 by omega), sn_q1, d1, sn_q2, h1, nI_1]
        cases cs A (Dk A R c j 0) p 0 <;> rfl)
      (fun f j s hj h1 h2 => by
        obtain ⟨s', d1, d2, d3⟩ := mday hw hr h.ma h.rm h2 h1
        refine ⟨s', d2, d3, ?_⟩
        have hm := h2.ma h.ma
        have em := mo_canBeSung (p := p) (x := Dk A R c j 0) (u := 0) hw hm (by omega) (by decide)
        have em : F_Mo_canBeSung (Dk A R c j 0) (nI p) 0 s = some (if cs A (Dk A R c j 0) p 0 = true then 1 else 0) := em
        show F_Mo_lost_17B (F_Mo_lost_17 f) (nI p) (nI j) s = _
        unfold F_Mo_lost_17B lof
        rw [if_neg (show ¬ (99 : Int32) ≤ nI j from nI_ge (b := 99) hj (by omega)), g1416, mo_so0 hw hm h1, sn_q1, em, sn_q1, d1, sn_q2, h1.2.2.1, nI_1]
        cases cs A (Dk A R c j 0) p 0 <;> rfl)
    refine ⟨.inl v, C', ?_, k2.csm, mq_v (M' := M') ?_ (by rw [k4 61 (by omega) (by omega) (by omega)]; exact h0) (k4.smM hs)⟩
    · simp (disch := omega) only [↓g_in, ↓g_c0, ↓g_c1, ↓reduceIte, ↓y_lt, ↓y_q1, ↓y_q2, ↓sn_q3, ↓sn_t1l, ↓sn_t1r, ↓sn_t2l, ↓sn_t2r, y_q1, y_q2, sn_q3, sn_t1l, sn_t1r, sn_t2l, sn_t2r, nI_clamp, x_leT, x_leF, x_ltT, x_ltF, x_eqT, x_eqF, x_le0T, x_le0F, x_0leT, x_lt0F, x_0ltT, x_0ltF, x_eq0T, x_eq0F, x_le1T, x_le1F, x_1leT, x_1leF, x_1ltT, x_1ltF, x_lt1T, x_lt1F, x_eq1T, x_eq1F, x_m1F, nI_add, nI_1, sn_mul, x_sub, x_sub1, sn_m1, l2, l3, l4, l5, l6, l7, l8, l9, l10, l11, l12, l13, l14, l15, l20, l30, l40, l48, l60, l64, l99, l100, l700, l999, not_true_eq_false, not_false_eq_true, x_t0, x_t1, lts1, x_10, x_1sub, eq_self, Nat.reduceSub, Nat.reduceAdd, Nat.reduceMul, ↓t1_of (c_chP1 hw h.ca hp), ↓q1_of e1]
      exact k1
    · simp (disch := omega) only [↓g_in, ↓g_c0, ↓g_c1, ↓reduceIte, ↓y_lt, ↓y_q1, ↓y_q2, ↓sn_q3, ↓sn_t1l, ↓sn_t1r, ↓sn_t2l, ↓sn_t2r, y_q1, y_q2, sn_q3, sn_t1l, sn_t1r, sn_t2l, sn_t2r, nI_clamp, x_leT, x_leF, x_ltT, x_ltF, x_eqT, x_eqF, x_le0T, x_le0F, x_0leT, x_lt0F, x_0ltT, x_0ltF, x_eq0T, x_eq0F, x_le1T, x_le1F, x_1leT, x_1leF, x_1ltT, x_1ltF, x_lt1T, x_lt1F, x_eq1T, x_eq1F, x_m1F, nI_add, nI_1, sn_mul, x_sub, x_sub1, sn_m1, l2, l3, l4, l5, l6, l7, l8, l9, l10, l11, l12, l13, l14, l15, l20, l30, l40, l48, l60, l64, l99, l100, l700, l999, not_true_eq_false, not_false_eq_true, x_t0, x_t1, lts1, x_10, x_1sub, eq_self, Nat.reduceSub, Nat.reduceAdd, Nat.reduceMul, ↓q2_of (m_isP1 hw h.ma h0 hp), ↓q1_of e5]
      exact k3
def gof (A : sA) (R : Nat → List Nat) (c : Nat → Int32) (σ k : Nat) : Option Int32 := if sd A σ &&& Dk A R c k 0 = 0 then some (Dk A R c k 3) else none
theorem q_gone (h : Rel A R t C M) (x : Int32) : ∃ r C', F_VM_gone t x C = some (r, C') ∧ csm t C C' ∧ mq (F_Mo_gone x M) M (cv r) := by
  obtain ⟨M1, hM1, h0, h, hs⟩ := h.start
  have hw := h.wa
  have hr := h.rw
  have ht := h.tt
  unfold F_VM_gone F_Mo_gone
  rw [hM1]
  rcases ix_or x (n := 3) (by omega) with hx | ⟨σ, hσ, rfl⟩
  · refine ⟨.inr 1, C, ?_, csm.refl, mq_t hs (v := 0) ?_⟩
    · rcases hx with h | h
      · rw [if_pos h]
      · rw [if_neg (ix_lt h (by omega)), if_neg (show ¬ x < (3 : Int32) from Int32.not_lt.mpr h)]
    · simp (disch := omega) only [↓g_in, ↓g_c0, ↓g_c1, ↓reduceIte, ↓y_lt, ↓y_q1, ↓y_q2, ↓sn_q3, ↓sn_t1l, ↓sn_t1r, ↓sn_t2l, ↓sn_t2r, y_q1, y_q2, sn_q3, sn_t1l, sn_t1r, sn_t2l, sn_t2r, nI_clamp, x_leT, x_leF, x_ltT, x_ltF, x_eqT, x_eqF, x_le0T, x_le0F, x_0leT, x_lt0F, x_0ltT, x_0ltF, x_eq0T, x_eq0F, x_le1T, x_le1F, x_1leT, x_1leF, x_1ltT, x_1ltF, x_lt1T, x_lt1F, x_eq1T, x_eq1F, x_m1F, nI_add, nI_1, sn_mul, x_sub, x_sub1, sn_m1, l2, l3, l4, l5, l6, l7, l8, l9, l10, l11, l12, l13, l14, l15, l20, l30, l40, l48, l60, l64, l99, l100, l700, l999, not_true_eq_false, not_false_eq_true, x_t0, x_t1, lts1, x_10, x_1sub, eq_self, Nat.reduceSub, Nat.reduceAdd, Nat.reduceMul, ↓q2_of (m_isW0 (y := 2) (n := 2) h0 hx (by omega) rfl)]
  · obtain ⟨I1, c, e1, e2, -, e3, e4⟩ := c_trial h
    obtain ⟨J1, e5, e6, e7⟩ := m_trial h e4
    obtain ⟨v, C', M', k1, k2, k3, k4⟩ := ahead (R := R) h (δ := Int32 ⊕ Nat) Sum.inl (gof A R c σ) (fun v => v) (-1) 99 (by omega) (fun f j s => F_VM_gone_18 t f (nI σ) j s) (fun f j s => F_Mo_gone_18 f (nI σ) j s) e2 e3 e6 e7
      (fun f s _ _ => by
        show F_VM_gone_18B t (F_VM_gone_18 t f) (nI σ) (nI 99) s = _
        unfold F_VM_gone_18B
        rw [if_pos (show (99 : Int32) ≤ nI 99 from Int32.le_refl _)])
      (fun f s _ _ => by
        show F_Mo_gone_18B (F_Mo_gone_18 f) (nI σ) (nI 99) s = _
        unfold F_Mo_gone_18B
        rw [if_pos (show (99 : Int32) ≤ nI 99 from Int32.le_refl _)])
      (fun f j s hj h1 h2 => by
        obtain ⟨s', d1, d2, d3⟩ := cday hw hr ht h.ca h.rc h2 h1
        refine ⟨s', d2, d3, ?_⟩
        show F_VM_gone_18B t (F_VM_gone_18 t f) (nI σ) (nI j) s = _
        unfold F_VM_gone_18B gof
        rw [if_neg (show ¬ (99 : Int32) ≤ nI j from nI_ge (b := 99) hj (by omega)), c_ofSide' (h2.ca ht h.ca) hσ, sn_q1, d1, sn_q2, h1, nI_1]
        by_cases g1 : sd A σ &&& Dk A R c j 0 = 0
        · rw [if_neg (sn_nn g1), if_pos g1]; rfl
        · rw [if_pos g1, if_neg g1]; rfl)
      (fun f j s hj h1 h2 => by
        obtain ⟨s', d1, d2, d3⟩ := mday hw hr h.ma h.rm h2 h1
        refine ⟨s', d2, d3, ?_⟩
        have hm := h2.ma h.ma
        show F_Mo_gone_18B (F_Mo_gone_18 f) (nI σ) (nI j) s = _
        unfold F_Mo_gone_18B gof
        rw [if_neg (show ¬ (99 : Int32) ≤ nI j from nI_ge (b := 99) hj (by omega)), g1416, mo_so0 hw hm h1, sn_q1, mo_ofSide' hw hm (by omega), sn_q1, d1, sn_q2, h1.2.2.1, nI_1, an_c]
        by_cases g1 : sd A σ &&& Dk A R c j 0 = 0
        · rw [if_neg (sn_nn g1), if_pos g1]; rfl
        · rw [if_pos g1, if_neg g1]; rfl)
    refine ⟨.inl v, C', ?_, k2.csm, mq_v (M' := M') ?_ (by rw [k4 61 (by omega) (by omega) (by omega)]; exact h0) (k4.smM hs)⟩
    · simp (disch := omega) only [↓g_in, ↓g_c0, ↓g_c1, ↓reduceIte, ↓y_lt, ↓y_q1, ↓y_q2, ↓sn_q3, ↓sn_t1l, ↓sn_t1r, ↓sn_t2l, ↓sn_t2r, y_q1, y_q2, sn_q3, sn_t1l, sn_t1r, sn_t2l, sn_t2r, nI_clamp, x_leT, x_leF, x_ltT, x_ltF, x_eqT, x_eqF, x_le0T, x_le0F, x_0leT, x_lt0F, x_0ltT, x_0ltF, x_eq0T, x_eq0F, x_le1T, x_le1F, x_1leT, x_1leF, x_1ltT, x_1ltF, x_lt1T, x_lt1F, x_eq1T, x_eq1F, x_m1F, nI_add, nI_1, sn_mul, x_sub, x_sub1, sn_m1, l2, l3, l4, l5, l6, l7, l8, l9, l10, l11, l12, l13, l14, l15, l20, l30, l40, l48, l60, l64, l99, l100, l700, l999, not_true_eq_false, not_false_eq_true, x_t0, x_t1, lts1, x_10, x_1sub, eq_self, Nat.reduceSub, Nat.reduceAdd, Nat.reduceMul, ↓q1_of e1]
      exact k1
    · simp (disch := omega) only [↓g_in, ↓g_c0, ↓g_c1, ↓reduceIte, ↓y_lt, ↓y_q1, ↓y_q2, ↓sn_q3, ↓sn_t1l, ↓sn_t1r, ↓sn_t2l, ↓sn_t2r, y_q1, y_q2, sn_q3, sn_t1l, sn_t1r, sn_t2l, sn_t2r, nI_clamp, x_leT, x_leF, x_ltT, x_ltF, x_eqT, x_eqF, x_le0T, x_le0F, x_0leT, x_lt0F, x_0ltT, x_0ltF, x_eq0T, x_eq0F, x_le1T, x_le1F, x_1leT, x_1leF, x_1ltT, x_1ltF, x_lt1T, x_lt1F, x_eq1T, x_eq1F, x_m1F, nI_add, nI_1, sn_mul, x_sub, x_sub1, sn_m1, l2, l3, l4, l5, l6, l7, l8, l9, l10, l11, l12, l13, l14, l15, l20, l30, l40, l48, l60, l64, l99, l100, l700, l999, not_true_eq_false, not_false_eq_true, x_t0, x_t1, lts1, x_10, x_1sub, eq_self, Nat.reduceSub, Nat.reduceAdd, Nat.reduceMul, ↓q2_of (m_isW1 (y := 2) (n := 2) h0 hσ (by omega) rfl), ↓q1_of e5]
      exact k3
/-- what comes to be over so many days -/
def fas (A : sA) (R : Nat → List Nat) (c : Nat → Int32) : Nat → Nat
  | 0 => 0
  | k + 1 => fas A R c k + pc (fl A R (Dk A R c k))
def hes (A : sA) (R : Nat → List Nat) (σ : Nat) (c : Nat → Int32) : Nat → Nat
  | 0 => 0
  | k + 1 => hes A R σ c k + (if hf A R σ (Dk A R c k) then 1 else 0)
def cv1 : Int32 ⊕ Nat → Int32 ⊕ Int32
  | .inl v => .inl v
  | .inr _ => .inr 1
theorem q_falls (h : Rel A R t C M) (x : Int32) : ∃ r C', F_VM_falls t x C = some (r, C') ∧ csm t C C' ∧ mq (F_Mo_falls x M) M (cv1 r) := by
  obtain ⟨M1, hM1, h0, h, hs⟩ := h.start
  have hw := h.wa
  have hr := h.rw
  have ht := h.tt
  unfold F_VM_falls F_Mo_falls
  rw [hM1]
  rcases ix_or x (n := 100) (by omega) with hx | ⟨n, hn, rfl⟩
  · refine ⟨.inr 0, C, by rw [c_chD0 hx]; rfl, csm.refl, mq_t hs (v := 0) ?_⟩
    simp (disch := omega) only [↓g_in, ↓g_c0, ↓g_c1, ↓reduceIte, ↓y_lt, ↓y_q1, ↓y_q2, ↓sn_q3, ↓sn_t1l, ↓sn_t1r, ↓sn_t2l, ↓sn_t2r, y_q1, y_q2, sn_q3, sn_t1l, sn_t1r, sn_t2l, sn_t2r, nI_clamp, x_leT, x_leF, x_ltT, x_ltF, x_eqT, x_eqF, x_le0T, x_le0F, x_0leT, x_lt0F, x_0ltT, x_0ltF, x_eq0T, x_eq0F, x_le1T, x_le1F, x_1leT, x_1leF, x_1ltT, x_1ltF, x_lt1T, x_lt1F, x_eq1T, x_eq1F, x_m1F, nI_add, nI_1, sn_mul, x_sub, x_sub1, sn_m1, l2, l3, l4, l5, l6, l7, l8, l9, l10, l11, l12, l13, l14, l15, l20, l30, l40, l48, l60, l64, l99, l100, l700, l999, not_true_eq_false, not_false_eq_true, x_t0, x_t1, lts1, x_10, x_1sub, eq_self, Nat.reduceSub, Nat.reduceAdd, Nat.reduceMul, ↓q1_of (m_wi0 (y := 99) (n := 99) hx (by omega) rfl), ↓q2_of (m_rt0 (e := 1) h0 n10)]
  · obtain ⟨I1, c, e1, e2, -, e3, e4⟩ := c_trial h
    obtain ⟨J1, e5, e6, e7⟩ := m_trial h e4
    have cl := lp_R (fun f j (s : Nat × sm_MI) => F_VM_falls_13 t f (nI n) (nI s.1) j s.2) (fun k s => s.1 = fas A R c k ∧ s.2 20 = Dk A R c k ∧ cfr t C s.2) (fun b => b.1 = .inl (nI (fas A R c n)) ∧ cfr t C b.2) n (0, I1) ⟨rfl, e2, e3⟩ (by omega) ?_ ?_
    · have ml := lp_R (fun f j (s : Nat × sm_MI) => F_Mo_falls_23 f (nI n) (nI s.1) j s.2) (fun k s => s.1 = fas A R c k ∧ stR (A 0 0) (s.2 87) (Dk A R c k) ∧ mfr M1 s.2) (fun b => b.1 = nI (fas A R c n) ∧ mfr M1 b.2) n (0, J1) ⟨rfl, e6, e7⟩ (by omega) ?_ ?_
      · obtain ⟨⟨v1, C'⟩, k1, k2, k3⟩ := cl
        obtain ⟨⟨v2, M'⟩, k4, k5, k6⟩ := ml
        have k2 : v1 = .inl (nI (fas A R c n)) := k2
        have k5 : v2 = nI (fas A R c n) := k5
        subst k2
        subst k5
        have k6 : mfr M1 M' := k6
        have k1 : F_VM_falls_13 t sd_fu (nI n) 0 0 I1 = _ := k1
        have k4 : F_Mo_falls_23 sd_fu (nI n) 0 0 J1 = _ := k4
        refine ⟨.inl (nI (fas A R c n)), C', ?_, cfr.csm k3, mq_v (M' := M') ?_ (by rw [k6 61 (by omega) (by omega) (by omega)]; exact h0) (mfr.smM hs k6)⟩
        · simp (disch := omega) only [↓g_in, ↓g_c0, ↓g_c1, ↓reduceIte, ↓y_lt, ↓y_q1, ↓y_q2, ↓sn_q3, ↓sn_t1l, ↓sn_t1r, ↓sn_t2l, ↓sn_t2r, y_q1, y_q2, sn_q3, sn_t1l, sn_t1r, sn_t2l, sn_t2r, nI_clamp, x_leT, x_leF, x_ltT, x_ltF, x_eqT, x_eqF, x_le0T, x_le0F, x_0leT, x_lt0F, x_0ltT, x_0ltF, x_eq0T, x_eq0F, x_le1T, x_le1F, x_1leT, x_1leF, x_1ltT, x_1ltF, x_lt1T, x_lt1F, x_eq1T, x_eq1F, x_m1F, nI_add, nI_1, sn_mul, x_sub, x_sub1, sn_m1, l2, l3, l4, l5, l6, l7, l8, l9, l10, l11, l12, l13, l14, l15, l20, l30, l40, l48, l60, l64, l99, l100, l700, l999, not_true_eq_false, not_false_eq_true, x_t0, x_t1, lts1, x_10, x_1sub, eq_self, Nat.reduceSub, Nat.reduceAdd, Nat.reduceMul, ↓t1_of (c_chD1 hn), ↓q1_of e1]
          exact k1
        · simp (disch := omega) only [↓g_in, ↓g_c0, ↓g_c1, ↓reduceIte, ↓y_lt, ↓y_q1, ↓y_q2, ↓sn_q3, ↓sn_t1l, ↓sn_t1r, ↓sn_t2l, ↓sn_t2r, y_q1, y_q2, sn_q3, sn_t1l, sn_t1r, sn_t2l, sn_t2r, nI_clamp, x_leT, x_leF, x_ltT, x_ltF, x_eqT, x_eqF, x_le0T, x_le0F, x_0leT, x_lt0F, x_0ltT, x_0ltF, x_eq0T, x_eq0F, x_le1T, x_le1F, x_1leT, x_1leF, x_1ltT, x_1ltF, x_lt1T, x_lt1F, x_eq1T, x_eq1F, x_m1F, nI_add, nI_1, sn_mul, x_sub, x_sub1, sn_m1, l2, l3, l4, l5, l6, l7, l8, l9, l10, l11, l12, l13, l14, l15, l20, l30, l40, l48, l60, l64, l99, l100, l700, l999, not_true_eq_false, not_false_eq_true, x_t0, x_t1, lts1, x_10, x_1sub, eq_self, Nat.reduceSub, Nat.reduceAdd, Nat.reduceMul, ↓q1_of (m_wi1 (y := 99) (n := 99) hn (by omega) rfl), ↓q2_of (m_rt1 (x := 1) (e := 1) h0 n10), ↓q1_of e5]
          exact k4
      · rintro f ⟨z, s⟩ ⟨h1, h2, h3⟩
        refine ⟨(nI z, s), ?_, by show nI z = _; rw [show z = _ from h1], h3⟩
        show F_Mo_falls_23B (F_Mo_falls_23 f) (nI n) (nI z) (nI n) s = _
        unfold F_Mo_falls_23B
        rw [if_pos (Int32.le_refl _)]
      · rintro f j ⟨z, s⟩ hj ⟨h1, h2, h3⟩
        obtain ⟨s', d1, d2, d3⟩ := mday hw hr h.ma h.rm h3 h2
        left
        refine ⟨(z + pc (fl A R (Dk A R c j)), s'), ⟨by show z + _ = fas A R c j + _; rw [show z = _ from h1], d2, d3⟩, ?_⟩
        show F_Mo_falls_23B (F_Mo_falls_23 f) (nI n) (nI z) (nI j) s = _
        unfold F_Mo_falls_23B
        rw [if_neg (nI_ge hj (by omega)), d1, sn_q2, y_lt, nI_add, nI_1]
    · rintro f ⟨z, s⟩ ⟨h1, h2, h3⟩
      refine ⟨(.inl (nI z), s), ?_, by show Sum.inl (nI z) = _; rw [show z = _ from h1], h3⟩
      show F_VM_falls_13B t (F_VM_falls_13 t f) (nI n) (nI z) (nI n) s = _
      unfold F_VM_falls_13B
      rw [if_pos (Int32.le_refl _)]
    · rintro f j ⟨z, s⟩ hj ⟨h1, h2, h3⟩
      obtain ⟨s', d1, d2, d3⟩ := cday hw hr ht h.ca h.rc h3 h2
      left
      refine ⟨(z + pc (fl A R (Dk A R c j)), s'), ⟨by show z + _ = fas A R c j + _; rw [show z = _ from h1], d2, d3⟩, ?_⟩
      show F_VM_falls_13B t (F_VM_falls_13 t f) (nI n) (nI z) (nI j) s = _
      unfold F_VM_falls_13B
      rw [if_neg (nI_ge hj (by omega)), d1, sn_q2, int_bc (lo14_fl hw), sn_q1, y_lt, nI_add, nI_1]
theorem q_held (h : Rel A R t C M) (x y : Int32) : ∃ r C', F_VM_held t x y C = some (r, C') ∧ csm t C C' ∧ mq (F_Mo_held x y M) M (cv r) := by
  obtain ⟨M1, hM1, h0, h, hs⟩ := h.start
  have hw := h.wa
  have hr := h.rw
  have ht := h.tt
  unfold F_VM_held F_Mo_held
  rw [hM1]
  rcases ix_or x (n := 2) (by omega) with hx | ⟨σ, hσ, rfl⟩
  · refine ⟨.inr 1, C, by rw [c_chW0 hx]; rfl, csm.refl, mq_t hs (v := 0) ?_⟩
    simp (disch := omega) only [↓g_in, ↓g_c0, ↓g_c1, ↓reduceIte, ↓y_lt, ↓y_q1, ↓y_q2, ↓sn_q3, ↓sn_t1l, ↓sn_t1r, ↓sn_t2l, ↓sn_t2r, y_q1, y_q2, sn_q3, sn_t1l, sn_t1r, sn_t2l, sn_t2r, nI_clamp, x_leT, x_leF, x_ltT, x_ltF, x_eqT, x_eqF, x_le0T, x_le0F, x_0leT, x_lt0F, x_0ltT, x_0ltF, x_eq0T, x_eq0F, x_le1T, x_le1F, x_1leT, x_1leF, x_1ltT, x_1ltF, x_lt1T, x_lt1F, x_eq1T, x_eq1F, x_m1F, nI_add, nI_1, sn_mul, x_sub, x_sub1, sn_m1, l2, l3, l4, l5, l6, l7, l8, l9, l10, l11, l12, l13, l14, l15, l20, l30, l40, l48, l60, l64, l99, l100, l700, l999, not_true_eq_false, not_false_eq_true, x_t0, x_t1, lts1, x_10, x_1sub, eq_self, Nat.reduceSub, Nat.reduceAdd, Nat.reduceMul, ↓q2_of (m_isW0 (y := 1) (n := 1) h0 hx (by omega) rfl)]
  · have hw2 := m_isW1 (M := M1) (s := σ) (y := 1) (n := 1) h0 hσ (by omega) rfl
    rcases ix_or y (n := 100) (by omega) with hy | ⟨n, hn, rfl⟩
    · refine ⟨.inr 0, C, ?_, csm.refl, mq_t hs (v := 0) ?_⟩
      · simp (disch := omega) only [↓g_in, ↓g_c0, ↓g_c1, ↓reduceIte, ↓y_lt, ↓y_q1, ↓y_q2, ↓sn_q3, ↓sn_t1l, ↓sn_t1r, ↓sn_t2l, ↓sn_t2r, y_q1, y_q2, sn_q3, sn_t1l, sn_t1r, sn_t2l, sn_t2r, nI_clamp, x_leT, x_leF, x_ltT, x_ltF, x_eqT, x_eqF, x_le0T, x_le0F, x_0leT, x_lt0F, x_0ltT, x_0ltF, x_eq0T, x_eq0F, x_le1T, x_le1F, x_1leT, x_1leF, x_1ltT, x_1ltF, x_lt1T, x_lt1F, x_eq1T, x_eq1F, x_m1F, nI_add, nI_1, sn_mul, x_sub, x_sub1, sn_m1, l2, l3, l4, l5, l6, l7, l8, l9, l10, l11, l12, l13, l14, l15, l20, l30, l40, l48, l60, l64, l99, l100, l700, l999, not_true_eq_false, not_false_eq_true, x_t0, x_t1, lts1, x_10, x_1sub, eq_self, Nat.reduceSub, Nat.reduceAdd, Nat.reduceMul, ↓t1_of (c_chW1 hσ), ↓t1_er (c_chD0 hy)]
      · simp (disch := omega) only [↓g_in, ↓g_c0, ↓g_c1, ↓reduceIte, ↓y_lt, ↓y_q1, ↓y_q2, ↓sn_q3, ↓sn_t1l, ↓sn_t1r, ↓sn_t2l, ↓sn_t2r, y_q1, y_q2, sn_q3, sn_t1l, sn_t1r, sn_t2l, sn_t2r, nI_clamp, x_leT, x_leF, x_ltT, x_ltF, x_eqT, x_eqF, x_le0T, x_le0F, x_0leT, x_lt0F, x_0ltT, x_0ltF, x_eq0T, x_eq0F, x_le1T, x_le1F, x_1leT, x_1leF, x_1ltT, x_1ltF, x_lt1T, x_lt1F, x_eq1T, x_eq1F, x_m1F, nI_add, nI_1, sn_mul, x_sub, x_sub1, sn_m1, l2, l3, l4, l5, l6, l7, l8, l9, l10, l11, l12, l13, l14, l15, l20, l30, l40, l48, l60, l64, l99, l100, l700, l999, not_true_eq_false, not_false_eq_true, x_t0, x_t1, lts1, x_10, x_1sub, eq_self, Nat.reduceSub, Nat.reduceAdd, Nat.reduceMul, ↓q2_of hw2, ↓q1_of (m_wi0 (y := 99) (n := 99) hy (by omega) rfl), ↓q2_of (m_rt0 (e := 2) h0 (by decide))]
    · obtain ⟨I1, c, e1, e2, -, e3, e4⟩ := c_trial h
      obtain ⟨J1, e5, e6, e7⟩ := m_trial h e4
      have cl := lp_R (fun f j (s : Nat × sm_MI) => F_VM_held_16 t f (nI σ) (nI n) (nI s.1) j s.2) (fun k s => s.1 = hes A R σ c k ∧ s.2 20 = Dk A R c k ∧ cfr t C s.2) (fun b => b.1 = .inl (nI (hes A R σ c n)) ∧ cfr t C b.2) n (0, I1) ⟨rfl, e2, e3⟩ (by omega) ?_ ?_
      · have ml := lp_R (fun f j (s : Nat × sm_MI) => F_Mo_held_28 f (nI σ) (nI n) (nI s.1) j s.2) (fun k s => s.1 = hes A R σ c k ∧ stR (A 0 0) (s.2 87) (Dk A R c k) ∧ mfr M1 s.2) (fun b => b.1 = nI (hes A R σ c n) ∧ mfr M1 b.2) n (0, J1) ⟨rfl, e6, e7⟩ (by omega) ?_ ?_
        · obtain ⟨⟨v1, C'⟩, k1, k2, k3⟩ := cl
          obtain ⟨⟨v2, M'⟩, k4, k5, k6⟩ := ml
          have k2 : v1 = .inl (nI (hes A R σ c n)) := k2
          have k5 : v2 = nI (hes A R σ c n) := k5
          subst k2
          subst k5
          have k6 : mfr M1 M' := k6
          have k1 : F_VM_held_16 t sd_fu (nI σ) (nI n) 0 0 I1 = _ := k1
          have k4 : F_Mo_held_28 sd_fu (nI σ) (nI n) 0 0 J1 = _ := k4
          refine ⟨.inl (nI (hes A R σ c n)), C', ?_, cfr.csm k3, mq_v (M' := M') ?_ (by rw [k6 61 (by omega) (by omega) (by omega)]; exact h0) (mfr.smM hs k6)⟩
          · simp (disch := omega) only [↓g_in, ↓g_c0, ↓g_c1, ↓reduceIte, ↓y_lt, ↓y_q1, ↓y_q2, ↓sn_q3, ↓sn_t1l, ↓sn_t1r, ↓sn_t2l, ↓sn_t2r, y_q1, y_q2, sn_q3, sn_t1l, sn_t1r, sn_t2l, sn_t2r, nI_clamp, x_leT, x_leF, x_ltT, x_ltF, x_eqT, x_eqF, x_le0T, x_le0F, x_0leT, x_lt0F, x_0ltT, x_0ltF, x_eq0T, x_eq0F, x_le1T, x_le1F, x_1leT, x_1leF, x_1ltT, x_1ltF, x_lt1T, x_lt1F, x_eq1T, x_eq1F, x_m1F, nI_add, nI_1, sn_mul, x_sub, x_sub1, sn_m1, l2, l3, l4, l5, l6, l7, l8, l9, l10, l11, l12, l13, l14, l15, l20, l30, l40, l48, l60, l64, l99, l100, l700, l999, not_true_eq_false, not_false_eq_true, x_t0, x_t1, lts1, x_10, x_1sub, eq_self, Nat.reduceSub, Nat.reduceAdd, Nat.reduceMul, ↓t1_of (c_chW1 hσ), ↓t1_of (c_chD1 hn), ↓q1_of e1]
            exact k1
          · simp (disch := omega) only [↓g_in, ↓g_c0, ↓g_c1, ↓reduceIte, ↓y_lt, ↓y_q1, ↓y_q2, ↓sn_q3, ↓sn_t1l, ↓sn_t1r, ↓sn_t2l, ↓sn_t2r, y_q1, y_q2, sn_q3, sn_t1l, sn_t1r, sn_t2l, sn_t2r, nI_clamp, x_leT, x_leF, x_ltT, x_ltF, x_eqT, x_eqF, x_le0T, x_le0F, x_0leT, x_lt0F, x_0ltT, x_0ltF, x_eq0T, x_eq0F, x_le1T, x_le1F, x_1leT, x_1leF, x_1ltT, x_1ltF, x_lt1T, x_lt1F, x_eq1T, x_eq1F, x_m1F, nI_add, nI_1, sn_mul, x_sub, x_sub1, sn_m1, l2, l3, l4, l5, l6, l7, l8, l9, l10, l11, l12, l13, l14, l15, l20, l30, l40, l48, l60, l64, l99, l100, l700, l999, not_true_eq_false, not_false_eq_true, x_t0, x_t1, lts1, x_10, x_1sub, eq_self, Nat.reduceSub, Nat.reduceAdd, Nat.reduceMul, ↓q2_of hw2, ↓q1_of (m_wi1 (y := 99) (n := 99) hn (by omega) rfl), ↓q2_of (m_rt1 (x := 1) (e := 2) h0 n10), ↓q1_of e5]
            exact k4
        · rintro f ⟨z, s⟩ ⟨h1, h2, h3⟩
          refine ⟨(nI z, s), ?_, by show nI z = _; rw [show z = _ from h1], h3⟩
          show F_Mo_held_28B (F_Mo_held_28 f) (nI σ) (nI n) (nI z) (nI n) s = _
          unfold F_Mo_held_28B
          rw [if_pos (Int32.le_refl _)]
        · rintro f j ⟨z, s⟩ hj ⟨h1, h2, h3⟩
          obtain ⟨s2, d4, d5, d6⟩ := mhol hw hr h.ma h.rm hσ h3 h2
          obtain ⟨s', d1, d2, d3⟩ := mday hw hr h.ma h.rm d6 d5
          left
          refine ⟨(z + (if hf A R σ (Dk A R c j) then 1 else 0), s'), ⟨by show z + _ = hes A R σ c j + _; rw [show z = _ from h1], d2, d3⟩, ?_⟩
          show F_Mo_held_28B (F_Mo_held_28 f) (nI σ) (nI n) (nI z) (nI j) s = _
          unfold F_Mo_held_28B F_Mo_held_41
          rw [if_neg (nI_ge hj (by omega)), d4, sn_q2]
          cases hf A R σ (Dk A R c j)
          · simp (disch := omega) only [↓g_in, ↓g_c0, ↓g_c1, ↓reduceIte, ↓y_lt, ↓y_q1, ↓y_q2, ↓sn_q3, ↓sn_t1l, ↓sn_t1r, ↓sn_t2l, ↓sn_t2r, y_q1, y_q2, sn_q3, sn_t1l, sn_t1r, sn_t2l, sn_t2r, nI_clamp, x_leT, x_leF, x_ltT, x_ltF, x_eqT, x_eqF, x_le0T, x_le0F, x_0leT, x_lt0F, x_0ltT, x_0ltF, x_eq0T, x_eq0F, x_le1T, x_le1F, x_1leT, x_1leF, x_1ltT, x_1ltF, x_lt1T, x_lt1F, x_eq1T, x_eq1F, x_m1F, nI_add, nI_1, sn_mul, x_sub, x_sub1, sn_m1, l2, l3, l4, l5, l6, l7, l8, l9, l10, l11, l12, l13, l14, l15, l20, l30, l40, l48, l60, l64, l99, l100, l700, l999, not_true_eq_false, not_false_eq_true, x_t0, x_t1, lts1, x_10, x_1sub, eq_self, Nat.reduceSub, Nat.reduceAdd, Nat.reduceMul, Bool.false_eq_true, Int32.add_zero, ↓q2_of d1, Nat.add_zero]
          · simp (disch := omega) only [↓g_in, ↓g_c0, ↓g_c1, ↓reduceIte, ↓y_lt, ↓y_q1, ↓y_q2, ↓sn_q3, ↓sn_t1l, ↓sn_t1r, ↓sn_t2l, ↓sn_t2r, y_q1, y_q2, sn_q3, sn_t1l, sn_t1r, sn_t2l, sn_t2r, nI_clamp, x_leT, x_leF, x_ltT, x_ltF, x_eqT, x_eqF, x_le0T, x_le0F, x_0leT, x_lt0F, x_0ltT, x_0ltF, x_eq0T, x_eq0F, x_le1T, x_le1F, x_1leT, x_1leF, x_1ltT, x_1ltF, x_lt1T, x_lt1F, x_eq1T, x_eq1F, x_m1F, nI_add, nI_1, sn_mul, x_sub, x_sub1, sn_m1, l2, l3, l4, l5, l6, l7, l8, l9, l10, l11, l12, l13, l14, l15, l20, l30, l40, l48, l60, l64, l99, l100, l700, l999, not_true_eq_false, not_false_eq_true, x_t0, x_t1, lts1, x_10, x_1sub, eq_self, Nat.reduceSub, Nat.reduceAdd, Nat.reduceMul, ↓q2_of d1]
      · rintro f ⟨z, s⟩ ⟨h1, h2, h3⟩
        refine ⟨(.inl (nI z), s), ?_, by show Sum.inl (nI z) = _; rw [show z = _ from h1], h3⟩
        show F_VM_held_16B t (F_VM_held_16 t f) (nI σ) (nI n) (nI z) (nI n) s = _
        unfold F_VM_held_16B
        rw [if_pos (Int32.le_refl _)]
      · rintro f j ⟨z, s⟩ hj ⟨h1, h2, h3⟩
        obtain ⟨s2, d4, d5, d6⟩ := chol hw hr ht h.ca h.rc hσ h3 h2
        obtain ⟨s', d1, d2, d3⟩ := cday hw hr ht h.ca h.rc d6 d5
        left
        refine ⟨(z + (if hf A R σ (Dk A R c j) then 1 else 0), s'), ⟨by show z + _ = hes A R σ c j + _; rw [show z = _ from h1], d2, d3⟩, ?_⟩
        show F_VM_held_16B t (F_VM_held_16 t f) (nI σ) (nI n) (nI z) (nI j) s = _
        unfold F_VM_held_16B F_VM_held_27
        rw [if_neg (nI_ge hj (by omega)), d4, sn_q2]
        cases hf A R σ (Dk A R c j)
        · simp (disch := omega) only [↓g_in, ↓g_c0, ↓g_c1, ↓reduceIte, ↓y_lt, ↓y_q1, ↓y_q2, ↓sn_q3, ↓sn_t1l, ↓sn_t1r, ↓sn_t2l, ↓sn_t2r, y_q1, y_q2, sn_q3, sn_t1l, sn_t1r, sn_t2l, sn_t2r, nI_clamp, x_leT, x_leF, x_ltT, x_ltF, x_eqT, x_eqF, x_le0T, x_le0F, x_0leT, x_lt0F, x_0ltT, x_0ltF, x_eq0T, x_eq0F, x_le1T, x_le1F, x_1leT, x_1leF, x_1ltT, x_1ltF, x_lt1T, x_lt1F, x_eq1T, x_eq1F, x_m1F, nI_add, nI_1, sn_mul, x_sub, x_sub1, sn_m1, l2, l3, l4, l5, l6, l7, l8, l9, l10, l11, l12, l13, l14, l15, l20, l30, l40, l48, l60, l64, l99, l100, l700, l999, not_true_eq_false, not_false_eq_true, x_t0, x_t1, lts1, x_10, x_1sub, eq_self, Nat.reduceSub, Nat.reduceAdd, Nat.reduceMul, Bool.false_eq_true, ↓q2_of d1, Nat.add_zero]
        · simp (disch := omega) only [↓g_in, ↓g_c0, ↓g_c1, ↓reduceIte, ↓y_lt, ↓y_q1, ↓y_q2, ↓sn_q3, ↓sn_t1l, ↓sn_t1r, ↓sn_t2l, ↓sn_t2r, y_q1, y_q2, sn_q3, sn_t1l, sn_t1r, sn_t2l, sn_t2r, nI_clamp, x_leT, x_leF, x_ltT, x_ltF, x_eqT, x_eqF, x_le0T, x_le0F, x_0leT, x_lt0F, x_0ltT, x_0ltF, x_eq0T, x_eq0F, x_le1T, x_le1F, x_1leT, x_1leF, x_1ltT, x_1ltF, x_lt1T, x_lt1F, x_eq1T, x_eq1F, x_m1F, nI_add, nI_1, sn_mul, x_sub, x_sub1, sn_m1, l2, l3, l4, l5, l6, l7, l8, l9, l10, l11, l12, l13, l14, l15, l20, l30, l40, l48, l60, l64, l99, l100, l700, l999, not_true_eq_false, not_false_eq_true, x_t0, x_t1, lts1, x_10, x_1sub, eq_self, Nat.reduceSub, Nat.reduceAdd, Nat.reduceMul, ↓q2_of d1]
end QU
