/-! ===== days, what is heard, the image, the tape ===== -/
theorem sdn88 : sd_n 88 = 640 := by decide +kernel
theorem sdn91 : sd_n 91 = 24 := by decide +kernel
theorem sdn93 : sd_n 93 = 16 := by decide +kernel
theorem sdn94 : sd_n 94 = 640 := by decide +kernel
theorem sdn95 : sd_n 95 = 24 := by decide +kernel
section AC
variable {A : sA} {R : Nat → List Nat} {t : Nat} {C M C' M' : sm_MI}
theorem x_days (h : Rel A R t C M) (x : Int32) : ans A R t C M (F_VM_days t x C) (F_Mo_days x M) (fun v => .inl v) := by
  obtain ⟨M1, hM1, h0, h, hs⟩ := h.start
  have hw := h.wa
  have hn := hw.1
  have ht := h.tt
  have hr := h.rw
  have hrf := ref_m (M := M1) h0 (q := 1) (by omega)
  have hrf : F_Mo_refuses 1 M1 = some (-1, sd_up M1 73 1 (M1 73 1 + 1)) := hrf
  have m16 : F_Mo_days_16 M1 = some (-1, sd_up M1 73 1 (M1 73 1 + 1)) := by
    unfold F_Mo_days_16
    rw [hrf, sn_q2]
  have c14 : F_VM_days_14 t C = some (-1, sd_up C 1 1 (C 1 1 + 1)) := by
    unfold F_VM_days_14
    rw [sn_gu (by decide), sn_gu (by decide), y_lt]
  have rej : ∀ {o : Option (Int32 × sm_MI)} {m : Option (Int32 × sm_MI)}, o = some (-1, sd_up C 1 1 (C 1 1 + 1)) → m = some (-1, sd_up M1 73 1 (M1 73 1 + 1)) → ans A R t C M o m (fun v => .inl v) := fun ho hm =>
    ans_v (r := -1) ho hm (h.ref (q := 1) (by omega)) (fun k hk => up_n (by omega)) (fun k hk => by rw [up_n (by omega), hs.2.2 k hk]) rfl (by rw [up_n (by omega)]; exact h0)
  unfold F_VM_days F_Mo_days
  rw [hM1, y_lt, mo_within, sn_q1]
  by_cases g1 : x < 1
  · refine rej (by rw [if_pos g1, c14]) ?_
    rw [if_neg (show ¬ ((1 : Int32) ≤ x ∧ x ≤ 30) from fun z => Int32.not_le.mpr g1 z.1), if_pos rfl, m16]
  · by_cases g2 : 30 < x
    · refine rej (by rw [if_neg g1, if_pos g2, c14]) ?_
      rw [if_neg (show ¬ ((1 : Int32) ≤ x ∧ x ≤ 30) from fun z => Int32.not_le.mpr g2 z.2), if_pos rfl, m16]
    · rw [if_neg g1, if_neg g2, if_pos (show (1 : Int32) ≤ x ∧ x ≤ 30 from ⟨Int32.not_lt.mp g1, Int32.not_lt.mp g2⟩), if_neg n10, g1416, h.st.2.2.1]
      by_cases g3 : C 9 3 + x ≤ 999
      · rw [if_pos g3, if_pos g3]
        obtain ⟨n, n1, n2⟩ : ∃ n, n ≤ 30 ∧ x = nI n := nI_of2 (M := 30) (n := 30) (by decide) (fun z => g1 (by
          rw [Int32.lt_iff_toInt_lt] at z ⊢
          have e0 : (0 : Int32).toInt = 0 := rfl
          have e1 : (1 : Int32).toInt = 1 := by decide
          omega)) (Int32.not_lt.mp g2)
        subst n2
        obtain ⟨C2, M2, k1, k2, k3, k4, k5, k6, k7⟩ := keep hn h.st h.ah
        rw [k1, sn_q1, k2, sn_q1]
        have cl := lp_R (fun f j I => F_VM_days_29 t f (nI n) j I) (fun k I => I 9 = Dk A R (C 9) k ∧ ∀ q, q ≠ 9 → q ≠ t + 18 → q ≠ t + 19 → I q = C2 q) (fun b => b.1 = Dk A R (C 9) n 3 ∧ b.2 9 = Dk A R (C 9) n ∧ ∀ q, q ≠ 9 → q ≠ t + 18 → q ≠ t + 19 → b.2 q = C2 q) n C2 ⟨k5 9 (by omega) (by omega), fun _ _ _ _ => rfl⟩ (by omega) ?_ ?_
        · have ml := lp_R (fun f j I => F_Mo_days_24 f (nI n) j I) (fun k I => stR (A 0 0) (I 86) (Dk A R (C 9) k) ∧ ∀ q, q ≠ 86 → q ≠ 89 → q ≠ 90 → I q = M2 q) (fun b => b.1 = Dk A R (C 9) n 3 ∧ stR (A 0 0) (b.2 86) (Dk A R (C 9) n) ∧ ∀ q, q ≠ 86 → q ≠ 89 → q ≠ 90 → b.2 q = M2 q) n M2 ⟨by rw [k7 86 (by omega) (by omega)]; exact h.st, fun _ _ _ _ => rfl⟩ (by omega) ?_ ?_
          · obtain ⟨⟨v1, C3⟩, p1, p2, p3, p4⟩ := cl
            obtain ⟨⟨v2, M3⟩, p5, p6, p7, p8⟩ := ml
            have p2 : v1 = Dk A R (C 9) n 3 := p2
            have p3 : C3 9 = Dk A R (C 9) n := p3
            have p4 : ∀ q, q ≠ 9 → q ≠ t + 18 → q ≠ t + 19 → C3 q = C2 q := p4
            have p6 : v2 = Dk A R (C 9) n 3 := p6
            have p7 : stR (A 0 0) (M3 86) (Dk A R (C 9) n) := p7
            have p8 : ∀ q, q ≠ 86 → q ≠ 89 → q ≠ 90 → M3 q = M2 q := p8
            refine ans_v (r := v1) (v := v2) p1 p5 (h.now k3 k4 k5 k6 k7 p4 p8 (by rw [p3]; exact p7)) (fun k hk => by rw [p4 k (by omega) (by omega) (by omega), k5 k (by omega) (by omega)]) (fun k hk => by rw [p8 k (by omega) (by omega) (by omega), k7 k (by omega) (by omega), hs.2.2 k hk]) (by rw [p2, p6]) (by rw [p8 61 (by omega) (by omega) (by omega), k6 0 (by omega)]; exact h0)
          · intro f I hI
            refine ⟨(Dk A R (C 9) n 3, I), ?_, rfl, hI⟩
            show F_Mo_days_24B (F_Mo_days_24 f) (nI n) (nI n) I = _
            unfold F_Mo_days_24B
            rw [if_pos (Int32.le_refl _), g1416, hI.1.2.2.1]
          · intro f j I hj hI
            left
            have hm : mA A I := mA_of h.ma (by rw [hI.2 61 (by omega) (by omega) (by omega), k6 1 (by omega)]) (by rw [hI.2 61 (by omega) (by omega) (by omega), k6 2 (by omega)]) (by rw [hI.2 61 (by omega) (by omega) (by omega), k6 3 (by omega)]) (fun k a b => by rw [hI.2 k (by omega) (by omega) (by omega), k7 k (by omega) (by omega)])
            have hM : rM R I := by
              unfold rM
              rw [hI.2 70 (by omega) (by omega) (by omega), hI.2 71 (by omega) (by omega) (by omega), k7 70 (by omega) (by omega), k7 71 (by omega) (by omega)]
              exact h.rm
            obtain ⟨I', d1, d2, d3⟩ := m_day (p := 86) hw hr hm hM hI.1 (by omega) (by omega)
            refine ⟨I', ⟨d2, fun q a b c => by rw [d3 q b c a, hI.2 q a b c]⟩, ?_⟩
            show F_Mo_days_24B (F_Mo_days_24 f) (nI n) (nI j) I = _
            unfold F_Mo_days_24B
            rw [if_neg (nI_ge hj (by omega)), d1, sn_q2, nI_1]
        · intro f I hI
          refine ⟨(Dk A R (C 9) n 3, I), ?_, rfl, hI⟩
          show F_VM_days_29B t (F_VM_days_29 t f) (nI n) (nI n) I = _
          unfold F_VM_days_29B
          rw [if_pos (Int32.le_refl _), hI.1]
        · intro f j I hj hI
          left
          have hc : cA A t I := cA_same h.ca (fun k hk => by rw [hI.2 _ (by omega) (by omega) (by omega), k5 _ (by omega) (by omega)])
          have hR : rC R (t + 14) I := by
            unfold rC
            rw [hI.2 _ (by omega) (by omega) (by omega), hI.2 _ (by omega) (by omega) (by omega), hI.2 _ (by omega) (by omega) (by omega), k5 _ (by omega) (by omega), k5 _ (by omega) (by omega), k5 _ (by omega) (by omega)]
            exact h.rc
          obtain ⟨I', d1, d2, d3⟩ := c_passDay (q := 9) hw hr hc hR (by omega)
          refine ⟨I', ⟨by rw [d2, hI.1]; rfl, fun q a b c => by rw [d3 q b c a, hI.2 q a b c]⟩, ?_⟩
          show F_VM_days_29B t (F_VM_days_29 t f) (nI n) (nI j) I = _
          unfold F_VM_days_29B
          rw [if_neg (nI_ge hj (by omega)), d1, sn_q2, nI_1]
      · refine rej (by rw [if_neg g3, c14]) (by rw [if_neg g3, m16])
theorem x_hear (h : Rel A R t C M) (x y z w : Int32) : ans A R t C M (F_VM_hear t x y z w C) (F_Mo_hear x y z w M) cv := by
  obtain ⟨M1, hM1, h0, h, hs⟩ := h.start
  have hw := h.wa
  have h5 := hw.2.1
  have ht := h.tt
  have hrf := ref_m (M := M1) h0 (q := 2) (by omega)
  have hrf : F_Mo_refuses 2 M1 = some (-1, sd_up M1 73 2 (M1 73 2 + 1)) := hrf
  have m36 : F_Mo_hear_36 M1 = some (-1, sd_up M1 73 2 (M1 73 2 + 1)) := by
    unfold F_Mo_hear_36
    rw [hrf, sn_q2]
  have c35 : F_VM_hear_35 t C = some (.inl (-1), sd_up C 1 2 (C 1 2 + 1)) := by
    unfold F_VM_hear_35
    rw [sn_gu (by decide), sn_gu (by decide), y_lt]
  have rej : ∀ {o : Option ((Int32 ⊕ Nat) × sm_MI)} {m : Option (Int32 × sm_MI)}, o = some (.inl (-1), sd_up C 1 2 (C 1 2 + 1)) → m = some (-1, sd_up M1 73 2 (M1 73 2 + 1)) → ans A R t C M o m cv := fun ho hm =>
    ans_v (r := .inl (-1)) ho hm (h.ref (q := 2) (by omega)) (fun k hk => up_n (by omega)) (fun k hk => by rw [up_n (by omega), hs.2.2 k hk]) rfl (by rw [up_n (by omega)]; exact h0)
  obtain ⟨u, u1, u2, u3, u4⟩ := h.he
  unfold F_VM_hear F_Mo_hear
  rw [hM1]
  rcases ix_or x (n := A 0 1) (by omega) with hx | ⟨p, hp, rfl⟩
  · refine ans_e (r := .inr 1) (C' := C) (v := 0) (e := 1) (by rw [c_chR0 hw h.ca hx]; rfl) (by simp (disch := omega) only [↓g_in, ↓g_c0, ↓g_c1, ↓reduceIte, ↓y_lt, ↓y_q1, ↓y_q2, ↓sn_q3, ↓sn_t1l, ↓sn_t1r, ↓sn_t2l, ↓sn_t2r, y_q1, y_q2, sn_q3, sn_t1l, sn_t1r, sn_t2l, sn_t2r, nI_clamp, x_leT, x_leF, x_ltT, x_ltF, x_eqT, x_eqF, x_le0T, x_le0F, x_0leT, x_lt0F, x_0ltT, x_0ltF, x_eq0T, x_eq0F, x_le1T, x_le1F, x_1leT, x_1leF, x_1ltT, x_1ltF, x_lt1T, x_lt1F, x_eq1T, x_eq1F, x_m1F, nI_add, nI_1, sn_mul, x_sub, x_sub1, sn_m1, l2, l3, l4, l5, l6, l7, l8, l9, l10, l11, l12, l13, l14, l15, l20, l30, l40, l48, l60, l64, l99, l100, l700, l999, not_true_eq_false, not_false_eq_true, x_t0, x_t1, lts1, x_10, x_1sub, eq_self, Nat.reduceSub, Nat.reduceAdd, Nat.reduceMul, ↓q2_of (m_isP0 hw h.ma h0 hx)]) (h.onM (smM.up (by omega) smM.refl)) (fun _ _ => rfl) (fun k hk => by rw [up_n (by omega), hs.2.2 k hk]) rfl up_s
  · rcases ix_or y (n := 4) (by omega) with hy | ⟨q, hq, rfl⟩
    · refine ans_e (r := .inr 1) (C' := C) (v := 0) (e := 1) (by rw [c_chR2 hw h.ca hp hy]; rfl) (by simp (disch := omega) only [↓g_in, ↓g_c0, ↓g_c1, ↓reduceIte, ↓y_lt, ↓y_q1, ↓y_q2, ↓sn_q3, ↓sn_t1l, ↓sn_t1r, ↓sn_t2l, ↓sn_t2r, y_q1, y_q2, sn_q3, sn_t1l, sn_t1r, sn_t2l, sn_t2r, nI_clamp, x_leT, x_leF, x_ltT, x_ltF, x_eqT, x_eqF, x_le0T, x_le0F, x_0leT, x_lt0F, x_0ltT, x_0ltF, x_eq0T, x_eq0F, x_le1T, x_le1F, x_1leT, x_1leF, x_1ltT, x_1ltF, x_lt1T, x_lt1F, x_eq1T, x_eq1F, x_m1F, nI_add, nI_1, sn_mul, x_sub, x_sub1, sn_m1, l2, l3, l4, l5, l6, l7, l8, l9, l10, l11, l12, l13, l14, l15, l20, l30, l40, l48, l60, l64, l99, l100, l700, l999, not_true_eq_false, not_false_eq_true, x_t0, x_t1, lts1, x_10, x_1sub, eq_self, Nat.reduceSub, Nat.reduceAdd, Nat.reduceMul, ↓q2_of (m_isP1 hw h.ma h0 hp), ↓q2_of (m_isW0 (y := 3) (n := 3) h0 hy (by omega) rfl)]) (h.onM (smM.up (by omega) smM.refl)) (fun _ _ => rfl) (fun k hk => by rw [up_n (by omega), hs.2.2 k hk]) rfl up_s
    · have hw3 := m_isW1 (M := M1) (s := q) (y := 3) (n := 3) h0 hq (by omega) rfl
      have hr : 4 * p + q < 20 := by omega
      have h12 := A7_le hw hr
      have hno := m_notesOf (r := 4 * p + q) hw h.ma hr
      obtain ⟨-, d2, d3, -⟩ := h.ca.2.2.2.2.1 (4 * p + q) hr
      by_cases hu8 : u = 8
      · subst hu8
        refine rej ?_ ?_
        · unfold F_VM_hear_22
          rcases ix_or z (n := A 7 (4 * p + q)) (by omega) with hz | ⟨i, hi, rfl⟩
          · rcases hz with hz | hz
            · simp (disch := omega) only [↓g_in, ↓g_c0, ↓g_c1, ↓reduceIte, ↓y_lt, ↓y_q1, ↓y_q2, ↓sn_q3, ↓sn_t1l, ↓sn_t1r, ↓sn_t2l, ↓sn_t2r, y_q1, y_q2, sn_q3, sn_t1l, sn_t1r, sn_t2l, sn_t2r, nI_clamp, x_leT, x_leF, x_ltT, x_ltF, x_eqT, x_eqF, x_le0T, x_le0F, x_0leT, x_lt0F, x_0ltT, x_0ltF, x_eq0T, x_eq0F, x_le1T, x_le1F, x_1leT, x_1leF, x_1ltT, x_1ltF, x_lt1T, x_lt1F, x_eq1T, x_eq1F, x_m1F, nI_add, nI_1, sn_mul, x_sub, x_sub1, sn_m1, l2, l3, l4, l5, l6, l7, l8, l9, l10, l11, l12, l13, l14, l15, l20, l30, l40, l48, l60, l64, l99, l100, l700, l999, not_true_eq_false, not_false_eq_true, x_t0, x_t1, lts1, x_10, x_1sub, eq_self, Nat.reduceSub, Nat.reduceAdd, Nat.reduceMul, ↓t1_of (c_chR1 hw h.ca hp hq), hz, u2, c35]
            · have e1 := ix_lt hz (by omega)
              have e2 : ¬ z < nI (A 7 (4 * p + q)) := Int32.not_lt.mpr hz
              simp (disch := omega) only [↓g_in, ↓g_c0, ↓g_c1, ↓reduceIte, ↓y_lt, ↓y_q1, ↓y_q2, ↓sn_q3, ↓sn_t1l, ↓sn_t1r, ↓sn_t2l, ↓sn_t2r, y_q1, y_q2, sn_q3, sn_t1l, sn_t1r, sn_t2l, sn_t2r, nI_clamp, x_leT, x_leF, x_ltT, x_ltF, x_eqT, x_eqF, x_le0T, x_le0F, x_0leT, x_lt0F, x_0ltT, x_0ltF, x_eq0T, x_eq0F, x_le1T, x_le1F, x_1leT, x_1leF, x_1ltT, x_1ltF, x_lt1T, x_lt1F, x_eq1T, x_eq1F, x_m1F, nI_add, nI_1, sn_mul, x_sub, x_sub1, sn_m1, l2, l3, l4, l5, l6, l7, l8, l9, l10, l11, l12, l13, l14, l15, l20, l30, l40, l48, l60, l64, l99, l100, l700, l999, not_true_eq_false, not_false_eq_true, x_t0, x_t1, lts1, x_10, x_1sub, eq_self, Nat.reduceSub, Nat.reduceAdd, Nat.reduceMul, ↓t1_of (c_chR1 hw h.ca hp hq), e1, Nat.mul_comm p 4, d2, e2, u2, c35]
          · simp (disch := omega) only [↓g_in, ↓g_c0, ↓g_c1, ↓reduceIte, ↓y_lt, ↓y_q1, ↓y_q2, ↓sn_q3, ↓sn_t1l, ↓sn_t1r, ↓sn_t2l, ↓sn_t2r, y_q1, y_q2, sn_q3, sn_t1l, sn_t1r, sn_t2l, sn_t2r, nI_clamp, x_leT, x_leF, x_ltT, x_ltF, x_eqT, x_eqF, x_le0T, x_le0F, x_0leT, x_lt0F, x_0ltT, x_0ltF, x_eq0T, x_eq0F, x_le1T, x_le1F, x_1leT, x_1leF, x_1ltT, x_1ltF, x_lt1T, x_lt1F, x_eq1T, x_eq1F, x_m1F, nI_add, nI_1, sn_mul, x_sub, x_sub1, sn_m1, l2, l3, l4, l5, l6, l7, l8, l9, l10, l11, l12, l13, l14, l15, l20, l30, l40, l48, l60, l64, l99, l100, l700, l999, not_true_eq_false, not_false_eq_true, x_t0, x_t1, lts1, x_10, x_1sub, eq_self, Nat.reduceSub, Nat.reduceAdd, Nat.reduceMul, ↓t1_of (c_chR1 hw h.ca hp hq), Nat.mul_comm p 4, d2, u2, c35]
        · simp (disch := omega) only [↓g_in, ↓g_c0, ↓g_c1, ↓reduceIte, ↓y_lt, ↓y_q1, ↓y_q2, ↓sn_q3, ↓sn_t1l, ↓sn_t1r, ↓sn_t2l, ↓sn_t2r, y_q1, y_q2, sn_q3, sn_t1l, sn_t1r, sn_t2l, sn_t2r, nI_clamp, x_leT, x_leF, x_ltT, x_ltF, x_eqT, x_eqF, x_le0T, x_le0F, x_0leT, x_lt0F, x_0ltT, x_0ltF, x_eq0T, x_eq0F, x_le1T, x_le1F, x_1leT, x_1leF, x_1ltT, x_1ltF, x_lt1T, x_lt1F, x_eq1T, x_eq1F, x_m1F, nI_add, nI_1, sn_mul, x_sub, x_sub1, sn_m1, l2, l3, l4, l5, l6, l7, l8, l9, l10, l11, l12, l13, l14, l15, l20, l30, l40, l48, l60, l64, l99, l100, l700, l999, not_true_eq_false, not_false_eq_true, x_t0, x_t1, lts1, x_10, x_1sub, eq_self, Nat.reduceSub, Nat.reduceAdd, Nat.reduceMul, ↓q2_of (m_isP1 hw h.ma h0 hp), ↓q2_of hw3, u3, m36]
      · rcases ix_or z (n := A 7 (4 * p + q)) (by omega) with hz | ⟨i, hi, rfl⟩
        · refine rej ?_ ?_
          · unfold F_VM_hear_22
            rcases hz with hz | hz
            · simp (disch := omega) only [↓g_in, ↓g_c0, ↓g_c1, ↓reduceIte, ↓y_lt, ↓y_q1, ↓y_q2, ↓sn_q3, ↓sn_t1l, ↓sn_t1r, ↓sn_t2l, ↓sn_t2r, y_q1, y_q2, sn_q3, sn_t1l, sn_t1r, sn_t2l, sn_t2r, nI_clamp, x_leT, x_leF, x_ltT, x_ltF, x_eqT, x_eqF, x_le0T, x_le0F, x_0leT, x_lt0F, x_0ltT, x_0ltF, x_eq0T, x_eq0F, x_le1T, x_le1F, x_1leT, x_1leF, x_1ltT, x_1ltF, x_lt1T, x_lt1F, x_eq1T, x_eq1F, x_m1F, nI_add, nI_1, sn_mul, x_sub, x_sub1, sn_m1, l2, l3, l4, l5, l6, l7, l8, l9, l10, l11, l12, l13, l14, l15, l20, l30, l40, l48, l60, l64, l99, l100, l700, l999, not_true_eq_false, not_false_eq_true, x_t0, x_t1, lts1, x_10, x_1sub, eq_self, Nat.reduceSub, Nat.reduceAdd, Nat.reduceMul, ↓t1_of (c_chR1 hw h.ca hp hq), hz, u2, c35]
            · have e1 := ix_lt hz (by omega)
              have e2 : ¬ z < nI (A 7 (4 * p + q)) := Int32.not_lt.mpr hz
              simp (disch := omega) only [↓g_in, ↓g_c0, ↓g_c1, ↓reduceIte, ↓y_lt, ↓y_q1, ↓y_q2, ↓sn_q3, ↓sn_t1l, ↓sn_t1r, ↓sn_t2l, ↓sn_t2r, y_q1, y_q2, sn_q3, sn_t1l, sn_t1r, sn_t2l, sn_t2r, nI_clamp, x_leT, x_leF, x_ltT, x_ltF, x_eqT, x_eqF, x_le0T, x_le0F, x_0leT, x_lt0F, x_0ltT, x_0ltF, x_eq0T, x_eq0F, x_le1T, x_le1F, x_1leT, x_1leF, x_1ltT, x_1ltF, x_lt1T, x_lt1F, x_eq1T, x_eq1F, x_m1F, nI_add, nI_1, sn_mul, x_sub, x_sub1, sn_m1, l2, l3, l4, l5, l6, l7, l8, l9, l10, l11, l12, l13, l14, l15, l20, l30, l40, l48, l60, l64, l99, l100, l700, l999, not_true_eq_false, not_false_eq_true, x_t0, x_t1, lts1, x_10, x_1sub, eq_self, Nat.reduceSub, Nat.reduceAdd, Nat.reduceMul, ↓t1_of (c_chR1 hw h.ca hp hq), e1, Nat.mul_comm p 4, d2, e2, u2, c35]
          · rcases hz with hz | hz
            · simp (disch := omega) only [↓g_in, ↓g_c0, ↓g_c1, ↓reduceIte, ↓y_lt, ↓y_q1, ↓y_q2, ↓sn_q3, ↓sn_t1l, ↓sn_t1r, ↓sn_t2l, ↓sn_t2r, y_q1, y_q2, sn_q3, sn_t1l, sn_t1r, sn_t2l, sn_t2r, nI_clamp, x_leT, x_leF, x_ltT, x_ltF, x_eqT, x_eqF, x_le0T, x_le0F, x_0leT, x_lt0F, x_0ltT, x_0ltF, x_eq0T, x_eq0F, x_le1T, x_le1F, x_1leT, x_1leF, x_1ltT, x_1ltF, x_lt1T, x_lt1F, x_eq1T, x_eq1F, x_m1F, nI_add, nI_1, sn_mul, x_sub, x_sub1, sn_m1, l2, l3, l4, l5, l6, l7, l8, l9, l10, l11, l12, l13, l14, l15, l20, l30, l40, l48, l60, l64, l99, l100, l700, l999, not_true_eq_false, not_false_eq_true, x_t0, x_t1, lts1, x_10, x_1sub, eq_self, Nat.reduceSub, Nat.reduceAdd, Nat.reduceMul, ↓q2_of (m_isP1 hw h.ma h0 hp), ↓q2_of hw3, u3, hz, m36]
            · have e1 := ix_lt hz (by omega)
              simp (disch := omega) only [↓g_in, ↓g_c0, ↓g_c1, ↓reduceIte, ↓y_lt, ↓y_q1, ↓y_q2, ↓sn_q3, ↓sn_t1l, ↓sn_t1r, ↓sn_t2l, ↓sn_t2r, y_q1, y_q2, sn_q3, sn_t1l, sn_t1r, sn_t2l, sn_t2r, nI_clamp, x_leT, x_leF, x_ltT, x_ltF, x_eqT, x_eqF, x_le0T, x_le0F, x_0leT, x_lt0F, x_0ltT, x_0ltF, x_eq0T, x_eq0F, x_le1T, x_le1F, x_1leT, x_1leF, x_1ltT, x_1ltF, x_lt1T, x_lt1F, x_eq1T, x_eq1F, x_m1F, nI_add, nI_1, sn_mul, x_sub, x_sub1, sn_m1, l2, l3, l4, l5, l6, l7, l8, l9, l10, l11, l12, l13, l14, l15, l20, l30, l40, l48, l60, l64, l99, l100, l700, l999, not_true_eq_false, not_false_eq_true, x_t0, x_t1, lts1, x_10, x_1sub, eq_self, Nat.reduceSub, Nat.reduceAdd, Nat.reduceMul, ↓q2_of (m_isP1 hw h.ma h0 hp), ↓q2_of hw3, u3, e1, hno, hz, m36]
        · rcases ix_or w (n := 61) (by omega) with hv | ⟨v, hv, rfl⟩
          · refine rej ?_ ?_
            · unfold F_VM_hear_22
              rcases hv with hv | hv
              · simp (disch := omega) only [↓g_in, ↓g_c0, ↓g_c1, ↓reduceIte, ↓y_lt, ↓y_q1, ↓y_q2, ↓sn_q3, ↓sn_t1l, ↓sn_t1r, ↓sn_t2l, ↓sn_t2r, y_q1, y_q2, sn_q3, sn_t1l, sn_t1r, sn_t2l, sn_t2r, nI_clamp, x_leT, x_leF, x_ltT, x_ltF, x_eqT, x_eqF, x_le0T, x_le0F, x_0leT, x_lt0F, x_0ltT, x_0ltF, x_eq0T, x_eq0F, x_le1T, x_le1F, x_1leT, x_1leF, x_1ltT, x_1ltF, x_lt1T, x_lt1F, x_eq1T, x_eq1F, x_m1F, nI_add, nI_1, sn_mul, x_sub, x_sub1, sn_m1, l2, l3, l4, l5, l6, l7, l8, l9, l10, l11, l12, l13, l14, l15, l20, l30, l40, l48, l60, l64, l99, l100, l700, l999, not_true_eq_false, not_false_eq_true, x_t0, x_t1, lts1, x_10, x_1sub, eq_self, Nat.reduceSub, Nat.reduceAdd, Nat.reduceMul, ↓t1_of (c_chR1 hw h.ca hp hq), Nat.mul_comm p 4, d2, u2, hv, c35]
              · have e1 := ix_lt hv (by omega)
                have e2 : ¬ w ≤ nI 60 := ix_99 (n := 60) hv (by omega)
                simp (disch := omega) only [↓g_in, ↓g_c0, ↓g_c1, ↓reduceIte, ↓y_lt, ↓y_q1, ↓y_q2, ↓sn_q3, ↓sn_t1l, ↓sn_t1r, ↓sn_t2l, ↓sn_t2r, y_q1, y_q2, sn_q3, sn_t1l, sn_t1r, sn_t2l, sn_t2r, nI_clamp, x_leT, x_leF, x_ltT, x_ltF, x_eqT, x_eqF, x_le0T, x_le0F, x_0leT, x_lt0F, x_0ltT, x_0ltF, x_eq0T, x_eq0F, x_le1T, x_le1F, x_1leT, x_1leF, x_1ltT, x_1ltF, x_lt1T, x_lt1F, x_eq1T, x_eq1F, x_m1F, nI_add, nI_1, sn_mul, x_sub, x_sub1, sn_m1, l2, l3, l4, l5, l6, l7, l8, l9, l10, l11, l12, l13, l14, l15, l20, l30, l40, l48, l60, l64, l99, l100, l700, l999, not_true_eq_false, not_false_eq_true, x_t0, x_t1, lts1, x_10, x_1sub, eq_self, Nat.reduceSub, Nat.reduceAdd, Nat.reduceMul, ↓t1_of (c_chR1 hw h.ca hp hq), Nat.mul_comm p 4, d2, u2, e1, e2, c35]
            · simp (disch := omega) only [↓g_in, ↓g_c0, ↓g_c1, ↓reduceIte, ↓y_lt, ↓y_q1, ↓y_q2, ↓sn_q3, ↓sn_t1l, ↓sn_t1r, ↓sn_t2l, ↓sn_t2r, y_q1, y_q2, sn_q3, sn_t1l, sn_t1r, sn_t2l, sn_t2r, nI_clamp, x_leT, x_leF, x_ltT, x_ltF, x_eqT, x_eqF, x_le0T, x_le0F, x_0leT, x_lt0F, x_0ltT, x_0ltF, x_eq0T, x_eq0F, x_le1T, x_le1F, x_1leT, x_1leF, x_1ltT, x_1ltF, x_lt1T, x_lt1F, x_eq1T, x_eq1F, x_m1F, nI_add, nI_1, sn_mul, x_sub, x_sub1, sn_m1, l2, l3, l4, l5, l6, l7, l8, l9, l10, l11, l12, l13, l14, l15, l20, l30, l40, l48, l60, l64, l99, l100, l700, l999, not_true_eq_false, not_false_eq_true, x_t0, x_t1, lts1, x_10, x_1sub, eq_self, Nat.reduceSub, Nat.reduceAdd, Nat.reduceMul, ↓q2_of (m_isP1 hw h.ma h0 hp), ↓q2_of hw3, u3, hno, ↓q1_of (m_wi0 (y := 60) (n := 60) hv (by omega) rfl), m36]
          · have d3' := d3 i hi
            have e7 : u + 1 ≤ 8 := by omega
            refine ans_v (r := .inl (nI (u + 1))) (v := nI (u + 1)) (C' := sd_up (sd_up (sd_up (sd_up C 11 u (nI (4 * p + q))) 12 u (nI (A 8 (12 * (4 * p + q) + i)))) 13 u (nI v)) 8 6 (nI (u + 1))) (M' := sd_up (sd_up (sd_up (sd_up M1 91 (3 * u) (nI (4 * p + q))) 91 (3 * u + 1) (nI i)) 91 (3 * u + 2) (nI v)) 61 53 (nI (u + 1))) ?_ ?_ ?_ (fun k hk => by rw [up_n (by omega), up_n (by omega), up_n (by omega), up_n (by omega)]) (fun k hk => by rw [up_n (by omega), up_n (by omega), up_n (by omega), up_n (by omega), hs.2.2 k hk]) rfl (by rw [up_m (by omega), up_n (by omega), up_n (by omega), up_n (by omega)]; exact h0)
            · unfold F_VM_hear_22 F_Story_addHeard
              simp (disch := omega) only [↓g_in, ↓g_c0, ↓g_c1, ↓reduceIte, ↓y_lt, ↓y_q1, ↓y_q2, ↓sn_q3, ↓sn_t1l, ↓sn_t1r, ↓sn_t2l, ↓sn_t2r, y_q1, y_q2, sn_q3, sn_t1l, sn_t1r, sn_t2l, sn_t2r, nI_clamp, x_leT, x_leF, x_ltT, x_ltF, x_eqT, x_eqF, x_le0T, x_le0F, x_0leT, x_lt0F, x_0ltT, x_0ltF, x_eq0T, x_eq0F, x_le1T, x_le1F, x_1leT, x_1leF, x_1ltT, x_1ltF, x_lt1T, x_lt1F, x_eq1T, x_eq1F, x_m1F, nI_add, nI_1, sn_mul, x_sub, x_sub1, sn_m1, l2, l3, l4, l5, l6, l7, l8, l9, l10, l11, l12, l13, l14, l15, l20, l30, l40, l48, l60, l64, l99, l100, l700, l999, not_true_eq_false, not_false_eq_true, x_t0, x_t1, lts1, x_10, x_1sub, eq_self, Nat.reduceSub, Nat.reduceAdd, Nat.reduceMul, ↓t1_of (c_chR1 hw h.ca hp hq), Nat.mul_comm p 4, Nat.mul_comm (4 * p + q) 12, d2, d3', u2, up_n, up_s]
            · have hwi := m_wi1 (s := v) (y := 60) (n := 60) hv (by omega) rfl
              have hwi2 : F_Mo_within (nI v) 0 (nI 60) = some 1 := hwi
              simp (disch := omega) only [↓g_in, ↓g_c0, ↓g_c1, ↓reduceIte, ↓y_lt, ↓y_q1, ↓y_q2, ↓sn_q3, ↓sn_t1l, ↓sn_t1r, ↓sn_t2l, ↓sn_t2r, y_q1, y_q2, sn_q3, sn_t1l, sn_t1r, sn_t2l, sn_t2r, nI_clamp, x_leT, x_leF, x_ltT, x_ltF, x_eqT, x_eqF, x_le0T, x_le0F, x_0leT, x_lt0F, x_0ltT, x_0ltF, x_eq0T, x_eq0F, x_le1T, x_le1F, x_1leT, x_1leF, x_1ltT, x_1ltF, x_lt1T, x_lt1F, x_eq1T, x_eq1F, x_m1F, nI_add, nI_1, sn_mul, x_sub, x_sub1, sn_m1, l2, l3, l4, l5, l6, l7, l8, l9, l10, l11, l12, l13, l14, l15, l20, l30, l40, l48, l60, l64, l99, l100, l700, l999, not_true_eq_false, not_false_eq_true, x_t0, x_t1, lts1, x_10, x_1sub, eq_self, Nat.reduceSub, Nat.reduceAdd, Nat.reduceMul, ↓q2_of (m_isP1 hw h.ma h0 hp), ↓q2_of hw3, u3, hno, hwi2, up_n, up_s]
            · refine h.act (fun k h1 h2 h3 h4 h5 h6 => by rw [up_n (by omega), up_n (by omega), up_n (by omega), up_n (by omega)]) (fun k h1 h2 h3 h4 h5 h6 h7 h8 h9 => by rw [up_n h1, up_n h8, up_n h8, up_n h8]) (fun j h1 h2 h3 h4 => by rw [up_m h3, up_n (by omega), up_n (by omega), up_n (by omega)]) ⟨?_, ?_, ?_⟩ (fun k hk => by rw [up_n (by omega), up_n (by omega), up_n (by omega), up_n (by omega), up_n (by omega), up_n (by omega), up_n (by omega), up_n (by omega)]; exact h.re k hk)
              · rw [up_n (by omega), up_n (by omega), up_n (by omega), up_n (by omega)]
                show stR (A 0 0) (M1 86) ((sd_up (sd_up (sd_up (sd_up C 11 u (nI (4 * p + q))) 12 u (nI (A 8 (12 * (4 * p + q) + i)))) 13 u (nI v)) 8 6 (nI (u + 1))) 9)
                rw [up_n (by omega), up_n (by omega), up_n (by omega), up_n (by omega)]
                exact h.st
              · exact ahR_s h.ah (by rw [up_m (by omega), up_n (by omega), up_n (by omega), up_n (by omega)]) (by rw [up_m (by omega), up_n (by omega), up_n (by omega), up_n (by omega)]) (by rw [up_n (by omega), up_n (by omega), up_n (by omega), up_n (by omega)]) (by rw [up_n (by omega), up_n (by omega), up_n (by omega), up_n (by omega)])
              · refine ⟨u + 1, e7, up_s, up_s, fun k hk => ?_⟩
                by_cases e : k = u
                · subst e
                  refine ⟨4 * p + q, i, v, hr, hi, by omega, ?_, ?_, ?_, ?_, ?_, ?_⟩
                  · rw [up_n (by omega), up_m (by omega), up_m (by omega)]; exact up_s
                  · rw [up_n (by omega), up_m (by omega)]; exact up_s
                  · rw [up_n (by omega)]; exact up_s
                  · show (sd_up (sd_up (sd_up (sd_up C 11 k (nI (4 * p + q))) 12 k _) 13 k (nI v)) 8 6 _) 11 k = _
                    rw [up_n (by omega), up_n (by omega), up_n (by omega)]; exact up_s
                  · show (sd_up (sd_up (sd_up (sd_up C 11 k (nI (4 * p + q))) 12 k _) 13 k (nI v)) 8 6 _) 12 k = _
                    rw [up_n (by omega), up_n (by omega)]; exact up_s
                  · show (sd_up (sd_up (sd_up (sd_up C 11 k (nI (4 * p + q))) 12 k _) 13 k (nI v)) 8 6 _) 13 k = _
                    rw [up_n (by omega)]; exact up_s
                · obtain ⟨r', i', v', f1, f2, f3, f4, f5, f6, f7, f8, f9⟩ := u4 k (by omega)
                  refine ⟨r', i', v', f1, f2, f3, ?_, ?_, ?_, ?_, ?_, ?_⟩
                  · rw [up_n (by omega), up_m (by omega), up_m (by omega), up_m (by omega)]; exact f4
                  · rw [up_n (by omega), up_m (by omega), up_m (by omega), up_m (by omega)]; exact f5
                  · rw [up_n (by omega), up_m (by omega), up_m (by omega), up_m (by omega)]; exact f6
                  · show (sd_up (sd_up (sd_up (sd_up C 11 u (nI (4 * p + q))) 12 u _) 13 u (nI v)) 8 6 _) 11 k = _
                    rw [up_n (by omega), up_n (by omega), up_n (by omega), up_m e]; exact f7
                  · show (sd_up (sd_up (sd_up (sd_up C 11 u (nI (4 * p + q))) 12 u _) 13 u (nI v)) 8 6 _) 12 k = _
                    rw [up_n (by omega), up_n (by omega), up_m e, up_n (by omega)]; exact f8
                  · show (sd_up (sd_up (sd_up (sd_up C 11 u (nI (4 * p + q))) 12 u _) 13 u (nI v)) 8 6 _) 13 k = _
                    rw [up_n (by omega), up_m e, up_n (by omega), up_n (by omega)]; exact f9
end AC
